theorem dX6_readJudges_81 : decode cX6_readJudges 81 = .ok (.invokevirtual 27, 3) := by decide +kernel
theorem dX6_readJudges_84 : decode cX6_readJudges 84 = .ok (.ifCond .eq 5, 3) := by decide +kernel
theorem dX6_readJudges_87 : decode cX6_readJudges 87 = .ok (.iconst 1, 1) := by decide +kernel
theorem dX6_readJudges_88 : decode cX6_readJudges 88 = .ok (.ireturn, 1) := by decide +kernel
theorem dX6_readJudges_89 : decode cX6_readJudges 89 = .ok (.aload_n 1, 1) := by decide +kernel
theorem dX6_readJudges_90 : decode cX6_readJudges 90 = .ok (.getfield 70, 3) := by decide +kernel
theorem dX6_readJudges_93 : decode cX6_readJudges 93 = .ok (.bipush 6, 2) := by decide +kernel
theorem dX6_readJudges_95 : decode cX6_readJudges 95 = .ok (.if_icmp .ge 12, 3) := by decide +kernel
theorem dX6_readJudges_98 : decode cX6_readJudges 98 = .ok (.aload_n 0, 1) := by decide +kernel
theorem dX6_readJudges_99 : decode cX6_readJudges 99 = .ok (.bipush 44, 2) := by decide +kernel
theorem dX6_readJudges_101 : decode cX6_readJudges 101 = .ok (.invokevirtual 27, 3) := by decide +kernel
theorem dX6_readJudges_104 : decode cX6_readJudges 104 = .ok (.ifCond .ne 5, 3) := by decide +kernel
theorem dX6_readJudges_107 : decode cX6_readJudges 107 = .ok (.iconst 0, 1) := by decide +kernel
theorem dX6_readJudges_108 : decode cX6_readJudges 108 = .ok (.ireturn, 1) := by decide +kernel
theorem dX6_readJudges_109 : decode cX6_readJudges 109 = .ok (.iinc 2 1, 3) := by decide +kernel
theorem dX6_readJudges_112 : decode cX6_readJudges 112 = .ok (.goto (-110), 3) := by decide +kernel
theorem dX6_readJudges_115 : decode cX6_readJudges 115 = .ok (.iconst 0, 1) := by decide +kernel
theorem dX6_readJudges_116 : decode cX6_readJudges 116 = .ok (.ireturn, 1) := by decide +kernel
set_option maxRecDepth 20000 in
theorem ggX6_readCases_X6_readCase : GoodIn wsX6_readCases wsX6_readCase := goodIn_r _ [6, 7, 8, 9, 10, 11, 12, 13, 14, 5, 15, 16, 17, 18, 19, 20, 21, 22, 27, 28, 29, 30, 31, 32, 33, 34, 35, 36, 37, 38, 39, 40, 41, 42, 43] (by decide +kernel) (by decide +kernel)
set_option maxRecDepth 20000 in
theorem gX6_readCases_X6_readCase : GoodIn wsX6_readCases (wsV RX6 73 RX6 yX6_readCase wsX6_readCase) := goodIn_app (goodIn_of _ (by decide +kernel)) ggX6_readCases_X6_readCase
set_option maxRecDepth 20000 in
theorem ggX6_readCases_X6_takes : GoodIn wsX6_readCases wsX6_takes := goodIn_r _ [26, 16, 17, 18, 19, 5, 20, 21, 22, 41, 42, 43] (by decide +kernel) (by decide +kernel)
set_option maxRecDepth 20000 in
theorem gX6_readCases_X6_takes : GoodIn wsX6_readCases (wsV RX6 27 RX6 yX6_takes wsX6_takes) := goodIn_app (goodIn_of _ (by decide +kernel)) ggX6_readCases_X6_takes
theorem dX6_readCases_0 : decode cX6_readCases 0 = .ok (.iconst 0, 1) := by decide +kernel
theorem dX6_readCases_1 : decode cX6_readCases 1 = .ok (.istore_n 2, 1) := by decide +kernel
theorem dX6_readCases_2 : decode cX6_readCases 2 = .ok (.iload_n 2, 1) := by decide +kernel
theorem dX6_readCases_3 : decode cX6_readCases 3 = .ok (.bipush 12, 2) := by decide +kernel
theorem dX6_readCases_5 : decode cX6_readCases 5 = .ok (.if_icmp .ge 58, 3) := by decide +kernel
theorem dX6_readCases_8 : decode cX6_readCases 8 = .ok (.aload_n 0, 1) := by decide +kernel
theorem dX6_readCases_9 : decode cX6_readCases 9 = .ok (.aload_n 1, 1) := by decide +kernel
theorem dX6_readCases_10 : decode cX6_readCases 10 = .ok (.iload_n 2, 1) := by decide +kernel
theorem dX6_readCases_11 : decode cX6_readCases 11 = .ok (.invokevirtual 73, 3) := by decide +kernel
theorem dX6_readCases_14 : decode cX6_readCases 14 = .ok (.ifCond .ne 5, 3) := by decide +kernel
theorem dX6_readCases_17 : decode cX6_readCases 17 = .ok (.iconst 0, 1) := by decide +kernel
theorem dX6_readCases_18 : decode cX6_readCases 18 = .ok (.ireturn, 1) := by decide +kernel
theorem dX6_readCases_19 : decode cX6_readCases 19 = .ok (.aload_n 1, 1) := by decide +kernel
theorem dX6_readCases_20 : decode cX6_readCases 20 = .ok (.iload_n 2, 1) := by decide +kernel
theorem dX6_readCases_21 : decode cX6_readCases 21 = .ok (.iconst 1, 1) := by decide +kernel
theorem dX6_readCases_22 : decode cX6_readCases 22 = .ok (.iadd, 1) := by decide +kernel
theorem dX6_readCases_23 : decode cX6_readCases 23 = .ok (.putfield 77, 3) := by decide +kernel
theorem dX6_readCases_26 : decode cX6_readCases 26 = .ok (.aload_n 0, 1) := by decide +kernel
theorem dX6_readCases_27 : decode cX6_readCases 27 = .ok (.bipush 59, 2) := by decide +kernel
theorem dX6_readCases_29 : decode cX6_readCases 29 = .ok (.invokevirtual 27, 3) := by decide +kernel
theorem dX6_readCases_32 : decode cX6_readCases 32 = .ok (.ifCond .eq 5, 3) := by decide +kernel
theorem dX6_readCases_35 : decode cX6_readCases 35 = .ok (.iconst 1, 1) := by decide +kernel
theorem dX6_readCases_36 : decode cX6_readCases 36 = .ok (.ireturn, 1) := by decide +kernel
theorem dX6_readCases_37 : decode cX6_readCases 37 = .ok (.aload_n 1, 1) := by decide +kernel
theorem dX6_readCases_38 : decode cX6_readCases 38 = .ok (.getfield 77, 3) := by decide +kernel
theorem dX6_readCases_41 : decode cX6_readCases 41 = .ok (.bipush 12, 2) := by decide +kernel
theorem dX6_readCases_43 : decode cX6_readCases 43 = .ok (.if_icmp .ge 12, 3) := by decide +kernel
theorem dX6_readCases_46 : decode cX6_readCases 46 = .ok (.aload_n 0, 1) := by decide +kernel
theorem dX6_readCases_47 : decode cX6_readCases 47 = .ok (.bipush 44, 2) := by decide +kernel
theorem dX6_readCases_49 : decode cX6_readCases 49 = .ok (.invokevirtual 27, 3) := by decide +kernel
theorem dX6_readCases_52 : decode cX6_readCases 52 = .ok (.ifCond .ne 5, 3) := by decide +kernel
theorem dX6_readCases_55 : decode cX6_readCases 55 = .ok (.iconst 0, 1) := by decide +kernel
theorem dX6_readCases_56 : decode cX6_readCases 56 = .ok (.ireturn, 1) := by decide +kernel
theorem dX6_readCases_57 : decode cX6_readCases 57 = .ok (.iinc 2 1, 3) := by decide +kernel
theorem dX6_readCases_60 : decode cX6_readCases 60 = .ok (.goto (-58), 3) := by decide +kernel
theorem dX6_readCases_63 : decode cX6_readCases 63 = .ok (.iconst 0, 1) := by decide +kernel
theorem dX6_readCases_64 : decode cX6_readCases 64 = .ok (.ireturn, 1) := by decide +kernel
set_option maxRecDepth 20000 in
theorem ggX6_readCase_X6_figureBelow : GoodIn wsX6_readCase wsX6_figureBelow := goodIn_r _ [10, 11, 12, 13, 14, 9, 15, 16, 17, 32, 33, 34] (by decide +kernel) (by decide +kernel)
set_option maxRecDepth 20000 in
theorem gX6_readCase_X6_figureBelow : GoodIn wsX6_readCase (wsV RX6 54 RX6 yX6_figureBelow wsX6_figureBelow) := goodIn_app (goodIn_of _ (by decide +kernel)) ggX6_readCase_X6_figureBelow
set_option maxRecDepth 20000 in
theorem ggX6_readCase_X6_byteHere : GoodIn wsX6_readCase wsX6_byteHere := goodIn_r _ [15, 11, 16, 17, 32, 33, 34] (by decide +kernel) (by decide +kernel)
set_option maxRecDepth 20000 in
theorem gX6_readCase_X6_byteHere : GoodIn wsX6_readCase (wsV RX6 86 RX6 yX6_byteHere wsX6_byteHere) := goodIn_app (goodIn_of _ (by decide +kernel)) ggX6_readCase_X6_byteHere
theorem dX6_readCase_0 : decode cX6_readCase 0 = .ok (.aload_n 1, 1) := by decide +kernel
theorem dX6_readCase_1 : decode cX6_readCase 1 = .ok (.getfield 80, 3) := by decide +kernel
theorem dX6_readCase_4 : decode cX6_readCase 4 = .ok (.iload_n 2, 1) := by decide +kernel
theorem dX6_readCase_5 : decode cX6_readCase 5 = .ok (.bipush (-4), 2) := by decide +kernel
theorem dX6_readCase_7 : decode cX6_readCase 7 = .ok (.iastore, 1) := by decide +kernel
theorem dX6_readCase_8 : decode cX6_readCase 8 = .ok (.aload_n 1, 1) := by decide +kernel
theorem dX6_readCase_9 : decode cX6_readCase 9 = .ok (.getfield 83, 3) := by decide +kernel
theorem dX6_readCase_12 : decode cX6_readCase 12 = .ok (.iload_n 2, 1) := by decide +kernel
theorem dX6_readCase_13 : decode cX6_readCase 13 = .ok (.aload_n 0, 1) := by decide +kernel
theorem dX6_readCase_14 : decode cX6_readCase 14 = .ok (.aload_n 1, 1) := by decide +kernel
theorem dX6_readCase_15 : decode cX6_readCase 15 = .ok (.getfield 61, 3) := by decide +kernel
theorem dX6_readCase_18 : decode cX6_readCase 18 = .ok (.invokevirtual 54, 3) := by decide +kernel
theorem dX6_readCase_21 : decode cX6_readCase 21 = .ok (.iastore, 1) := by decide +kernel
theorem dX6_readCase_22 : decode cX6_readCase 22 = .ok (.aload_n 1, 1) := by decide +kernel
theorem dX6_readCase_23 : decode cX6_readCase 23 = .ok (.getfield 83, 3) := by decide +kernel
theorem dX6_readCase_26 : decode cX6_readCase 26 = .ok (.iload_n 2, 1) := by decide +kernel
theorem dX6_readCase_27 : decode cX6_readCase 27 = .ok (.iaload, 1) := by decide +kernel
theorem dX6_readCase_28 : decode cX6_readCase 28 = .ok (.ifCond .lt 19, 3) := by decide +kernel
theorem dX6_readCase_31 : decode cX6_readCase 31 = .ok (.aload_n 0, 1) := by decide +kernel
theorem dX6_readCase_32 : decode cX6_readCase 32 = .ok (.invokevirtual 86, 3) := by decide +kernel
theorem dX6_readCase_35 : decode cX6_readCase 35 = .ok (.bipush 48, 2) := by decide +kernel
theorem dX6_readCase_37 : decode cX6_readCase 37 = .ok (.aload_n 1, 1) := by decide +kernel
theorem dX6_readCase_38 : decode cX6_readCase 38 = .ok (.getfield 83, 3) := by decide +kernel
theorem dX6_readCase_41 : decode cX6_readCase 41 = .ok (.iload_n 2, 1) := by decide +kernel
theorem dX6_readCase_42 : decode cX6_readCase 42 = .ok (.iaload, 1) := by decide +kernel
theorem dX6_readCase_43 : decode cX6_readCase 43 = .ok (.iadd, 1) := by decide +kernel
theorem dX6_readCase_44 : decode cX6_readCase 44 = .ok (.if_icmp .ne 5, 3) := by decide +kernel
theorem dX6_readCase_47 : decode cX6_readCase 47 = .ok (.iconst 0, 1) := by decide +kernel
theorem dX6_readCase_48 : decode cX6_readCase 48 = .ok (.ireturn, 1) := by decide +kernel
theorem dX6_readCase_49 : decode cX6_readCase 49 = .ok (.aload_n 1, 1) := by decide +kernel
theorem dX6_readCase_50 : decode cX6_readCase 50 = .ok (.getfield 89, 3) := by decide +kernel
theorem dX6_readCase_53 : decode cX6_readCase 53 = .ok (.iload_n 2, 1) := by decide +kernel
theorem dX6_readCase_54 : decode cX6_readCase 54 = .ok (.aload_n 0, 1) := by decide +kernel
theorem dX6_readCase_55 : decode cX6_readCase 55 = .ok (.aload_n 1, 1) := by decide +kernel
theorem dX6_readCase_56 : decode cX6_readCase 56 = .ok (.getfield 61, 3) := by decide +kernel
theorem dX6_readCase_59 : decode cX6_readCase 59 = .ok (.invokevirtual 54, 3) := by decide +kernel
theorem dX6_readCase_62 : decode cX6_readCase 62 = .ok (.iastore, 1) := by decide +kernel
theorem dX6_readCase_63 : decode cX6_readCase 63 = .ok (.aload_n 1, 1) := by decide +kernel
theorem dX6_readCase_64 : decode cX6_readCase 64 = .ok (.getfield 89, 3) := by decide +kernel
theorem dX6_readCase_67 : decode cX6_readCase 67 = .ok (.iload_n 2, 1) := by decide +kernel
theorem dX6_readCase_68 : decode cX6_readCase 68 = .ok (.iaload, 1) := by decide +kernel
theorem dX6_readCase_69 : decode cX6_readCase 69 = .ok (.ifCond .ge 5, 3) := by decide +kernel
theorem dX6_readCase_72 : decode cX6_readCase 72 = .ok (.iconst 0, 1) := by decide +kernel
theorem dX6_readCase_73 : decode cX6_readCase 73 = .ok (.ireturn, 1) := by decide +kernel
theorem dX6_readCase_74 : decode cX6_readCase 74 = .ok (.aload_n 1, 1) := by decide +kernel
theorem dX6_readCase_75 : decode cX6_readCase 75 = .ok (.getfield 92, 3) := by decide +kernel
theorem dX6_readCase_78 : decode cX6_readCase 78 = .ok (.iload_n 2, 1) := by decide +kernel
theorem dX6_readCase_79 : decode cX6_readCase 79 = .ok (.aload_n 0, 1) := by decide +kernel
theorem dX6_readCase_80 : decode cX6_readCase 80 = .ok (.bipush 10, 2) := by decide +kernel
theorem dX6_readCase_82 : decode cX6_readCase 82 = .ok (.invokevirtual 54, 3) := by decide +kernel
theorem dX6_readCase_85 : decode cX6_readCase 85 = .ok (.iastore, 1) := by decide +kernel
theorem dX6_readCase_86 : decode cX6_readCase 86 = .ok (.aload_n 1, 1) := by decide +kernel
theorem dX6_readCase_87 : decode cX6_readCase 87 = .ok (.getfield 92, 3) := by decide +kernel
theorem dX6_readCase_90 : decode cX6_readCase 90 = .ok (.iload_n 2, 1) := by decide +kernel
theorem dX6_readCase_91 : decode cX6_readCase 91 = .ok (.iaload, 1) := by decide +kernel
theorem dX6_readCase_92 : decode cX6_readCase 92 = .ok (.ifCond .lt 7, 3) := by decide +kernel
theorem dX6_readCase_95 : decode cX6_readCase 95 = .ok (.iconst 1, 1) := by decide +kernel
theorem dX6_readCase_96 : decode cX6_readCase 96 = .ok (.goto 4, 3) := by decide +kernel
theorem dX6_readCase_99 : decode cX6_readCase 99 = .ok (.iconst 0, 1) := by decide +kernel
theorem dX6_readCase_100 : decode cX6_readCase 100 = .ok (.ireturn, 1) := by decide +kernel
set_option maxRecDepth 20000 in
theorem ggX6_readSits_X6_figureBelow : GoodIn wsX6_readSits wsX6_figureBelow := goodIn_r _ [7, 8, 9, 10, 11, 6, 12, 13, 14, 29, 30, 31] (by decide +kernel) (by decide +kernel)
set_option maxRecDepth 20000 in
theorem gX6_readSits_X6_figureBelow : GoodIn wsX6_readSits (wsV RX6 54 RX6 yX6_figureBelow wsX6_figureBelow) := goodIn_app (goodIn_of _ (by decide +kernel)) ggX6_readSits_X6_figureBelow
theorem dX6_readSits_0 : decode cX6_readSits 0 = .ok (.aload_n 1, 1) := by decide +kernel
theorem dX6_readSits_1 : decode cX6_readSits 1 = .ok (.aload_n 0, 1) := by decide +kernel
theorem dX6_readSits_2 : decode cX6_readSits 2 = .ok (.aload_n 1, 1) := by decide +kernel
theorem dX6_readSits_3 : decode cX6_readSits 3 = .ok (.getfield 70, 3) := by decide +kernel
theorem dX6_readSits_6 : decode cX6_readSits 6 = .ok (.invokevirtual 54, 3) := by decide +kernel
theorem dX6_readSits_9 : decode cX6_readSits 9 = .ok (.putfield 95, 3) := by decide +kernel
theorem dX6_readSits_12 : decode cX6_readSits 12 = .ok (.aload_n 1, 1) := by decide +kernel
theorem dX6_readSits_13 : decode cX6_readSits 13 = .ok (.getfield 95, 3) := by decide +kernel
theorem dX6_readSits_16 : decode cX6_readSits 16 = .ok (.ifCond .lt 7, 3) := by decide +kernel
theorem dX6_readSits_19 : decode cX6_readSits 19 = .ok (.iconst 1, 1) := by decide +kernel
theorem dX6_readSits_20 : decode cX6_readSits 20 = .ok (.goto 4, 3) := by decide +kernel
theorem dX6_readSits_23 : decode cX6_readSits 23 = .ok (.iconst 0, 1) := by decide +kernel
theorem dX6_readSits_24 : decode cX6_readSits 24 = .ok (.ireturn, 1) := by decide +kernel
theorem dX6_byteHere_0 : decode cX6_byteHere 0 = .ok (.aload_n 0, 1) := by decide +kernel
theorem dX6_byteHere_1 : decode cX6_byteHere 1 = .ok (.getfield 19, 3) := by decide +kernel
theorem dX6_byteHere_4 : decode cX6_byteHere 4 = .ok (.aload_n 0, 1) := by decide +kernel
theorem dX6_byteHere_5 : decode cX6_byteHere 5 = .ok (.getfield 15, 3) := by decide +kernel
theorem dX6_byteHere_8 : decode cX6_byteHere 8 = .ok (.if_icmp .ge 25, 3) := by decide +kernel
theorem dX6_byteHere_11 : decode cX6_byteHere 11 = .ok (.aload_n 0, 1) := by decide +kernel
theorem dX6_byteHere_12 : decode cX6_byteHere 12 = .ok (.getfield 19, 3) := by decide +kernel
theorem dX6_byteHere_15 : decode cX6_byteHere 15 = .ok (.sipush 130, 3) := by decide +kernel
theorem dX6_byteHere_18 : decode cX6_byteHere 18 = .ok (.if_icmp .ge 15, 3) := by decide +kernel
theorem dX6_byteHere_21 : decode cX6_byteHere 21 = .ok (.aload_n 0, 1) := by decide +kernel
theorem dX6_byteHere_22 : decode cX6_byteHere 22 = .ok (.getfield 9, 3) := by decide +kernel
theorem dX6_byteHere_25 : decode cX6_byteHere 25 = .ok (.aload_n 0, 1) := by decide +kernel
theorem dX6_byteHere_26 : decode cX6_byteHere 26 = .ok (.getfield 19, 3) := by decide +kernel
theorem dX6_byteHere_29 : decode cX6_byteHere 29 = .ok (.iaload, 1) := by decide +kernel
theorem dX6_byteHere_30 : decode cX6_byteHere 30 = .ok (.goto 4, 3) := by decide +kernel
theorem dX6_byteHere_33 : decode cX6_byteHere 33 = .ok (.iconst (-1), 1) := by decide +kernel
theorem dX6_byteHere_34 : decode cX6_byteHere 34 = .ok (.ireturn, 1) := by decide +kernel
set_option maxRecDepth 20000 in
theorem ggX6_takes_X6_byteHere : GoodIn wsX6_takes wsX6_byteHere := goodIn_r _ [6, 1, 7, 8, 9, 10, 11] (by decide +kernel) (by decide +kernel)
set_option maxRecDepth 20000 in
theorem gX6_takes_X6_byteHere : GoodIn wsX6_takes (wsV RX6 86 RX6 yX6_byteHere wsX6_byteHere) := goodIn_app (goodIn_of _ (by decide +kernel)) ggX6_takes_X6_byteHere
theorem dX6_takes_0 : decode cX6_takes 0 = .ok (.aload_n 0, 1) := by decide +kernel
theorem dX6_takes_1 : decode cX6_takes 1 = .ok (.invokevirtual 86, 3) := by decide +kernel
theorem dX6_takes_4 : decode cX6_takes 4 = .ok (.iload_n 1, 1) := by decide +kernel
theorem dX6_takes_5 : decode cX6_takes 5 = .ok (.if_icmp .eq 5, 3) := by decide +kernel
theorem dX6_takes_8 : decode cX6_takes 8 = .ok (.iconst 0, 1) := by decide +kernel
theorem dX6_takes_9 : decode cX6_takes 9 = .ok (.ireturn, 1) := by decide +kernel
theorem dX6_takes_10 : decode cX6_takes 10 = .ok (.aload_n 0, 1) := by decide +kernel
theorem dX6_takes_11 : decode cX6_takes 11 = .ok (.dup, 1) := by decide +kernel
theorem dX6_takes_12 : decode cX6_takes 12 = .ok (.getfield 19, 3) := by decide +kernel
theorem dX6_takes_15 : decode cX6_takes 15 = .ok (.iconst 1, 1) := by decide +kernel
theorem dX6_takes_16 : decode cX6_takes 16 = .ok (.iadd, 1) := by decide +kernel
theorem dX6_takes_17 : decode cX6_takes 17 = .ok (.putfield 19, 3) := by decide +kernel
theorem dX6_takes_20 : decode cX6_takes 20 = .ok (.iconst 1, 1) := by decide +kernel
theorem dX6_takes_21 : decode cX6_takes 21 = .ok (.ireturn, 1) := by decide +kernel
set_option maxRecDepth 20000 in
theorem ggX6_figureBelow_X6_byteHere : GoodIn wsX6_figureBelow wsX6_byteHere := goodIn_r _ [6, 1, 7, 8, 9, 10, 11] (by decide +kernel) (by decide +kernel)
set_option maxRecDepth 20000 in
theorem gX6_figureBelow_X6_byteHere : GoodIn wsX6_figureBelow (wsV RX6 86 RX6 yX6_byteHere wsX6_byteHere) := goodIn_app (goodIn_of _ (by decide +kernel)) ggX6_figureBelow_X6_byteHere
theorem dX6_figureBelow_0 : decode cX6_figureBelow 0 = .ok (.aload_n 0, 1) := by decide +kernel
theorem dX6_figureBelow_1 : decode cX6_figureBelow 1 = .ok (.invokevirtual 86, 3) := by decide +kernel
theorem dX6_figureBelow_4 : decode cX6_figureBelow 4 = .ok (.bipush 48, 2) := by decide +kernel
theorem dX6_figureBelow_6 : decode cX6_figureBelow 6 = .ok (.isub, 1) := by decide +kernel
theorem dX6_figureBelow_7 : decode cX6_figureBelow 7 = .ok (.istore_n 2, 1) := by decide +kernel
theorem dX6_figureBelow_8 : decode cX6_figureBelow 8 = .ok (.iload_n 2, 1) := by decide +kernel
theorem dX6_figureBelow_9 : decode cX6_figureBelow 9 = .ok (.ifCond .lt 8, 3) := by decide +kernel
theorem dX6_figureBelow_12 : decode cX6_figureBelow 12 = .ok (.iload_n 2, 1) := by decide +kernel
theorem dX6_figureBelow_13 : decode cX6_figureBelow 13 = .ok (.iload_n 1, 1) := by decide +kernel
theorem dX6_figureBelow_14 : decode cX6_figureBelow 14 = .ok (.if_icmp .lt 5, 3) := by decide +kernel
theorem dX6_figureBelow_17 : decode cX6_figureBelow 17 = .ok (.iconst (-1), 1) := by decide +kernel
theorem dX6_figureBelow_18 : decode cX6_figureBelow 18 = .ok (.ireturn, 1) := by decide +kernel
theorem dX6_figureBelow_19 : decode cX6_figureBelow 19 = .ok (.aload_n 0, 1) := by decide +kernel
theorem dX6_figureBelow_20 : decode cX6_figureBelow 20 = .ok (.dup, 1) := by decide +kernel
theorem dX6_figureBelow_21 : decode cX6_figureBelow 21 = .ok (.getfield 19, 3) := by decide +kernel
theorem dX6_figureBelow_24 : decode cX6_figureBelow 24 = .ok (.iconst 1, 1) := by decide +kernel
theorem dX6_figureBelow_25 : decode cX6_figureBelow 25 = .ok (.iadd, 1) := by decide +kernel
theorem dX6_figureBelow_26 : decode cX6_figureBelow 26 = .ok (.putfield 19, 3) := by decide +kernel
theorem dX6_figureBelow_29 : decode cX6_figureBelow 29 = .ok (.iload_n 2, 1) := by decide +kernel
theorem dX6_figureBelow_30 : decode cX6_figureBelow 30 = .ok (.ireturn, 1) := by decide +kernel
set_option maxRecDepth 20000 in
theorem ggX6_kindHere_X6_byteHere : GoodIn wsX6_kindHere wsX6_byteHere := goodIn_r _ [5, 6, 7, 8, 9, 10, 11] (by decide +kernel) (by decide +kernel)
set_option maxRecDepth 20000 in
theorem gX6_kindHere_X6_byteHere : GoodIn wsX6_kindHere (wsV RX6 86 RX6 yX6_byteHere wsX6_byteHere) := goodIn_app (goodIn_of _ (by decide +kernel)) ggX6_kindHere_X6_byteHere
theorem dX6_kindHere_0 : decode cX6_kindHere 0 = .ok (.aload_n 0, 1) := by decide +kernel
theorem dX6_kindHere_1 : decode cX6_kindHere 1 = .ok (.invokevirtual 86, 3) := by decide +kernel
theorem dX6_kindHere_4 : decode cX6_kindHere 4 = .ok (.lookupswitch 62 #[(98, 54), (102, 60), (108, 58), (112, 52), (115, 56)], 52) := by decide +kernel
theorem dX6_kindHere_56 : decode cX6_kindHere 56 = .ok (.iconst 1, 1) := by decide +kernel
theorem dX6_kindHere_57 : decode cX6_kindHere 57 = .ok (.ireturn, 1) := by decide +kernel
theorem dX6_kindHere_58 : decode cX6_kindHere 58 = .ok (.iconst 2, 1) := by decide +kernel
theorem dX6_kindHere_59 : decode cX6_kindHere 59 = .ok (.ireturn, 1) := by decide +kernel
theorem dX6_kindHere_60 : decode cX6_kindHere 60 = .ok (.iconst 3, 1) := by decide +kernel
theorem dX6_kindHere_61 : decode cX6_kindHere 61 = .ok (.ireturn, 1) := by decide +kernel
theorem dX6_kindHere_62 : decode cX6_kindHere 62 = .ok (.iconst 4, 1) := by decide +kernel
theorem dX6_kindHere_63 : decode cX6_kindHere 63 = .ok (.ireturn, 1) := by decide +kernel
theorem dX6_kindHere_64 : decode cX6_kindHere 64 = .ok (.iconst 5, 1) := by decide +kernel
theorem dX6_kindHere_65 : decode cX6_kindHere 65 = .ok (.ireturn, 1) := by decide +kernel
theorem dX6_kindHere_66 : decode cX6_kindHere 66 = .ok (.iconst 0, 1) := by decide +kernel
theorem dX6_kindHere_67 : decode cX6_kindHere 67 = .ok (.ireturn, 1) := by decide +kernel
set_option maxRecDepth 20000 in
theorem ggX7_init_X6_init : GoodIn wsX7_init wsX6_init := goodIn_r _ [31, 32, 2, 3, 33, 34, 35, 36, 99, 100, 101] (by decide +kernel) (by decide +kernel)
set_option maxRecDepth 20000 in
theorem gX7_init_X6_init_n11 : GoodIn wsX7_init (wsX6_init) := ggX7_init_X6_init
set_option maxRecDepth 20000 in
theorem ggX7_init_X4_init : GoodIn wsX7_init wsX4_init := goodIn_r _ [39, 40, 2, 3, 41, 42, 43, 44, 45, 46, 47, 48, 49, 50, 51, 52, 53, 54, 55, 110, 111, 112, 143, 144, 145, 146, 147, 148] (by decide +kernel) (by decide +kernel)
set_option maxRecDepth 20000 in
theorem gX7_init_X4_init : GoodIn wsX7_init (wsX4_init) := ggX7_init_X4_init
set_option maxRecDepth 20000 in
theorem ggX7_init_X3_init : GoodIn wsX7_init wsX3_init := goodIn_r _ [57, 58, 2, 3, 33, 59, 60, 61, 62, 63, 64, 65, 66, 113, 114, 115, 116, 117, 118, 119, 120] (by decide +kernel) (by decide +kernel)
set_option maxRecDepth 20000 in
theorem gX7_init_X3_init_n25 : GoodIn wsX7_init (wsX3_init) := ggX7_init_X3_init
set_option maxRecDepth 20000 in
theorem ggX7_init_X2_init : GoodIn wsX7_init wsX2_init := goodIn_r _ [68, 69, 2, 3, 33, 70, 71, 72, 73, 121, 122, 123, 124] (by decide +kernel) (by decide +kernel)
set_option maxRecDepth 20000 in
theorem gX7_init_X2_init_n32 : GoodIn wsX7_init (wsX2_init) := ggX7_init_X2_init
set_option maxRecDepth 20000 in
theorem ggX7_init_X1_init : GoodIn wsX7_init wsX1_init := goodIn_r _ [75, 76, 2, 3, 33, 77, 78, 79, 80, 81, 82, 83, 84, 85, 86, 87, 88, 89, 90, 125, 126, 127, 128, 129, 130, 131, 132, 133, 134, 135, 136, 137, 138] (by decide +kernel) (by decide +kernel)
set_option maxRecDepth 20000 in
theorem gX7_init_X1_init_n43 : GoodIn wsX7_init (wsX1_init) := ggX7_init_X1_init
set_option maxRecDepth 20000 in
theorem ggX7_init_X5_init : GoodIn wsX7_init wsX5_init := goodIn_r _ [92, 93, 2, 3, 94, 95, 96, 97, 98, 139, 140, 141, 142] (by decide +kernel) (by decide +kernel)
set_option maxRecDepth 20000 in
theorem gX7_init_X5_init_n50 : GoodIn wsX7_init (wsX5_init) := ggX7_init_X5_init
theorem dX7_init_0 : decode cX7_init 0 = .ok (.aload_n 0, 1) := by decide +kernel
theorem dX7_init_1 : decode cX7_init 1 = .ok (.invokespecial 3, 3) := by decide +kernel
theorem dX7_init_4 : decode cX7_init 4 = .ok (.aload_n 0, 1) := by decide +kernel
theorem dX7_init_5 : decode cX7_init 5 = .ok (.new 9, 3) := by decide +kernel
theorem dX7_init_8 : decode cX7_init 8 = .ok (.dup, 1) := by decide +kernel
theorem dX7_init_9 : decode cX7_init 9 = .ok (.invokespecial 11, 3) := by decide +kernel
theorem dX7_init_12 : decode cX7_init 12 = .ok (.putfield 12, 3) := by decide +kernel
theorem dX7_init_15 : decode cX7_init 15 = .ok (.aload_n 0, 1) := by decide +kernel
theorem dX7_init_16 : decode cX7_init 16 = .ok (.new 16, 3) := by decide +kernel
theorem dX7_init_19 : decode cX7_init 19 = .ok (.dup, 1) := by decide +kernel
theorem dX7_init_20 : decode cX7_init 20 = .ok (.invokespecial 18, 3) := by decide +kernel
theorem dX7_init_23 : decode cX7_init 23 = .ok (.putfield 19, 3) := by decide +kernel
theorem dX7_init_26 : decode cX7_init 26 = .ok (.aload_n 0, 1) := by decide +kernel
theorem dX7_init_27 : decode cX7_init 27 = .ok (.new 23, 3) := by decide +kernel
theorem dX7_init_30 : decode cX7_init 30 = .ok (.dup, 1) := by decide +kernel
theorem dX7_init_31 : decode cX7_init 31 = .ok (.invokespecial 25, 3) := by decide +kernel
theorem dX7_init_34 : decode cX7_init 34 = .ok (.putfield 26, 3) := by decide +kernel
theorem dX7_init_37 : decode cX7_init 37 = .ok (.aload_n 0, 1) := by decide +kernel
theorem dX7_init_38 : decode cX7_init 38 = .ok (.new 30, 3) := by decide +kernel
theorem dX7_init_41 : decode cX7_init 41 = .ok (.dup, 1) := by decide +kernel
theorem dX7_init_42 : decode cX7_init 42 = .ok (.invokespecial 32, 3) := by decide +kernel
theorem dX7_init_45 : decode cX7_init 45 = .ok (.putfield 33, 3) := by decide +kernel
theorem dX7_init_48 : decode cX7_init 48 = .ok (.aload_n 0, 1) := by decide +kernel
theorem dX7_init_49 : decode cX7_init 49 = .ok (.iconst 2, 1) := by decide +kernel
theorem dX7_init_50 : decode cX7_init 50 = .ok (.anewarray 37, 3) := by decide +kernel
theorem dX7_init_53 : decode cX7_init 53 = .ok (.putfield 39, 3) := by decide +kernel
theorem dX7_init_56 : decode cX7_init 56 = .ok (.iconst 0, 1) := by decide +kernel
theorem dX7_init_57 : decode cX7_init 57 = .ok (.istore_n 1, 1) := by decide +kernel
theorem dX7_init_58 : decode cX7_init 58 = .ok (.iload_n 1, 1) := by decide +kernel
theorem dX7_init_59 : decode cX7_init 59 = .ok (.iconst 2, 1) := by decide +kernel
theorem dX7_init_60 : decode cX7_init 60 = .ok (.if_icmp .ge 22, 3) := by decide +kernel
theorem dX7_init_63 : decode cX7_init 63 = .ok (.aload_n 0, 1) := by decide +kernel
theorem dX7_init_64 : decode cX7_init 64 = .ok (.getfield 39, 3) := by decide +kernel
theorem dX7_init_67 : decode cX7_init 67 = .ok (.iload_n 1, 1) := by decide +kernel
theorem dX7_init_68 : decode cX7_init 68 = .ok (.new 37, 3) := by decide +kernel
theorem dX7_init_71 : decode cX7_init 71 = .ok (.dup, 1) := by decide +kernel
theorem dX7_init_72 : decode cX7_init 72 = .ok (.invokespecial 43, 3) := by decide +kernel
theorem dX7_init_75 : decode cX7_init 75 = .ok (.aastore, 1) := by decide +kernel
theorem dX7_init_76 : decode cX7_init 76 = .ok (.iinc 1 1, 3) := by decide +kernel
theorem dX7_init_79 : decode cX7_init 79 = .ok (.goto (-21), 3) := by decide +kernel
theorem dX7_init_82 : decode cX7_init 82 = .ok (.aload_n 0, 1) := by decide +kernel
theorem dX7_init_83 : decode cX7_init 83 = .ok (.iconst 4, 1) := by decide +kernel
theorem dX7_init_84 : decode cX7_init 84 = .ok (.anewarray 44, 3) := by decide +kernel
theorem dX7_init_87 : decode cX7_init 87 = .ok (.putfield 46, 3) := by decide +kernel
theorem dX7_init_90 : decode cX7_init 90 = .ok (.iconst 0, 1) := by decide +kernel
theorem dX7_init_91 : decode cX7_init 91 = .ok (.istore_n 1, 1) := by decide +kernel
theorem dX7_init_92 : decode cX7_init 92 = .ok (.iload_n 1, 1) := by decide +kernel
theorem dX7_init_93 : decode cX7_init 93 = .ok (.iconst 4, 1) := by decide +kernel
theorem dX7_init_94 : decode cX7_init 94 = .ok (.if_icmp .ge 22, 3) := by decide +kernel
theorem dX7_init_97 : decode cX7_init 97 = .ok (.aload_n 0, 1) := by decide +kernel
theorem dX7_init_98 : decode cX7_init 98 = .ok (.getfield 46, 3) := by decide +kernel
theorem dX7_init_101 : decode cX7_init 101 = .ok (.iload_n 1, 1) := by decide +kernel
theorem dX7_init_102 : decode cX7_init 102 = .ok (.new 44, 3) := by decide +kernel
theorem dX7_init_105 : decode cX7_init 105 = .ok (.dup, 1) := by decide +kernel
theorem dX7_init_106 : decode cX7_init 106 = .ok (.invokespecial 50, 3) := by decide +kernel
theorem dX7_init_109 : decode cX7_init 109 = .ok (.aastore, 1) := by decide +kernel
theorem dX7_init_110 : decode cX7_init 110 = .ok (.iinc 1 1, 3) := by decide +kernel
theorem dX7_init_113 : decode cX7_init 113 = .ok (.goto (-21), 3) := by decide +kernel
theorem dX7_init_116 : decode cX7_init 116 = .ok (.aload_n 0, 1) := by decide +kernel
theorem dX7_init_117 : decode cX7_init 117 = .ok (.new 37, 3) := by decide +kernel
theorem dX7_init_120 : decode cX7_init 120 = .ok (.dup, 1) := by decide +kernel
theorem dX7_init_121 : decode cX7_init 121 = .ok (.invokespecial 43, 3) := by decide +kernel
theorem dX7_init_124 : decode cX7_init 124 = .ok (.putfield 51, 3) := by decide +kernel
theorem dX7_init_127 : decode cX7_init 127 = .ok (.aload_n 0, 1) := by decide +kernel
theorem dX7_init_128 : decode cX7_init 128 = .ok (.new 37, 3) := by decide +kernel
theorem dX7_init_131 : decode cX7_init 131 = .ok (.dup, 1) := by decide +kernel
theorem dX7_init_132 : decode cX7_init 132 = .ok (.invokespecial 43, 3) := by decide +kernel
theorem dX7_init_135 : decode cX7_init 135 = .ok (.putfield 55, 3) := by decide +kernel
theorem dX7_init_138 : decode cX7_init 138 = .ok (.return_, 1) := by decide +kernel
set_option maxRecDepth 20000 in
theorem ggX7_feed_X6_append : GoodIn wsX7_feed wsX6_append := goodIn_r _ [7, 8, 9, 18, 19, 20] (by decide +kernel) (by decide +kernel)
set_option maxRecDepth 20000 in
theorem gX7_feed_X6_append : GoodIn wsX7_feed (wsV RX7 58 RX6 yX6_append wsX6_append) := goodIn_app (goodIn_of _ (by decide +kernel)) ggX7_feed_X6_append
theorem dX7_feed_0 : decode cX7_feed 0 = .ok (.iload_n 1, 1) := by decide +kernel
theorem dX7_feed_1 : decode cX7_feed 1 = .ok (.ifCond .lt 10, 3) := by decide +kernel
theorem dX7_feed_4 : decode cX7_feed 4 = .ok (.iload_n 1, 1) := by decide +kernel
theorem dX7_feed_5 : decode cX7_feed 5 = .ok (.sipush 255, 3) := by decide +kernel
theorem dX7_feed_8 : decode cX7_feed 8 = .ok (.if_icmp .le 5, 3) := by decide +kernel
theorem dX7_feed_11 : decode cX7_feed 11 = .ok (.iconst (-1), 1) := by decide +kernel
theorem dX7_feed_12 : decode cX7_feed 12 = .ok (.ireturn, 1) := by decide +kernel
theorem dX7_feed_13 : decode cX7_feed 13 = .ok (.aload_n 0, 1) := by decide +kernel
theorem dX7_feed_14 : decode cX7_feed 14 = .ok (.getfield 12, 3) := by decide +kernel
theorem dX7_feed_17 : decode cX7_feed 17 = .ok (.iload_n 1, 1) := by decide +kernel
theorem dX7_feed_18 : decode cX7_feed 18 = .ok (.invokevirtual 58, 3) := by decide +kernel
theorem dX7_feed_21 : decode cX7_feed 21 = .ok (.ifCond .eq 13, 3) := by decide +kernel
theorem dX7_feed_24 : decode cX7_feed 24 = .ok (.aload_n 0, 1) := by decide +kernel
theorem dX7_feed_25 : decode cX7_feed 25 = .ok (.getfield 12, 3) := by decide +kernel
theorem dX7_feed_28 : decode cX7_feed 28 = .ok (.getfield 62, 3) := by decide +kernel
theorem dX7_feed_31 : decode cX7_feed 31 = .ok (.goto 5, 3) := by decide +kernel
theorem dX7_feed_34 : decode cX7_feed 34 = .ok (.bipush (-3), 2) := by decide +kernel
theorem dX7_feed_36 : decode cX7_feed 36 = .ok (.ireturn, 1) := by decide +kernel
set_option maxRecDepth 20000 in
theorem ggX7_circuit_X6_readInto : GoodIn wsX7_circuit wsX6_readInto := goodIn_r _ [13, 14, 15, 16, 17, 18, 19, 20, 21, 22, 23, 24, 25, 26, 27, 28, 12, 29, 30, 31, 32, 33, 34, 35, 36, 37, 38, 39, 40, 41, 42, 43, 44, 45, 46, 47, 48, 49, 50, 51, 52, 53, 54, 55, 56, 57, 58, 59, 60, 61, 62, 63, 64, 65, 66, 67, 68, 69, 70, 71, 72, 73, 74, 75, 84, 85, 86, 90, 91, 92, 93, 94, 95, 96, 97, 98, 99, 100, 101, 102, 103] (by decide +kernel) (by decide +kernel)
set_option maxRecDepth 20000 in
theorem gX7_circuit_X6_readInto : GoodIn wsX7_circuit (wsV RX7 66 RX6 yX6_readInto wsX6_readInto) := goodIn_app (goodIn_of _ (by decide +kernel)) ggX7_circuit_X6_readInto
theorem dX7_circuit_0 : decode cX7_circuit 0 = .ok (.aload_n 0, 1) := by decide +kernel
theorem dX7_circuit_1 : decode cX7_circuit 1 = .ok (.getfield 12, 3) := by decide +kernel
theorem dX7_circuit_4 : decode cX7_circuit 4 = .ok (.aload_n 0, 1) := by decide +kernel
theorem dX7_circuit_5 : decode cX7_circuit 5 = .ok (.getfield 55, 3) := by decide +kernel
theorem dX7_circuit_8 : decode cX7_circuit 8 = .ok (.invokevirtual 66, 3) := by decide +kernel
theorem dX7_circuit_11 : decode cX7_circuit 11 = .ok (.istore_n 1, 1) := by decide +kernel
theorem dX7_circuit_12 : decode cX7_circuit 12 = .ok (.aload_n 0, 1) := by decide +kernel
theorem dX7_circuit_13 : decode cX7_circuit 13 = .ok (.getfield 12, 3) := by decide +kernel
theorem dX7_circuit_16 : decode cX7_circuit 16 = .ok (.getfield 70, 3) := by decide +kernel
theorem dX7_circuit_19 : decode cX7_circuit 19 = .ok (.istore_n 2, 1) := by decide +kernel
theorem dX7_circuit_20 : decode cX7_circuit 20 = .ok (.aload_n 0, 1) := by decide +kernel
theorem dX7_circuit_21 : decode cX7_circuit 21 = .ok (.getfield 12, 3) := by decide +kernel
theorem dX7_circuit_24 : decode cX7_circuit 24 = .ok (.iconst 0, 1) := by decide +kernel
theorem dX7_circuit_25 : decode cX7_circuit 25 = .ok (.putfield 62, 3) := by decide +kernel
theorem dX7_circuit_28 : decode cX7_circuit 28 = .ok (.iload_n 1, 1) := by decide +kernel
theorem dX7_circuit_29 : decode cX7_circuit 29 = .ok (.ifCond .ne 8, 3) := by decide +kernel
theorem dX7_circuit_32 : decode cX7_circuit 32 = .ok (.bipush (-100), 2) := by decide +kernel
theorem dX7_circuit_34 : decode cX7_circuit 34 = .ok (.iload_n 2, 1) := by decide +kernel
theorem dX7_circuit_35 : decode cX7_circuit 35 = .ok (.isub, 1) := by decide +kernel
theorem dX7_circuit_36 : decode cX7_circuit 36 = .ok (.ireturn, 1) := by decide +kernel
theorem dX7_circuit_37 : decode cX7_circuit 37 = .ok (.aload_n 0, 1) := by decide +kernel
theorem dX7_circuit_38 : decode cX7_circuit 38 = .ok (.getfield 51, 3) := by decide +kernel
theorem dX7_circuit_41 : decode cX7_circuit 41 = .ok (.astore_n 3, 1) := by decide +kernel
theorem dX7_circuit_42 : decode cX7_circuit 42 = .ok (.aload_n 0, 1) := by decide +kernel
theorem dX7_circuit_43 : decode cX7_circuit 43 = .ok (.aload_n 0, 1) := by decide +kernel
theorem dX7_circuit_44 : decode cX7_circuit 44 = .ok (.getfield 55, 3) := by decide +kernel
theorem dX7_circuit_47 : decode cX7_circuit 47 = .ok (.putfield 51, 3) := by decide +kernel
theorem dX7_circuit_50 : decode cX7_circuit 50 = .ok (.aload_n 0, 1) := by decide +kernel
theorem dX7_circuit_51 : decode cX7_circuit 51 = .ok (.aload_n 3, 1) := by decide +kernel
theorem dX7_circuit_52 : decode cX7_circuit 52 = .ok (.putfield 55, 3) := by decide +kernel
theorem dX7_circuit_55 : decode cX7_circuit 55 = .ok (.aload_n 0, 1) := by decide +kernel
theorem dX7_circuit_56 : decode cX7_circuit 56 = .ok (.getfield 19, 3) := by decide +kernel
theorem dX7_circuit_59 : decode cX7_circuit 59 = .ok (.iconst 0, 1) := by decide +kernel
theorem dX7_circuit_60 : decode cX7_circuit 60 = .ok (.putfield 73, 3) := by decide +kernel
theorem dX7_circuit_63 : decode cX7_circuit 63 = .ok (.aload_n 0, 1) := by decide +kernel
theorem dX7_circuit_64 : decode cX7_circuit 64 = .ok (.getfield 51, 3) := by decide +kernel
theorem dX7_circuit_67 : decode cX7_circuit 67 = .ok (.getfield 74, 3) := by decide +kernel
theorem dX7_circuit_70 : decode cX7_circuit 70 = .ok (.ireturn, 1) := by decide +kernel
set_option maxRecDepth 20000 in
theorem ggX7_party_X1_hasParty : GoodIn wsX7_party wsX1_hasParty := goodIn_r _ [10, 11, 40, 41, 42, 43, 44, 45, 46, 47, 48, 49, 50, 51, 52, 53] (by decide +kernel) (by decide +kernel)
set_option maxRecDepth 20000 in
theorem gX7_party_X1_hasParty : GoodIn wsX7_party (wsV RX7 77 RX1 yX1_hasParty wsX1_hasParty) := goodIn_app (goodIn_of _ (by decide +kernel)) ggX7_party_X1_hasParty
set_option maxRecDepth 20000 in
theorem ggX7_party_X1_namedBy : GoodIn wsX7_party wsX1_namedBy := goodIn_r _ [15, 16, 17, 18, 19, 9, 20, 21, 22, 23, 24, 25, 26, 27, 28, 29, 30, 31, 40, 41, 42, 43, 44, 45, 46, 47, 48, 49, 50, 51, 52, 53] (by decide +kernel) (by decide +kernel)
set_option maxRecDepth 20000 in
theorem gX7_party_X1_namedBy : GoodIn wsX7_party (wsV RX7 93 RX1 yX1_namedBy wsX1_namedBy) := goodIn_app (goodIn_of _ (by decide +kernel)) ggX7_party_X1_namedBy
theorem dX7_party_0 : decode cX7_party 0 = .ok (.aload_n 0, 1) := by decide +kernel
theorem dX7_party_1 : decode cX7_party 1 = .ok (.getfield 51, 3) := by decide +kernel
theorem dX7_party_4 : decode cX7_party 4 = .ok (.iload_n 1, 1) := by decide +kernel
theorem dX7_party_5 : decode cX7_party 5 = .ok (.invokevirtual 77, 3) := by decide +kernel
theorem dX7_party_8 : decode cX7_party 8 = .ok (.ifCond .ne 5, 3) := by decide +kernel
theorem dX7_party_11 : decode cX7_party 11 = .ok (.iconst (-1), 1) := by decide +kernel
theorem dX7_party_12 : decode cX7_party 12 = .ok (.ireturn, 1) := by decide +kernel
theorem dX7_party_13 : decode cX7_party 13 = .ok (.iload_n 2, 1) := by decide +kernel
theorem dX7_party_14 : decode cX7_party 14 = .ok (.tableswitch 76 0 3 #[30, 40, 50, 60], 30) := by decide +kernel
theorem dX7_party_44 : decode cX7_party 44 = .ok (.aload_n 0, 1) := by decide +kernel
theorem dX7_party_45 : decode cX7_party 45 = .ok (.getfield 51, 3) := by decide +kernel
theorem dX7_party_48 : decode cX7_party 48 = .ok (.getfield 80, 3) := by decide +kernel
theorem dX7_party_51 : decode cX7_party 51 = .ok (.iload_n 1, 1) := by decide +kernel
theorem dX7_party_52 : decode cX7_party 52 = .ok (.iaload, 1) := by decide +kernel
theorem dX7_party_53 : decode cX7_party 53 = .ok (.ireturn, 1) := by decide +kernel
theorem dX7_party_54 : decode cX7_party 54 = .ok (.aload_n 0, 1) := by decide +kernel
theorem dX7_party_55 : decode cX7_party 55 = .ok (.getfield 51, 3) := by decide +kernel
theorem dX7_party_58 : decode cX7_party 58 = .ok (.getfield 84, 3) := by decide +kernel
theorem dX7_party_61 : decode cX7_party 61 = .ok (.iload_n 1, 1) := by decide +kernel
theorem dX7_party_62 : decode cX7_party 62 = .ok (.iaload, 1) := by decide +kernel
theorem dX7_party_63 : decode cX7_party 63 = .ok (.ireturn, 1) := by decide +kernel
theorem dX7_party_64 : decode cX7_party 64 = .ok (.aload_n 0, 1) := by decide +kernel
theorem dX7_party_65 : decode cX7_party 65 = .ok (.getfield 51, 3) := by decide +kernel
theorem dX7_party_68 : decode cX7_party 68 = .ok (.getfield 87, 3) := by decide +kernel
theorem dX7_party_71 : decode cX7_party 71 = .ok (.iload_n 1, 1) := by decide +kernel
theorem dX7_party_72 : decode cX7_party 72 = .ok (.iaload, 1) := by decide +kernel
theorem dX7_party_73 : decode cX7_party 73 = .ok (.ireturn, 1) := by decide +kernel
theorem dX7_party_74 : decode cX7_party 74 = .ok (.aload_n 0, 1) := by decide +kernel
theorem dX7_party_75 : decode cX7_party 75 = .ok (.getfield 51, 3) := by decide +kernel
theorem dX7_party_78 : decode cX7_party 78 = .ok (.iload_n 1, 1) := by decide +kernel
theorem dX7_party_79 : decode cX7_party 79 = .ok (.aload_n 0, 1) := by decide +kernel
theorem dX7_party_80 : decode cX7_party 80 = .ok (.getfield 51, 3) := by decide +kernel
theorem dX7_party_83 : decode cX7_party 83 = .ok (.getfield 90, 3) := by decide +kernel
theorem dX7_party_86 : decode cX7_party 86 = .ok (.invokevirtual 93, 3) := by decide +kernel
theorem dX7_party_89 : decode cX7_party 89 = .ok (.ireturn, 1) := by decide +kernel
theorem dX7_party_90 : decode cX7_party 90 = .ok (.iconst (-1), 1) := by decide +kernel
theorem dX7_party_91 : decode cX7_party 91 = .ok (.ireturn, 1) := by decide +kernel
set_option maxRecDepth 20000 in
theorem ggX7_as_X1_hasParty : GoodIn wsX7_as wsX1_hasParty := goodIn_r _ [7, 8, 22, 23, 24, 25, 26, 27, 28, 29, 30, 31, 32, 33, 34, 35] (by decide +kernel) (by decide +kernel)
set_option maxRecDepth 20000 in
theorem gX7_as_X1_hasParty : GoodIn wsX7_as (wsV RX7 77 RX1 yX1_hasParty wsX1_hasParty) := goodIn_app (goodIn_of _ (by decide +kernel)) ggX7_as_X1_hasParty
set_option maxRecDepth 20000 in
theorem ggX7_as_X7_isUnder : GoodIn wsX7_as wsX7_isUnder := goodIn_r _ [12, 13] (by decide +kernel) (by decide +kernel)
set_option maxRecDepth 20000 in
theorem gX7_as_X7_isUnder : GoodIn wsX7_as (va_wsS RX7 97 yX7_isUnder wsX7_isUnder) := goodIn_app (goodIn_of _ (by decide +kernel)) ggX7_as_X7_isUnder
theorem dX7_as_0 : decode cX7_as 0 = .ok (.aload_n 0, 1) := by decide +kernel
theorem dX7_as_1 : decode cX7_as 1 = .ok (.getfield 51, 3) := by decide +kernel
theorem dX7_as_4 : decode cX7_as 4 = .ok (.iload_n 1, 1) := by decide +kernel
theorem dX7_as_5 : decode cX7_as 5 = .ok (.invokevirtual 77, 3) := by decide +kernel
theorem dX7_as_8 : decode cX7_as 8 = .ok (.ifCond .eq 12, 3) := by decide +kernel
theorem dX7_as_11 : decode cX7_as 11 = .ok (.iload_n 2, 1) := by decide +kernel
theorem dX7_as_12 : decode cX7_as 12 = .ok (.ifCond .lt 8, 3) := by decide +kernel
theorem dX7_as_15 : decode cX7_as 15 = .ok (.iload_n 2, 1) := by decide +kernel
theorem dX7_as_16 : decode cX7_as 16 = .ok (.iconst 5, 1) := by decide +kernel
theorem dX7_as_17 : decode cX7_as 17 = .ok (.if_icmp .le 5, 3) := by decide +kernel
theorem dX7_as_20 : decode cX7_as 20 = .ok (.iconst (-1), 1) := by decide +kernel
theorem dX7_as_21 : decode cX7_as 21 = .ok (.ireturn, 1) := by decide +kernel
theorem dX7_as_22 : decode cX7_as 22 = .ok (.aload_n 0, 1) := by decide +kernel
theorem dX7_as_23 : decode cX7_as 23 = .ok (.getfield 51, 3) := by decide +kernel
theorem dX7_as_26 : decode cX7_as 26 = .ok (.getfield 80, 3) := by decide +kernel
theorem dX7_as_29 : decode cX7_as 29 = .ok (.iload_n 1, 1) := by decide +kernel
theorem dX7_as_30 : decode cX7_as 30 = .ok (.iaload, 1) := by decide +kernel
theorem dX7_as_31 : decode cX7_as 31 = .ok (.iload_n 2, 1) := by decide +kernel
theorem dX7_as_32 : decode cX7_as 32 = .ok (.invokestatic 97, 3) := by decide +kernel
theorem dX7_as_35 : decode cX7_as 35 = .ok (.ifCond .eq 7, 3) := by decide +kernel
theorem dX7_as_38 : decode cX7_as 38 = .ok (.iload_n 1, 1) := by decide +kernel
theorem dX7_as_39 : decode cX7_as 39 = .ok (.goto 5, 3) := by decide +kernel
theorem dX7_as_42 : decode cX7_as 42 = .ok (.bipush (-12), 2) := by decide +kernel
theorem dX7_as_44 : decode cX7_as 44 = .ok (.ireturn, 1) := by decide +kernel
set_option maxRecDepth 20000 in
theorem ggX7_judge_X1_hasJudge : GoodIn wsX7_judge wsX1_hasJudge := goodIn_r _ [9, 10, 19, 20, 21, 22, 23, 24, 25, 26, 27, 28, 29, 30, 31, 32] (by decide +kernel) (by decide +kernel)
set_option maxRecDepth 20000 in
theorem gX7_judge_X1_hasJudge : GoodIn wsX7_judge (wsV RX7 101 RX1 yX1_hasJudge wsX1_hasJudge) := goodIn_app (goodIn_of _ (by decide +kernel)) ggX7_judge_X1_hasJudge
theorem dX7_judge_0 : decode cX7_judge 0 = .ok (.aload_n 0, 1) := by decide +kernel
theorem dX7_judge_1 : decode cX7_judge 1 = .ok (.getfield 51, 3) := by decide +kernel
theorem dX7_judge_4 : decode cX7_judge 4 = .ok (.iload_n 1, 1) := by decide +kernel
theorem dX7_judge_5 : decode cX7_judge 5 = .ok (.invokevirtual 101, 3) := by decide +kernel
theorem dX7_judge_8 : decode cX7_judge 8 = .ok (.ifCond .ne 5, 3) := by decide +kernel
theorem dX7_judge_11 : decode cX7_judge 11 = .ok (.iconst (-1), 1) := by decide +kernel
theorem dX7_judge_12 : decode cX7_judge 12 = .ok (.ireturn, 1) := by decide +kernel
theorem dX7_judge_13 : decode cX7_judge 13 = .ok (.iload_n 2, 1) := by decide +kernel
theorem dX7_judge_14 : decode cX7_judge 14 = .ok (.tableswitch 63 0 2 #[26, 36, 46], 26) := by decide +kernel
theorem dX7_judge_40 : decode cX7_judge 40 = .ok (.aload_n 0, 1) := by decide +kernel
theorem dX7_judge_41 : decode cX7_judge 41 = .ok (.getfield 51, 3) := by decide +kernel
theorem dX7_judge_44 : decode cX7_judge 44 = .ok (.getfield 104, 3) := by decide +kernel
theorem dX7_judge_47 : decode cX7_judge 47 = .ok (.iload_n 1, 1) := by decide +kernel
theorem dX7_judge_48 : decode cX7_judge 48 = .ok (.iaload, 1) := by decide +kernel
theorem dX7_judge_49 : decode cX7_judge 49 = .ok (.ireturn, 1) := by decide +kernel
theorem dX7_judge_50 : decode cX7_judge 50 = .ok (.aload_n 0, 1) := by decide +kernel
theorem dX7_judge_51 : decode cX7_judge 51 = .ok (.getfield 51, 3) := by decide +kernel
theorem dX7_judge_54 : decode cX7_judge 54 = .ok (.getfield 107, 3) := by decide +kernel
theorem dX7_judge_57 : decode cX7_judge 57 = .ok (.iload_n 1, 1) := by decide +kernel
theorem dX7_judge_58 : decode cX7_judge 58 = .ok (.iaload, 1) := by decide +kernel
theorem dX7_judge_59 : decode cX7_judge 59 = .ok (.ireturn, 1) := by decide +kernel
theorem dX7_judge_60 : decode cX7_judge 60 = .ok (.aload_n 0, 1) := by decide +kernel
theorem dX7_judge_61 : decode cX7_judge 61 = .ok (.getfield 51, 3) := by decide +kernel
theorem dX7_judge_64 : decode cX7_judge 64 = .ok (.getfield 90, 3) := by decide +kernel
theorem dX7_judge_67 : decode cX7_judge 67 = .ok (.iload_n 1, 1) := by decide +kernel
theorem dX7_judge_68 : decode cX7_judge 68 = .ok (.if_icmp .ne 7, 3) := by decide +kernel
theorem dX7_judge_71 : decode cX7_judge 71 = .ok (.iconst 1, 1) := by decide +kernel
theorem dX7_judge_72 : decode cX7_judge 72 = .ok (.goto 4, 3) := by decide +kernel
theorem dX7_judge_75 : decode cX7_judge 75 = .ok (.iconst 0, 1) := by decide +kernel
theorem dX7_judge_76 : decode cX7_judge 76 = .ok (.ireturn, 1) := by decide +kernel
theorem dX7_judge_77 : decode cX7_judge 77 = .ok (.iconst (-1), 1) := by decide +kernel
theorem dX7_judge_78 : decode cX7_judge 78 = .ok (.ireturn, 1) := by decide +kernel
set_option maxRecDepth 20000 in
theorem ggX7_trial_X1_hasCase : GoodIn wsX7_trial wsX1_hasCase := goodIn_r _ [10, 11, 20, 21, 22, 23, 24, 25, 26, 27, 28, 29, 30, 31, 32, 33] (by decide +kernel) (by decide +kernel)
set_option maxRecDepth 20000 in
theorem gX7_trial_X1_hasCase : GoodIn wsX7_trial (wsV RX7 110 RX1 yX1_hasCase wsX1_hasCase) := goodIn_app (goodIn_of _ (by decide +kernel)) ggX7_trial_X1_hasCase
theorem dX7_trial_0 : decode cX7_trial 0 = .ok (.aload_n 0, 1) := by decide +kernel
theorem dX7_trial_1 : decode cX7_trial 1 = .ok (.getfield 51, 3) := by decide +kernel
theorem dX7_trial_4 : decode cX7_trial 4 = .ok (.iload_n 1, 1) := by decide +kernel
theorem dX7_trial_5 : decode cX7_trial 5 = .ok (.invokevirtual 110, 3) := by decide +kernel
theorem dX7_trial_8 : decode cX7_trial 8 = .ok (.ifCond .ne 5, 3) := by decide +kernel
theorem dX7_trial_11 : decode cX7_trial 11 = .ok (.iconst (-1), 1) := by decide +kernel
theorem dX7_trial_12 : decode cX7_trial 12 = .ok (.ireturn, 1) := by decide +kernel
theorem dX7_trial_13 : decode cX7_trial 13 = .ok (.iload_n 2, 1) := by decide +kernel
theorem dX7_trial_14 : decode cX7_trial 14 = .ok (.tableswitch 70 0 3 #[30, 40, 50, 60], 30) := by decide +kernel
theorem dX7_trial_44 : decode cX7_trial 44 = .ok (.aload_n 0, 1) := by decide +kernel
theorem dX7_trial_45 : decode cX7_trial 45 = .ok (.getfield 51, 3) := by decide +kernel
theorem dX7_trial_48 : decode cX7_trial 48 = .ok (.getfield 113, 3) := by decide +kernel
theorem dX7_trial_51 : decode cX7_trial 51 = .ok (.iload_n 1, 1) := by decide +kernel
theorem dX7_trial_52 : decode cX7_trial 52 = .ok (.iaload, 1) := by decide +kernel
theorem dX7_trial_53 : decode cX7_trial 53 = .ok (.ireturn, 1) := by decide +kernel
theorem dX7_trial_54 : decode cX7_trial 54 = .ok (.aload_n 0, 1) := by decide +kernel
theorem dX7_trial_55 : decode cX7_trial 55 = .ok (.getfield 51, 3) := by decide +kernel
theorem dX7_trial_58 : decode cX7_trial 58 = .ok (.getfield 116, 3) := by decide +kernel
theorem dX7_trial_61 : decode cX7_trial 61 = .ok (.iload_n 1, 1) := by decide +kernel
theorem dX7_trial_62 : decode cX7_trial 62 = .ok (.iaload, 1) := by decide +kernel
theorem dX7_trial_63 : decode cX7_trial 63 = .ok (.ireturn, 1) := by decide +kernel
theorem dX7_trial_64 : decode cX7_trial 64 = .ok (.aload_n 0, 1) := by decide +kernel
theorem dX7_trial_65 : decode cX7_trial 65 = .ok (.getfield 51, 3) := by decide +kernel
theorem dX7_trial_68 : decode cX7_trial 68 = .ok (.getfield 119, 3) := by decide +kernel
theorem dX7_trial_71 : decode cX7_trial 71 = .ok (.iload_n 1, 1) := by decide +kernel
theorem dX7_trial_72 : decode cX7_trial 72 = .ok (.iaload, 1) := by decide +kernel
theorem dX7_trial_73 : decode cX7_trial 73 = .ok (.ireturn, 1) := by decide +kernel
theorem dX7_trial_74 : decode cX7_trial 74 = .ok (.aload_n 0, 1) := by decide +kernel
theorem dX7_trial_75 : decode cX7_trial 75 = .ok (.getfield 51, 3) := by decide +kernel
theorem dX7_trial_78 : decode cX7_trial 78 = .ok (.getfield 122, 3) := by decide +kernel
theorem dX7_trial_81 : decode cX7_trial 81 = .ok (.iload_n 1, 1) := by decide +kernel
theorem dX7_trial_82 : decode cX7_trial 82 = .ok (.iaload, 1) := by decide +kernel
theorem dX7_trial_83 : decode cX7_trial 83 = .ok (.ireturn, 1) := by decide +kernel
theorem dX7_trial_84 : decode cX7_trial 84 = .ok (.iconst (-1), 1) := by decide +kernel
theorem dX7_trial_85 : decode cX7_trial 85 = .ok (.ireturn, 1) := by decide +kernel
set_option maxRecDepth 20000 in
theorem ggX7_finds_X1_hasJudge : GoodIn wsX7_finds wsX1_hasJudge := goodIn_r _ [6, 7, 34, 35, 36, 37, 38, 39, 40, 41, 42, 43, 44, 45, 46, 47] (by decide +kernel) (by decide +kernel)
set_option maxRecDepth 20000 in
theorem gX7_finds_X1_hasJudge : GoodIn wsX7_finds (wsV RX7 101 RX1 yX1_hasJudge wsX1_hasJudge) := goodIn_app (goodIn_of _ (by decide +kernel)) ggX7_finds_X1_hasJudge
set_option maxRecDepth 20000 in
theorem ggX7_finds_X1_hasCase : GoodIn wsX7_finds wsX1_hasCase := goodIn_r _ [11, 12, 34, 35, 36, 37, 38, 39, 40, 41, 42, 43, 44, 45, 46, 47] (by decide +kernel) (by decide +kernel)
set_option maxRecDepth 20000 in
theorem gX7_finds_X1_hasCase : GoodIn wsX7_finds (wsV RX7 110 RX1 yX1_hasCase wsX1_hasCase) := goodIn_app (goodIn_of _ (by decide +kernel)) ggX7_finds_X1_hasCase
set_option maxRecDepth 20000 in
theorem ggX7_finds_X1_winnerBefore : GoodIn wsX7_finds wsX1_winnerBefore := goodIn_r _ [16, 17, 18, 19, 20, 21, 22, 5, 23, 24, 25, 34, 35, 36, 37, 38, 39, 40, 41, 42, 43, 44, 45, 46, 47] (by decide +kernel) (by decide +kernel)
set_option maxRecDepth 20000 in
theorem gX7_finds_X1_winnerBefore : GoodIn wsX7_finds (wsV RX7 125 RX1 yX1_winnerBefore wsX1_winnerBefore) := goodIn_app (goodIn_of _ (by decide +kernel)) ggX7_finds_X1_winnerBefore
theorem dX7_finds_0 : decode cX7_finds 0 = .ok (.aload_n 0, 1) := by decide +kernel
theorem dX7_finds_1 : decode cX7_finds 1 = .ok (.getfield 51, 3) := by decide +kernel
theorem dX7_finds_4 : decode cX7_finds 4 = .ok (.iload_n 1, 1) := by decide +kernel
theorem dX7_finds_5 : decode cX7_finds 5 = .ok (.invokevirtual 101, 3) := by decide +kernel
theorem dX7_finds_8 : decode cX7_finds 8 = .ok (.ifCond .eq 14, 3) := by decide +kernel
theorem dX7_finds_11 : decode cX7_finds 11 = .ok (.aload_n 0, 1) := by decide +kernel
theorem dX7_finds_12 : decode cX7_finds 12 = .ok (.getfield 51, 3) := by decide +kernel
theorem dX7_finds_15 : decode cX7_finds 15 = .ok (.iload_n 2, 1) := by decide +kernel
theorem dX7_finds_16 : decode cX7_finds 16 = .ok (.invokevirtual 110, 3) := by decide +kernel
theorem dX7_finds_19 : decode cX7_finds 19 = .ok (.ifCond .ne 5, 3) := by decide +kernel
theorem dX7_finds_22 : decode cX7_finds 22 = .ok (.iconst (-1), 1) := by decide +kernel
theorem dX7_finds_23 : decode cX7_finds 23 = .ok (.ireturn, 1) := by decide +kernel
theorem dX7_finds_24 : decode cX7_finds 24 = .ok (.aload_n 0, 1) := by decide +kernel
theorem dX7_finds_25 : decode cX7_finds 25 = .ok (.getfield 51, 3) := by decide +kernel
theorem dX7_finds_28 : decode cX7_finds 28 = .ok (.iload_n 1, 1) := by decide +kernel
theorem dX7_finds_29 : decode cX7_finds 29 = .ok (.iload_n 2, 1) := by decide +kernel
theorem dX7_finds_30 : decode cX7_finds 30 = .ok (.invokevirtual 125, 3) := by decide +kernel
theorem dX7_finds_33 : decode cX7_finds 33 = .ok (.ireturn, 1) := by decide +kernel
set_option maxRecDepth 20000 in
theorem ggX7_names_X1_hasParty : GoodIn wsX7_names wsX1_hasParty := goodIn_r _ [6, 7, 40, 41, 42, 43, 44, 45, 46, 47, 48, 49, 50, 51, 52, 53] (by decide +kernel) (by decide +kernel)
set_option maxRecDepth 20000 in
theorem gX7_names_X1_hasParty : GoodIn wsX7_names (wsV RX7 77 RX1 yX1_hasParty wsX1_hasParty) := goodIn_app (goodIn_of _ (by decide +kernel)) ggX7_names_X1_hasParty
set_option maxRecDepth 20000 in
theorem ggX7_names_X1_hasJudge : GoodIn wsX7_names wsX1_hasJudge := goodIn_r _ [11, 12, 40, 41, 42, 43, 44, 45, 46, 47, 48, 49, 50, 51, 52, 53] (by decide +kernel) (by decide +kernel)
set_option maxRecDepth 20000 in
theorem gX7_names_X1_hasJudge : GoodIn wsX7_names (wsV RX7 101 RX1 yX1_hasJudge wsX1_hasJudge) := goodIn_app (goodIn_of _ (by decide +kernel)) ggX7_names_X1_hasJudge
set_option maxRecDepth 20000 in
theorem ggX7_names_X1_namedBy : GoodIn wsX7_names wsX1_namedBy := goodIn_r _ [16, 17, 18, 19, 20, 5, 21, 12, 22, 23, 24, 25, 26, 27, 28, 29, 30, 31, 40, 41, 42, 43, 44, 45, 46, 47, 48, 49, 50, 51, 52, 53] (by decide +kernel) (by decide +kernel)
set_option maxRecDepth 20000 in
theorem gX7_names_X1_namedBy : GoodIn wsX7_names (wsV RX7 93 RX1 yX1_namedBy wsX1_namedBy) := goodIn_app (goodIn_of _ (by decide +kernel)) ggX7_names_X1_namedBy
theorem dX7_names_0 : decode cX7_names 0 = .ok (.aload_n 0, 1) := by decide +kernel
theorem dX7_names_1 : decode cX7_names 1 = .ok (.getfield 51, 3) := by decide +kernel
theorem dX7_names_4 : decode cX7_names 4 = .ok (.iload_n 1, 1) := by decide +kernel
theorem dX7_names_5 : decode cX7_names 5 = .ok (.invokevirtual 77, 3) := by decide +kernel
theorem dX7_names_8 : decode cX7_names 8 = .ok (.ifCond .eq 14, 3) := by decide +kernel
theorem dX7_names_11 : decode cX7_names 11 = .ok (.aload_n 0, 1) := by decide +kernel
theorem dX7_names_12 : decode cX7_names 12 = .ok (.getfield 51, 3) := by decide +kernel
theorem dX7_names_15 : decode cX7_names 15 = .ok (.iload_n 2, 1) := by decide +kernel
theorem dX7_names_16 : decode cX7_names 16 = .ok (.invokevirtual 101, 3) := by decide +kernel
theorem dX7_names_19 : decode cX7_names 19 = .ok (.ifCond .ne 5, 3) := by decide +kernel
theorem dX7_names_22 : decode cX7_names 22 = .ok (.iconst (-1), 1) := by decide +kernel
theorem dX7_names_23 : decode cX7_names 23 = .ok (.ireturn, 1) := by decide +kernel
theorem dX7_names_24 : decode cX7_names 24 = .ok (.aload_n 0, 1) := by decide +kernel
theorem dX7_names_25 : decode cX7_names 25 = .ok (.getfield 51, 3) := by decide +kernel
theorem dX7_names_28 : decode cX7_names 28 = .ok (.iload_n 1, 1) := by decide +kernel
theorem dX7_names_29 : decode cX7_names 29 = .ok (.iload_n 2, 1) := by decide +kernel
theorem dX7_names_30 : decode cX7_names 30 = .ok (.invokevirtual 93, 3) := by decide +kernel
theorem dX7_names_33 : decode cX7_names 33 = .ok (.ireturn, 1) := by decide +kernel
set_option maxRecDepth 20000 in
theorem ggX7_hear_X1_casesLeft : GoodIn wsX7_hear wsX1_casesLeft := goodIn_r _ [16, 17, 18, 89, 90, 91, 92, 93, 94, 95, 96, 97, 98, 99, 100, 101, 102] (by decide +kernel) (by decide +kernel)
set_option maxRecDepth 20000 in
theorem gX7_hear_X1_casesLeft : GoodIn wsX7_hear (wsV RX7 128 RX1 yX1_casesLeft wsX1_casesLeft) := goodIn_app (goodIn_of _ (by decide +kernel)) ggX7_hear_X1_casesLeft
set_option maxRecDepth 20000 in
theorem ggX7_hear_X4_begin : GoodIn wsX7_hear wsX4_begin := goodIn_r _ [23, 24, 25, 26, 27, 28, 29, 30, 31, 32, 33, 109, 110, 111, 103, 104, 105, 106, 107, 108] (by decide +kernel) (by decide +kernel)
set_option maxRecDepth 20000 in
theorem gX7_hear_X4_begin : GoodIn wsX7_hear (wsV RX7 135 RX4 yX4_begin wsX4_begin) := goodIn_app (goodIn_of _ (by decide +kernel)) ggX7_hear_X4_begin
set_option maxRecDepth 20000 in
theorem ggX7_hear_X1_settle : GoodIn wsX7_hear wsX1_settle := goodIn_r _ [37, 38, 39, 40, 41, 42, 43, 44, 45, 28, 46, 47, 48, 27, 29, 49, 50, 51, 52, 15, 53, 54, 55, 56, 57, 58, 59, 60, 61, 62, 63, 64, 65, 66, 67, 68, 69, 70, 71, 72, 73, 74, 75, 76, 77, 78, 79, 80, 89, 90, 91, 92, 93, 94, 95, 96, 97, 98, 99, 100, 101, 102] (by decide +kernel) (by decide +kernel)
set_option maxRecDepth 20000 in
theorem gX7_hear_X1_settle : GoodIn wsX7_hear (wsV RX7 150 RX1 yX1_settle wsX1_settle) := goodIn_app (goodIn_of _ (by decide +kernel)) ggX7_hear_X1_settle
theorem dX7_hear_0 : decode cX7_hear 0 = .ok (.iload_n 1, 1) := by decide +kernel
theorem dX7_hear_1 : decode cX7_hear 1 = .ok (.ifCond .lt 8, 3) := by decide +kernel
theorem dX7_hear_4 : decode cX7_hear 4 = .ok (.iload_n 1, 1) := by decide +kernel
theorem dX7_hear_5 : decode cX7_hear 5 = .ok (.iconst 2, 1) := by decide +kernel
theorem dX7_hear_6 : decode cX7_hear 6 = .ok (.if_icmp .le 5, 3) := by decide +kernel
theorem dX7_hear_9 : decode cX7_hear 9 = .ok (.iconst (-1), 1) := by decide +kernel
theorem dX7_hear_10 : decode cX7_hear 10 = .ok (.ireturn, 1) := by decide +kernel
theorem dX7_hear_11 : decode cX7_hear 11 = .ok (.aload_n 0, 1) := by decide +kernel
theorem dX7_hear_12 : decode cX7_hear 12 = .ok (.getfield 51, 3) := by decide +kernel
theorem dX7_hear_15 : decode cX7_hear 15 = .ok (.invokevirtual 128, 3) := by decide +kernel
theorem dX7_hear_18 : decode cX7_hear 18 = .ok (.ifCond .ne 6, 3) := by decide +kernel
theorem dX7_hear_21 : decode cX7_hear 21 = .ok (.bipush (-2), 2) := by decide +kernel
theorem dX7_hear_23 : decode cX7_hear 23 = .ok (.ireturn, 1) := by decide +kernel
theorem dX7_hear_24 : decode cX7_hear 24 = .ok (.aload_n 0, 1) := by decide +kernel
theorem dX7_hear_25 : decode cX7_hear 25 = .ok (.getfield 51, 3) := by decide +kernel
theorem dX7_hear_28 : decode cX7_hear 28 = .ok (.getfield 132, 3) := by decide +kernel
theorem dX7_hear_31 : decode cX7_hear 31 = .ok (.istore_n 2, 1) := by decide +kernel
theorem dX7_hear_32 : decode cX7_hear 32 = .ok (.aload_n 0, 1) := by decide +kernel
theorem dX7_hear_33 : decode cX7_hear 33 = .ok (.getfield 19, 3) := by decide +kernel
theorem dX7_hear_36 : decode cX7_hear 36 = .ok (.iconst 0, 1) := by decide +kernel
theorem dX7_hear_37 : decode cX7_hear 37 = .ok (.iload_n 2, 1) := by decide +kernel
theorem dX7_hear_38 : decode cX7_hear 38 = .ok (.iload_n 2, 1) := by decide +kernel
theorem dX7_hear_39 : decode cX7_hear 39 = .ok (.invokevirtual 135, 3) := by decide +kernel
theorem dX7_hear_42 : decode cX7_hear 42 = .ok (.astore_n 3, 1) := by decide +kernel
theorem dX7_hear_43 : decode cX7_hear 43 = .ok (.aload_n 3, 1) := by decide +kernel
theorem dX7_hear_44 : decode cX7_hear 44 = .ok (.aload_n 0, 1) := by decide +kernel
theorem dX7_hear_45 : decode cX7_hear 45 = .ok (.getfield 51, 3) := by decide +kernel
theorem dX7_hear_48 : decode cX7_hear 48 = .ok (.getfield 84, 3) := by decide +kernel
theorem dX7_hear_51 : decode cX7_hear 51 = .ok (.aload_n 0, 1) := by decide +kernel
theorem dX7_hear_52 : decode cX7_hear 52 = .ok (.getfield 51, 3) := by decide +kernel
theorem dX7_hear_55 : decode cX7_hear 55 = .ok (.getfield 113, 3) := by decide +kernel
theorem dX7_hear_58 : decode cX7_hear 58 = .ok (.iload_n 2, 1) := by decide +kernel
theorem dX7_hear_59 : decode cX7_hear 59 = .ok (.iaload, 1) := by decide +kernel
theorem dX7_hear_60 : decode cX7_hear 60 = .ok (.iaload, 1) := by decide +kernel
theorem dX7_hear_61 : decode cX7_hear 61 = .ok (.putfield 139, 3) := by decide +kernel
theorem dX7_hear_64 : decode cX7_hear 64 = .ok (.aload_n 3, 1) := by decide +kernel
theorem dX7_hear_65 : decode cX7_hear 65 = .ok (.aload_n 0, 1) := by decide +kernel
theorem dX7_hear_66 : decode cX7_hear 66 = .ok (.getfield 51, 3) := by decide +kernel
theorem dX7_hear_69 : decode cX7_hear 69 = .ok (.getfield 84, 3) := by decide +kernel
theorem dX7_hear_72 : decode cX7_hear 72 = .ok (.aload_n 0, 1) := by decide +kernel
theorem dX7_hear_73 : decode cX7_hear 73 = .ok (.getfield 51, 3) := by decide +kernel
theorem dX7_hear_76 : decode cX7_hear 76 = .ok (.getfield 116, 3) := by decide +kernel
theorem dX7_hear_79 : decode cX7_hear 79 = .ok (.iload_n 2, 1) := by decide +kernel
theorem dX7_hear_80 : decode cX7_hear 80 = .ok (.iaload, 1) := by decide +kernel
theorem dX7_hear_81 : decode cX7_hear 81 = .ok (.iaload, 1) := by decide +kernel
theorem dX7_hear_82 : decode cX7_hear 82 = .ok (.putfield 144, 3) := by decide +kernel
theorem dX7_hear_85 : decode cX7_hear 85 = .ok (.aload_n 3, 1) := by decide +kernel
theorem dX7_hear_86 : decode cX7_hear 86 = .ok (.aload_n 0, 1) := by decide +kernel
theorem dX7_hear_87 : decode cX7_hear 87 = .ok (.getfield 51, 3) := by decide +kernel
theorem dX7_hear_90 : decode cX7_hear 90 = .ok (.getfield 90, 3) := by decide +kernel
theorem dX7_hear_93 : decode cX7_hear 93 = .ok (.putfield 147, 3) := by decide +kernel
theorem dX7_hear_96 : decode cX7_hear 96 = .ok (.aload_n 0, 1) := by decide +kernel
theorem dX7_hear_97 : decode cX7_hear 97 = .ok (.getfield 51, 3) := by decide +kernel
theorem dX7_hear_100 : decode cX7_hear 100 = .ok (.iload_n 2, 1) := by decide +kernel
theorem dX7_hear_101 : decode cX7_hear 101 = .ok (.iload_n 1, 1) := by decide +kernel
theorem dX7_hear_102 : decode cX7_hear 102 = .ok (.invokevirtual 150, 3) := by decide +kernel
theorem dX7_hear_105 : decode cX7_hear 105 = .ok (.aload_n 0, 1) := by decide +kernel
theorem dX7_hear_106 : decode cX7_hear 106 = .ok (.getfield 51, 3) := by decide +kernel
theorem dX7_hear_109 : decode cX7_hear 109 = .ok (.iload_n 2, 1) := by decide +kernel
theorem dX7_hear_110 : decode cX7_hear 110 = .ok (.iconst 1, 1) := by decide +kernel
theorem dX7_hear_111 : decode cX7_hear 111 = .ok (.iadd, 1) := by decide +kernel
theorem dX7_hear_112 : decode cX7_hear 112 = .ok (.putfield 132, 3) := by decide +kernel
theorem dX7_hear_115 : decode cX7_hear 115 = .ok (.aload_n 0, 1) := by decide +kernel
theorem dX7_hear_116 : decode cX7_hear 116 = .ok (.getfield 51, 3) := by decide +kernel
theorem dX7_hear_119 : decode cX7_hear 119 = .ok (.getfield 122, 3) := by decide +kernel
theorem dX7_hear_122 : decode cX7_hear 122 = .ok (.iload_n 2, 1) := by decide +kernel
theorem dX7_hear_123 : decode cX7_hear 123 = .ok (.iaload, 1) := by decide +kernel
theorem dX7_hear_124 : decode cX7_hear 124 = .ok (.ireturn, 1) := by decide +kernel
set_option maxRecDepth 20000 in
theorem ggX7_swap_X1_hasCase : GoodIn wsX7_swap wsX1_hasCase := goodIn_r _ [8, 9, 43, 44, 45, 46, 47, 48, 49, 50, 51, 52, 53, 54, 55, 56] (by decide +kernel) (by decide +kernel)
set_option maxRecDepth 20000 in
theorem gX7_swap_X1_hasCase : GoodIn wsX7_swap (wsV RX7 110 RX1 yX1_hasCase wsX1_hasCase) := goodIn_app (goodIn_of _ (by decide +kernel)) ggX7_swap_X1_hasCase
set_option maxRecDepth 20000 in
theorem ggX7_swap_X4_begin : GoodIn wsX7_swap wsX4_begin := goodIn_r _ [14, 15, 16, 17, 18, 19, 20, 21, 22, 23, 24, 57, 58, 59, 60, 61, 62, 63, 64, 65] (by decide +kernel) (by decide +kernel)
set_option maxRecDepth 20000 in
theorem gX7_swap_X4_begin : GoodIn wsX7_swap (wsV RX7 135 RX4 yX4_begin wsX4_begin) := goodIn_app (goodIn_of _ (by decide +kernel)) ggX7_swap_X4_begin
set_option maxRecDepth 20000 in
theorem ggX7_swap_X1_exchange : GoodIn wsX7_swap wsX1_exchange := goodIn_r _ [28, 29, 30, 31, 32, 33, 7, 34, 43, 44, 45, 46, 47, 48, 49, 50, 51, 52, 53, 54, 55, 56] (by decide +kernel) (by decide +kernel)
set_option maxRecDepth 20000 in
theorem gX7_swap_X1_exchange : GoodIn wsX7_swap (wsV RX7 154 RX1 yX1_exchange wsX1_exchange) := goodIn_app (goodIn_of _ (by decide +kernel)) ggX7_swap_X1_exchange
theorem dX7_swap_0 : decode cX7_swap 0 = .ok (.aload_n 0, 1) := by decide +kernel
theorem dX7_swap_1 : decode cX7_swap 1 = .ok (.getfield 51, 3) := by decide +kernel
theorem dX7_swap_4 : decode cX7_swap 4 = .ok (.iload_n 1, 1) := by decide +kernel
theorem dX7_swap_5 : decode cX7_swap 5 = .ok (.invokevirtual 110, 3) := by decide +kernel
theorem dX7_swap_8 : decode cX7_swap 8 = .ok (.ifCond .eq 14, 3) := by decide +kernel
theorem dX7_swap_11 : decode cX7_swap 11 = .ok (.aload_n 0, 1) := by decide +kernel
theorem dX7_swap_12 : decode cX7_swap 12 = .ok (.getfield 51, 3) := by decide +kernel
theorem dX7_swap_15 : decode cX7_swap 15 = .ok (.iload_n 2, 1) := by decide +kernel
theorem dX7_swap_16 : decode cX7_swap 16 = .ok (.invokevirtual 110, 3) := by decide +kernel
theorem dX7_swap_19 : decode cX7_swap 19 = .ok (.ifCond .ne 5, 3) := by decide +kernel
theorem dX7_swap_22 : decode cX7_swap 22 = .ok (.iconst (-1), 1) := by decide +kernel
theorem dX7_swap_23 : decode cX7_swap 23 = .ok (.ireturn, 1) := by decide +kernel
theorem dX7_swap_24 : decode cX7_swap 24 = .ok (.iload_n 1, 1) := by decide +kernel
theorem dX7_swap_25 : decode cX7_swap 25 = .ok (.iload_n 2, 1) := by decide +kernel
theorem dX7_swap_26 : decode cX7_swap 26 = .ok (.if_icmp .eq 25, 3) := by decide +kernel
theorem dX7_swap_29 : decode cX7_swap 29 = .ok (.iload_n 1, 1) := by decide +kernel
theorem dX7_swap_30 : decode cX7_swap 30 = .ok (.aload_n 0, 1) := by decide +kernel
theorem dX7_swap_31 : decode cX7_swap 31 = .ok (.getfield 51, 3) := by decide +kernel
theorem dX7_swap_34 : decode cX7_swap 34 = .ok (.getfield 132, 3) := by decide +kernel
theorem dX7_swap_37 : decode cX7_swap 37 = .ok (.if_icmp .lt 14, 3) := by decide +kernel
theorem dX7_swap_40 : decode cX7_swap 40 = .ok (.iload_n 2, 1) := by decide +kernel
theorem dX7_swap_41 : decode cX7_swap 41 = .ok (.aload_n 0, 1) := by decide +kernel
theorem dX7_swap_42 : decode cX7_swap 42 = .ok (.getfield 51, 3) := by decide +kernel
theorem dX7_swap_45 : decode cX7_swap 45 = .ok (.getfield 132, 3) := by decide +kernel
theorem dX7_swap_48 : decode cX7_swap 48 = .ok (.if_icmp .ge 6, 3) := by decide +kernel
theorem dX7_swap_51 : decode cX7_swap 51 = .ok (.bipush (-2), 2) := by decide +kernel
theorem dX7_swap_53 : decode cX7_swap 53 = .ok (.ireturn, 1) := by decide +kernel
theorem dX7_swap_54 : decode cX7_swap 54 = .ok (.aload_n 0, 1) := by decide +kernel
theorem dX7_swap_55 : decode cX7_swap 55 = .ok (.getfield 19, 3) := by decide +kernel
theorem dX7_swap_58 : decode cX7_swap 58 = .ok (.iconst 1, 1) := by decide +kernel
theorem dX7_swap_59 : decode cX7_swap 59 = .ok (.iload_n 1, 1) := by decide +kernel
theorem dX7_swap_60 : decode cX7_swap 60 = .ok (.iload_n 2, 1) := by decide +kernel
theorem dX7_swap_61 : decode cX7_swap 61 = .ok (.invokevirtual 135, 3) := by decide +kernel
theorem dX7_swap_64 : decode cX7_swap 64 = .ok (.pop, 1) := by decide +kernel
theorem dX7_swap_65 : decode cX7_swap 65 = .ok (.aload_n 0, 1) := by decide +kernel
theorem dX7_swap_66 : decode cX7_swap 66 = .ok (.getfield 51, 3) := by decide +kernel
theorem dX7_swap_69 : decode cX7_swap 69 = .ok (.iload_n 1, 1) := by decide +kernel
theorem dX7_swap_70 : decode cX7_swap 70 = .ok (.iload_n 2, 1) := by decide +kernel
theorem dX7_swap_71 : decode cX7_swap 71 = .ok (.invokevirtual 154, 3) := by decide +kernel
theorem dX7_swap_74 : decode cX7_swap 74 = .ok (.aload_n 0, 1) := by decide +kernel
theorem dX7_swap_75 : decode cX7_swap 75 = .ok (.getfield 51, 3) := by decide +kernel
theorem dX7_swap_78 : decode cX7_swap 78 = .ok (.getfield 132, 3) := by decide +kernel
theorem dX7_swap_81 : decode cX7_swap 81 = .ok (.ireturn, 1) := by decide +kernel
set_option maxRecDepth 20000 in
theorem ggX7_soothe_X1_hasParty : GoodIn wsX7_soothe wsX1_hasParty := goodIn_r _ [13, 14, 37, 38, 39, 40, 41, 42, 43, 44, 45, 46, 47, 48, 49, 50] (by decide +kernel) (by decide +kernel)
set_option maxRecDepth 20000 in
theorem gX7_soothe_X1_hasParty : GoodIn wsX7_soothe (wsV RX7 77 RX1 yX1_hasParty wsX1_hasParty) := goodIn_app (goodIn_of _ (by decide +kernel)) ggX7_soothe_X1_hasParty
set_option maxRecDepth 20000 in
theorem ggX7_soothe_X4_begin : GoodIn wsX7_soothe wsX4_begin := goodIn_r _ [19, 20, 21, 22, 23, 7, 24, 25, 26, 27, 28, 57, 58, 59, 51, 52, 53, 54, 55, 56] (by decide +kernel) (by decide +kernel)
set_option maxRecDepth 20000 in
theorem gX7_soothe_X4_begin : GoodIn wsX7_soothe (wsV RX7 135 RX4 yX4_begin wsX4_begin) := goodIn_app (goodIn_of _ (by decide +kernel)) ggX7_soothe_X4_begin
theorem dX7_soothe_0 : decode cX7_soothe 0 = .ok (.aload_n 0, 1) := by decide +kernel
theorem dX7_soothe_1 : decode cX7_soothe 1 = .ok (.getfield 51, 3) := by decide +kernel
theorem dX7_soothe_4 : decode cX7_soothe 4 = .ok (.iload_n 1, 1) := by decide +kernel
theorem dX7_soothe_5 : decode cX7_soothe 5 = .ok (.invokevirtual 77, 3) := by decide +kernel
theorem dX7_soothe_8 : decode cX7_soothe 8 = .ok (.ifCond .ne 5, 3) := by decide +kernel
theorem dX7_soothe_11 : decode cX7_soothe 11 = .ok (.iconst (-1), 1) := by decide +kernel
theorem dX7_soothe_12 : decode cX7_soothe 12 = .ok (.ireturn, 1) := by decide +kernel
theorem dX7_soothe_13 : decode cX7_soothe 13 = .ok (.aload_n 0, 1) := by decide +kernel
theorem dX7_soothe_14 : decode cX7_soothe 14 = .ok (.getfield 51, 3) := by decide +kernel
theorem dX7_soothe_17 : decode cX7_soothe 17 = .ok (.getfield 84, 3) := by decide +kernel
theorem dX7_soothe_20 : decode cX7_soothe 20 = .ok (.iload_n 1, 1) := by decide +kernel
theorem dX7_soothe_21 : decode cX7_soothe 21 = .ok (.iaload, 1) := by decide +kernel
theorem dX7_soothe_22 : decode cX7_soothe 22 = .ok (.ifCond .ne 6, 3) := by decide +kernel
theorem dX7_soothe_25 : decode cX7_soothe 25 = .ok (.bipush (-2), 2) := by decide +kernel
theorem dX7_soothe_27 : decode cX7_soothe 27 = .ok (.ireturn, 1) := by decide +kernel
theorem dX7_soothe_28 : decode cX7_soothe 28 = .ok (.aload_n 0, 1) := by decide +kernel
theorem dX7_soothe_29 : decode cX7_soothe 29 = .ok (.getfield 19, 3) := by decide +kernel
theorem dX7_soothe_32 : decode cX7_soothe 32 = .ok (.iconst 2, 1) := by decide +kernel
theorem dX7_soothe_33 : decode cX7_soothe 33 = .ok (.iload_n 1, 1) := by decide +kernel
theorem dX7_soothe_34 : decode cX7_soothe 34 = .ok (.iload_n 1, 1) := by decide +kernel
theorem dX7_soothe_35 : decode cX7_soothe 35 = .ok (.invokevirtual 135, 3) := by decide +kernel
theorem dX7_soothe_38 : decode cX7_soothe 38 = .ok (.aload_n 0, 1) := by decide +kernel
theorem dX7_soothe_39 : decode cX7_soothe 39 = .ok (.getfield 51, 3) := by decide +kernel
theorem dX7_soothe_42 : decode cX7_soothe 42 = .ok (.getfield 84, 3) := by decide +kernel
theorem dX7_soothe_45 : decode cX7_soothe 45 = .ok (.iload_n 1, 1) := by decide +kernel
theorem dX7_soothe_46 : decode cX7_soothe 46 = .ok (.iaload, 1) := by decide +kernel
theorem dX7_soothe_47 : decode cX7_soothe 47 = .ok (.putfield 139, 3) := by decide +kernel
theorem dX7_soothe_50 : decode cX7_soothe 50 = .ok (.aload_n 0, 1) := by decide +kernel
theorem dX7_soothe_51 : decode cX7_soothe 51 = .ok (.getfield 51, 3) := by decide +kernel
theorem dX7_soothe_54 : decode cX7_soothe 54 = .ok (.getfield 84, 3) := by decide +kernel
theorem dX7_soothe_57 : decode cX7_soothe 57 = .ok (.iload_n 1, 1) := by decide +kernel
theorem dX7_soothe_58 : decode cX7_soothe 58 = .ok (.aload_n 0, 1) := by decide +kernel
theorem dX7_soothe_59 : decode cX7_soothe 59 = .ok (.getfield 51, 3) := by decide +kernel
theorem dX7_soothe_62 : decode cX7_soothe 62 = .ok (.getfield 84, 3) := by decide +kernel
theorem dX7_soothe_65 : decode cX7_soothe 65 = .ok (.iload_n 1, 1) := by decide +kernel
theorem dX7_soothe_66 : decode cX7_soothe 66 = .ok (.iaload, 1) := by decide +kernel
theorem dX7_soothe_67 : decode cX7_soothe 67 = .ok (.iconst 3, 1) := by decide +kernel
theorem dX7_soothe_68 : decode cX7_soothe 68 = .ok (.isub, 1) := by decide +kernel
theorem dX7_soothe_69 : decode cX7_soothe 69 = .ok (.iconst 0, 1) := by decide +kernel
theorem dX7_soothe_70 : decode cX7_soothe 70 = .ok (.invokestatic 157, 3) := by decide +kernel
theorem dX7_soothe_73 : decode cX7_soothe 73 = .ok (.iastore, 1) := by decide +kernel
theorem dX7_soothe_74 : decode cX7_soothe 74 = .ok (.aload_n 0, 1) := by decide +kernel
theorem dX7_soothe_75 : decode cX7_soothe 75 = .ok (.getfield 51, 3) := by decide +kernel
theorem dX7_soothe_78 : decode cX7_soothe 78 = .ok (.getfield 84, 3) := by decide +kernel
theorem dX7_soothe_81 : decode cX7_soothe 81 = .ok (.iload_n 1, 1) := by decide +kernel
theorem dX7_soothe_82 : decode cX7_soothe 82 = .ok (.iaload, 1) := by decide +kernel
theorem dX7_soothe_83 : decode cX7_soothe 83 = .ok (.ireturn, 1) := by decide +kernel
set_option maxRecDepth 20000 in
theorem ggX7_seat_X1_hasJudge : GoodIn wsX7_seat wsX1_hasJudge := goodIn_r _ [9, 10, 34, 35, 36, 37, 38, 39, 40, 41, 42, 43, 44, 45, 46, 47] (by decide +kernel) (by decide +kernel)
set_option maxRecDepth 20000 in
theorem gX7_seat_X1_hasJudge : GoodIn wsX7_seat (wsV RX7 101 RX1 yX1_hasJudge wsX1_hasJudge) := goodIn_app (goodIn_of _ (by decide +kernel)) ggX7_seat_X1_hasJudge
set_option maxRecDepth 20000 in
theorem ggX7_seat_X4_begin : GoodIn wsX7_seat wsX4_begin := goodIn_r _ [15, 16, 17, 18, 19, 20, 21, 22, 23, 24, 25, 54, 55, 56, 48, 49, 50, 51, 52, 53] (by decide +kernel) (by decide +kernel)
set_option maxRecDepth 20000 in
theorem gX7_seat_X4_begin : GoodIn wsX7_seat (wsV RX7 135 RX4 yX4_begin wsX4_begin) := goodIn_app (goodIn_of _ (by decide +kernel)) ggX7_seat_X4_begin
theorem dX7_seat_0 : decode cX7_seat 0 = .ok (.aload_n 0, 1) := by decide +kernel
theorem dX7_seat_1 : decode cX7_seat 1 = .ok (.getfield 51, 3) := by decide +kernel
theorem dX7_seat_4 : decode cX7_seat 4 = .ok (.iload_n 1, 1) := by decide +kernel
theorem dX7_seat_5 : decode cX7_seat 5 = .ok (.invokevirtual 101, 3) := by decide +kernel
theorem dX7_seat_8 : decode cX7_seat 8 = .ok (.ifCond .ne 5, 3) := by decide +kernel
theorem dX7_seat_11 : decode cX7_seat 11 = .ok (.iconst (-1), 1) := by decide +kernel
theorem dX7_seat_12 : decode cX7_seat 12 = .ok (.ireturn, 1) := by decide +kernel
theorem dX7_seat_13 : decode cX7_seat 13 = .ok (.aload_n 0, 1) := by decide +kernel
theorem dX7_seat_14 : decode cX7_seat 14 = .ok (.getfield 51, 3) := by decide +kernel
theorem dX7_seat_17 : decode cX7_seat 17 = .ok (.getfield 90, 3) := by decide +kernel
theorem dX7_seat_20 : decode cX7_seat 20 = .ok (.iload_n 1, 1) := by decide +kernel
theorem dX7_seat_21 : decode cX7_seat 21 = .ok (.if_icmp .ne 6, 3) := by decide +kernel
theorem dX7_seat_24 : decode cX7_seat 24 = .ok (.bipush (-2), 2) := by decide +kernel
theorem dX7_seat_26 : decode cX7_seat 26 = .ok (.ireturn, 1) := by decide +kernel
theorem dX7_seat_27 : decode cX7_seat 27 = .ok (.aload_n 0, 1) := by decide +kernel
theorem dX7_seat_28 : decode cX7_seat 28 = .ok (.getfield 51, 3) := by decide +kernel
theorem dX7_seat_31 : decode cX7_seat 31 = .ok (.getfield 90, 3) := by decide +kernel
theorem dX7_seat_34 : decode cX7_seat 34 = .ok (.istore_n 2, 1) := by decide +kernel
theorem dX7_seat_35 : decode cX7_seat 35 = .ok (.aload_n 0, 1) := by decide +kernel
theorem dX7_seat_36 : decode cX7_seat 36 = .ok (.getfield 19, 3) := by decide +kernel
theorem dX7_seat_39 : decode cX7_seat 39 = .ok (.iconst 3, 1) := by decide +kernel
theorem dX7_seat_40 : decode cX7_seat 40 = .ok (.iload_n 1, 1) := by decide +kernel
theorem dX7_seat_41 : decode cX7_seat 41 = .ok (.iload_n 1, 1) := by decide +kernel
theorem dX7_seat_42 : decode cX7_seat 42 = .ok (.invokevirtual 135, 3) := by decide +kernel
theorem dX7_seat_45 : decode cX7_seat 45 = .ok (.iload_n 2, 1) := by decide +kernel
theorem dX7_seat_46 : decode cX7_seat 46 = .ok (.putfield 147, 3) := by decide +kernel
theorem dX7_seat_49 : decode cX7_seat 49 = .ok (.aload_n 0, 1) := by decide +kernel
theorem dX7_seat_50 : decode cX7_seat 50 = .ok (.getfield 51, 3) := by decide +kernel
theorem dX7_seat_53 : decode cX7_seat 53 = .ok (.iload_n 1, 1) := by decide +kernel
theorem dX7_seat_54 : decode cX7_seat 54 = .ok (.putfield 90, 3) := by decide +kernel
theorem dX7_seat_57 : decode cX7_seat 57 = .ok (.iload_n 2, 1) := by decide +kernel
theorem dX7_seat_58 : decode cX7_seat 58 = .ok (.ireturn, 1) := by decide +kernel
set_option maxRecDepth 20000 in
theorem ggX7_lean_X1_hasJudge : GoodIn wsX7_lean wsX1_hasJudge := goodIn_r _ [9, 10, 34, 35, 36, 37, 38, 39, 40, 41, 42, 43, 44, 45, 46, 47] (by decide +kernel) (by decide +kernel)
set_option maxRecDepth 20000 in
theorem gX7_lean_X1_hasJudge : GoodIn wsX7_lean (wsV RX7 101 RX1 yX1_hasJudge wsX1_hasJudge) := goodIn_app (goodIn_of _ (by decide +kernel)) ggX7_lean_X1_hasJudge
set_option maxRecDepth 20000 in
theorem ggX7_lean_X4_begin : GoodIn wsX7_lean wsX4_begin := goodIn_r _ [15, 16, 17, 18, 19, 20, 21, 22, 23, 24, 25, 54, 55, 56, 48, 49, 50, 51, 52, 53] (by decide +kernel) (by decide +kernel)
set_option maxRecDepth 20000 in
theorem gX7_lean_X4_begin : GoodIn wsX7_lean (wsV RX7 135 RX4 yX4_begin wsX4_begin) := goodIn_app (goodIn_of _ (by decide +kernel)) ggX7_lean_X4_begin
theorem dX7_lean_0 : decode cX7_lean 0 = .ok (.aload_n 0, 1) := by decide +kernel
theorem dX7_lean_1 : decode cX7_lean 1 = .ok (.getfield 51, 3) := by decide +kernel
theorem dX7_lean_4 : decode cX7_lean 4 = .ok (.iload_n 1, 1) := by decide +kernel
theorem dX7_lean_5 : decode cX7_lean 5 = .ok (.invokevirtual 101, 3) := by decide +kernel
theorem dX7_lean_8 : decode cX7_lean 8 = .ok (.ifCond .eq 13, 3) := by decide +kernel
theorem dX7_lean_11 : decode cX7_lean 11 = .ok (.iload_n 2, 1) := by decide +kernel
theorem dX7_lean_12 : decode cX7_lean 12 = .ok (.ifCond .lt 9, 3) := by decide +kernel
theorem dX7_lean_15 : decode cX7_lean 15 = .ok (.iload_n 2, 1) := by decide +kernel
theorem dX7_lean_16 : decode cX7_lean 16 = .ok (.bipush 9, 2) := by decide +kernel
theorem dX7_lean_18 : decode cX7_lean 18 = .ok (.if_icmp .le 5, 3) := by decide +kernel
theorem dX7_lean_21 : decode cX7_lean 21 = .ok (.iconst (-1), 1) := by decide +kernel
theorem dX7_lean_22 : decode cX7_lean 22 = .ok (.ireturn, 1) := by decide +kernel
theorem dX7_lean_23 : decode cX7_lean 23 = .ok (.aload_n 0, 1) := by decide +kernel
theorem dX7_lean_24 : decode cX7_lean 24 = .ok (.getfield 51, 3) := by decide +kernel
theorem dX7_lean_27 : decode cX7_lean 27 = .ok (.getfield 104, 3) := by decide +kernel
theorem dX7_lean_30 : decode cX7_lean 30 = .ok (.iload_n 1, 1) := by decide +kernel
theorem dX7_lean_31 : decode cX7_lean 31 = .ok (.iaload, 1) := by decide +kernel
theorem dX7_lean_32 : decode cX7_lean 32 = .ok (.istore_n 3, 1) := by decide +kernel
theorem dX7_lean_33 : decode cX7_lean 33 = .ok (.iload_n 3, 1) := by decide +kernel
theorem dX7_lean_34 : decode cX7_lean 34 = .ok (.iload_n 2, 1) := by decide +kernel
theorem dX7_lean_35 : decode cX7_lean 35 = .ok (.if_icmp .ne 6, 3) := by decide +kernel
theorem dX7_lean_38 : decode cX7_lean 38 = .ok (.bipush (-2), 2) := by decide +kernel
theorem dX7_lean_40 : decode cX7_lean 40 = .ok (.ireturn, 1) := by decide +kernel
theorem dX7_lean_41 : decode cX7_lean 41 = .ok (.aload_n 0, 1) := by decide +kernel
theorem dX7_lean_42 : decode cX7_lean 42 = .ok (.getfield 19, 3) := by decide +kernel
theorem dX7_lean_45 : decode cX7_lean 45 = .ok (.iconst 4, 1) := by decide +kernel
theorem dX7_lean_46 : decode cX7_lean 46 = .ok (.iload_n 1, 1) := by decide +kernel
theorem dX7_lean_47 : decode cX7_lean 47 = .ok (.iload_n 1, 1) := by decide +kernel
theorem dX7_lean_48 : decode cX7_lean 48 = .ok (.invokevirtual 135, 3) := by decide +kernel
theorem dX7_lean_51 : decode cX7_lean 51 = .ok (.iload_n 3, 1) := by decide +kernel
theorem dX7_lean_52 : decode cX7_lean 52 = .ok (.putfield 139, 3) := by decide +kernel
theorem dX7_lean_55 : decode cX7_lean 55 = .ok (.aload_n 0, 1) := by decide +kernel
theorem dX7_lean_56 : decode cX7_lean 56 = .ok (.getfield 51, 3) := by decide +kernel
theorem dX7_lean_59 : decode cX7_lean 59 = .ok (.getfield 104, 3) := by decide +kernel
theorem dX7_lean_62 : decode cX7_lean 62 = .ok (.iload_n 1, 1) := by decide +kernel
theorem dX7_lean_63 : decode cX7_lean 63 = .ok (.iload_n 2, 1) := by decide +kernel
theorem dX7_lean_64 : decode cX7_lean 64 = .ok (.iastore, 1) := by decide +kernel
theorem dX7_lean_65 : decode cX7_lean 65 = .ok (.iload_n 3, 1) := by decide +kernel
theorem dX7_lean_66 : decode cX7_lean 66 = .ok (.ireturn, 1) := by decide +kernel
set_option maxRecDepth 20000 in
theorem ggX7_undo_X4_latest : GoodIn wsX7_undo wsX4_latest := goodIn_r _ [8, 9, 10, 58, 59, 60] (by decide +kernel) (by decide +kernel)
set_option maxRecDepth 20000 in
theorem gX7_undo_X4_latest : GoodIn wsX7_undo (wsV RX7 162 RX4 yX4_latest wsX4_latest) := goodIn_app (goodIn_of _ (by decide +kernel)) ggX7_undo_X4_latest
set_option maxRecDepth 20000 in
theorem ggX7_undo_X0_takeBack : GoodIn wsX7_undo wsX0_takeBack := goodIn_r _ [15, 16, 17, 18, 19, 20, 21, 22, 23, 24, 25, 26, 14, 27, 28, 29, 30, 31, 32, 33, 34, 35, 36, 37, 38, 39, 40, 41, 42, 43, 44, 61, 62, 63, 64, 65, 66, 67, 68, 69, 70, 71, 72, 73, 74, 75, 76, 77, 78, 79, 80] (by decide +kernel) (by decide +kernel)
set_option maxRecDepth 20000 in
theorem gX7_undo_X0_takeBack : GoodIn wsX7_undo (wsV RX7 166 RX0 yX0_takeBack wsX0_takeBack) := goodIn_app (goodIn_of _ (by decide +kernel)) ggX7_undo_X0_takeBack
set_option maxRecDepth 20000 in
theorem ggX7_undo_X4_forgetLatest : GoodIn wsX7_undo wsX4_forgetLatest := goodIn_r _ [48, 10, 49, 58, 59, 60] (by decide +kernel) (by decide +kernel)
set_option maxRecDepth 20000 in
theorem gX7_undo_X4_forgetLatest : GoodIn wsX7_undo (wsV RX7 170 RX4 yX4_forgetLatest wsX4_forgetLatest) := goodIn_app (goodIn_of _ (by decide +kernel)) ggX7_undo_X4_forgetLatest
theorem dX7_undo_0 : decode cX7_undo 0 = .ok (.aload_n 0, 1) := by decide +kernel
theorem dX7_undo_1 : decode cX7_undo 1 = .ok (.getfield 19, 3) := by decide +kernel
theorem dX7_undo_4 : decode cX7_undo 4 = .ok (.getfield 73, 3) := by decide +kernel
theorem dX7_undo_7 : decode cX7_undo 7 = .ok (.ifCond .ne 6, 3) := by decide +kernel
theorem dX7_undo_10 : decode cX7_undo 10 = .ok (.bipush (-4), 2) := by decide +kernel
theorem dX7_undo_12 : decode cX7_undo 12 = .ok (.ireturn, 1) := by decide +kernel
theorem dX7_undo_13 : decode cX7_undo 13 = .ok (.aload_n 0, 1) := by decide +kernel
theorem dX7_undo_14 : decode cX7_undo 14 = .ok (.getfield 19, 3) := by decide +kernel
theorem dX7_undo_17 : decode cX7_undo 17 = .ok (.invokevirtual 162, 3) := by decide +kernel
theorem dX7_undo_20 : decode cX7_undo 20 = .ok (.aload_n 0, 1) := by decide +kernel
theorem dX7_undo_21 : decode cX7_undo 21 = .ok (.getfield 51, 3) := by decide +kernel
theorem dX7_undo_24 : decode cX7_undo 24 = .ok (.invokevirtual 166, 3) := by decide +kernel
theorem dX7_undo_27 : decode cX7_undo 27 = .ok (.aload_n 0, 1) := by decide +kernel
theorem dX7_undo_28 : decode cX7_undo 28 = .ok (.getfield 19, 3) := by decide +kernel
theorem dX7_undo_31 : decode cX7_undo 31 = .ok (.invokevirtual 170, 3) := by decide +kernel
theorem dX7_undo_34 : decode cX7_undo 34 = .ok (.aload_n 0, 1) := by decide +kernel
theorem dX7_undo_35 : decode cX7_undo 35 = .ok (.getfield 19, 3) := by decide +kernel
theorem dX7_undo_38 : decode cX7_undo 38 = .ok (.getfield 73, 3) := by decide +kernel
theorem dX7_undo_41 : decode cX7_undo 41 = .ok (.ireturn, 1) := by decide +kernel
set_option maxRecDepth 20000 in
theorem ggX7_image_X1_isThere : GoodIn wsX7_image wsX1_isThere := goodIn_r _ [8, 9, 39, 40, 41, 42, 43, 44, 45, 46, 47, 48, 49, 50, 51, 52] (by decide +kernel) (by decide +kernel)
set_option maxRecDepth 20000 in
theorem gX7_image_X1_isThere : GoodIn wsX7_image (wsV RX7 173 RX1 yX1_isThere wsX1_isThere) := goodIn_app (goodIn_of _ (by decide +kernel)) ggX7_image_X1_isThere
set_option maxRecDepth 20000 in
theorem ggX7_image_X1_become : GoodIn wsX7_image wsX1_become := goodIn_r _ [13, 14, 15, 16, 17, 18, 19, 20, 21, 22, 23, 24, 25, 26, 27, 28, 9, 29, 30, 39, 40, 41, 42, 43, 44, 45, 46, 47, 48, 49, 50, 51, 52] (by decide +kernel) (by decide +kernel)
set_option maxRecDepth 20000 in
theorem gX7_image_X1_become : GoodIn wsX7_image (wsV RX7 177 RX1 yX1_become wsX1_become) := goodIn_app (goodIn_of _ (by decide +kernel)) ggX7_image_X1_become
theorem dX7_image_0 : decode cX7_image 0 = .ok (.iload_n 1, 1) := by decide +kernel
theorem dX7_image_1 : decode cX7_image 1 = .ok (.ifCond .lt 8, 3) := by decide +kernel
theorem dX7_image_4 : decode cX7_image 4 = .ok (.iload_n 1, 1) := by decide +kernel
theorem dX7_image_5 : decode cX7_image 5 = .ok (.iconst 2, 1) := by decide +kernel
theorem dX7_image_6 : decode cX7_image 6 = .ok (.if_icmp .lt 5, 3) := by decide +kernel
theorem dX7_image_9 : decode cX7_image 9 = .ok (.iconst (-1), 1) := by decide +kernel
theorem dX7_image_10 : decode cX7_image 10 = .ok (.ireturn, 1) := by decide +kernel
theorem dX7_image_11 : decode cX7_image 11 = .ok (.aload_n 0, 1) := by decide +kernel
theorem dX7_image_12 : decode cX7_image 12 = .ok (.getfield 51, 3) := by decide +kernel
theorem dX7_image_15 : decode cX7_image 15 = .ok (.invokevirtual 173, 3) := by decide +kernel
theorem dX7_image_18 : decode cX7_image 18 = .ok (.ifCond .ne 6, 3) := by decide +kernel
theorem dX7_image_21 : decode cX7_image 21 = .ok (.bipush (-2), 2) := by decide +kernel
theorem dX7_image_23 : decode cX7_image 23 = .ok (.ireturn, 1) := by decide +kernel
theorem dX7_image_24 : decode cX7_image 24 = .ok (.aload_n 0, 1) := by decide +kernel
theorem dX7_image_25 : decode cX7_image 25 = .ok (.getfield 39, 3) := by decide +kernel
theorem dX7_image_28 : decode cX7_image 28 = .ok (.iload_n 1, 1) := by decide +kernel
theorem dX7_image_29 : decode cX7_image 29 = .ok (.aaload, 1) := by decide +kernel
theorem dX7_image_30 : decode cX7_image 30 = .ok (.aload_n 0, 1) := by decide +kernel
theorem dX7_image_31 : decode cX7_image 31 = .ok (.getfield 51, 3) := by decide +kernel
theorem dX7_image_34 : decode cX7_image 34 = .ok (.invokevirtual 177, 3) := by decide +kernel
theorem dX7_image_37 : decode cX7_image 37 = .ok (.aload_n 0, 1) := by decide +kernel
theorem dX7_image_38 : decode cX7_image 38 = .ok (.getfield 51, 3) := by decide +kernel
theorem dX7_image_41 : decode cX7_image 41 = .ok (.getfield 132, 3) := by decide +kernel
theorem dX7_image_44 : decode cX7_image 44 = .ok (.ireturn, 1) := by decide +kernel
set_option maxRecDepth 20000 in
theorem ggX7_restore_X1_isThere : GoodIn wsX7_restore wsX1_isThere := goodIn_r _ [10, 11, 44, 45, 46, 47, 48, 49, 50, 51, 52, 53, 54, 55, 56, 57] (by decide +kernel) (by decide +kernel)
set_option maxRecDepth 20000 in
theorem gX7_restore_X1_isThere : GoodIn wsX7_restore (wsV RX7 173 RX1 yX1_isThere wsX1_isThere) := goodIn_app (goodIn_of _ (by decide +kernel)) ggX7_restore_X1_isThere
set_option maxRecDepth 20000 in
theorem ggX7_restore_X1_become : GoodIn wsX7_restore wsX1_become := goodIn_r _ [15, 16, 17, 18, 19, 20, 21, 22, 23, 24, 25, 26, 27, 28, 29, 30, 11, 31, 32, 44, 45, 46, 47, 48, 49, 50, 51, 52, 53, 54, 55, 56, 57] (by decide +kernel) (by decide +kernel)
set_option maxRecDepth 20000 in
theorem gX7_restore_X1_become : GoodIn wsX7_restore (wsV RX7 177 RX1 yX1_become wsX1_become) := goodIn_app (goodIn_of _ (by decide +kernel)) ggX7_restore_X1_become
theorem dX7_restore_0 : decode cX7_restore 0 = .ok (.iload_n 1, 1) := by decide +kernel
theorem dX7_restore_1 : decode cX7_restore 1 = .ok (.ifCond .lt 8, 3) := by decide +kernel
theorem dX7_restore_4 : decode cX7_restore 4 = .ok (.iload_n 1, 1) := by decide +kernel
theorem dX7_restore_5 : decode cX7_restore 5 = .ok (.iconst 2, 1) := by decide +kernel
theorem dX7_restore_6 : decode cX7_restore 6 = .ok (.if_icmp .lt 5, 3) := by decide +kernel
theorem dX7_restore_9 : decode cX7_restore 9 = .ok (.iconst (-1), 1) := by decide +kernel
theorem dX7_restore_10 : decode cX7_restore 10 = .ok (.ireturn, 1) := by decide +kernel
theorem dX7_restore_11 : decode cX7_restore 11 = .ok (.aload_n 0, 1) := by decide +kernel
theorem dX7_restore_12 : decode cX7_restore 12 = .ok (.getfield 39, 3) := by decide +kernel
theorem dX7_restore_15 : decode cX7_restore 15 = .ok (.iload_n 1, 1) := by decide +kernel
theorem dX7_restore_16 : decode cX7_restore 16 = .ok (.aaload, 1) := by decide +kernel
theorem dX7_restore_17 : decode cX7_restore 17 = .ok (.invokevirtual 173, 3) := by decide +kernel
theorem dX7_restore_20 : decode cX7_restore 20 = .ok (.ifCond .ne 6, 3) := by decide +kernel
theorem dX7_restore_23 : decode cX7_restore 23 = .ok (.bipush (-2), 2) := by decide +kernel
theorem dX7_restore_25 : decode cX7_restore 25 = .ok (.ireturn, 1) := by decide +kernel
theorem dX7_restore_26 : decode cX7_restore 26 = .ok (.aload_n 0, 1) := by decide +kernel
theorem dX7_restore_27 : decode cX7_restore 27 = .ok (.getfield 51, 3) := by decide +kernel
theorem dX7_restore_30 : decode cX7_restore 30 = .ok (.aload_n 0, 1) := by decide +kernel
theorem dX7_restore_31 : decode cX7_restore 31 = .ok (.getfield 39, 3) := by decide +kernel
theorem dX7_restore_34 : decode cX7_restore 34 = .ok (.iload_n 1, 1) := by decide +kernel
theorem dX7_restore_35 : decode cX7_restore 35 = .ok (.aaload, 1) := by decide +kernel
theorem dX7_restore_36 : decode cX7_restore 36 = .ok (.invokevirtual 177, 3) := by decide +kernel
theorem dX7_restore_39 : decode cX7_restore 39 = .ok (.aload_n 0, 1) := by decide +kernel
theorem dX7_restore_40 : decode cX7_restore 40 = .ok (.getfield 19, 3) := by decide +kernel
theorem dX7_restore_43 : decode cX7_restore 43 = .ok (.iconst 0, 1) := by decide +kernel
theorem dX7_restore_44 : decode cX7_restore 44 = .ok (.putfield 73, 3) := by decide +kernel
theorem dX7_restore_47 : decode cX7_restore 47 = .ok (.aload_n 0, 1) := by decide +kernel
theorem dX7_restore_48 : decode cX7_restore 48 = .ok (.getfield 51, 3) := by decide +kernel
theorem dX7_restore_51 : decode cX7_restore 51 = .ok (.getfield 132, 3) := by decide +kernel
theorem dX7_restore_54 : decode cX7_restore 54 = .ok (.ireturn, 1) := by decide +kernel
set_option maxRecDepth 20000 in
theorem ggX7_ahead_X7_isFirstOrSecond : GoodIn wsX7_ahead wsX7_isFirstOrSecond := goodIn_r _ [9] (by decide +kernel) (by decide +kernel)
set_option maxRecDepth 20000 in
theorem gX7_ahead_X7_isFirstOrSecond : GoodIn wsX7_ahead (va_wsS RX7 180 yX7_isFirstOrSecond wsX7_isFirstOrSecond) := goodIn_app (goodIn_of _ (by decide +kernel)) ggX7_ahead_X7_isFirstOrSecond
set_option maxRecDepth 20000 in
theorem ggX7_ahead_X1_isThere : GoodIn wsX7_ahead wsX1_isThere := goodIn_r _ [14, 15, 92, 93, 94, 95, 96, 97, 98, 99, 100, 101, 102, 103, 104, 105] (by decide +kernel) (by decide +kernel)
set_option maxRecDepth 20000 in
theorem gX7_ahead_X1_isThere : GoodIn wsX7_ahead (wsV RX7 173 RX1 yX1_isThere wsX1_isThere) := goodIn_app (goodIn_of _ (by decide +kernel)) ggX7_ahead_X1_isThere
set_option maxRecDepth 20000 in
theorem ggX7_ahead_X1_casesLeft : GoodIn wsX7_ahead wsX1_casesLeft := goodIn_r _ [19, 15, 20, 92, 93, 94, 95, 96, 97, 98, 99, 100, 101, 102, 103, 104, 105] (by decide +kernel) (by decide +kernel)
set_option maxRecDepth 20000 in
theorem gX7_ahead_X1_casesLeft : GoodIn wsX7_ahead (wsV RX7 128 RX1 yX1_casesLeft wsX1_casesLeft) := goodIn_app (goodIn_of _ (by decide +kernel)) ggX7_ahead_X1_casesLeft
set_option maxRecDepth 20000 in
theorem ggX7_ahead_X7_hearInSpare : GoodIn wsX7_ahead wsX7_hearInSpare := goodIn_r _ [24, 2, 1, 5, 25, 26, 27, 13, 28, 29, 30, 31, 32, 33, 34, 35, 36, 37, 38, 39, 40, 41, 42, 43, 15, 20, 44, 45, 46, 47, 48, 49, 50, 51, 52, 53, 54, 55, 56, 57, 58, 59, 60, 61, 62, 63, 64, 65, 66, 67, 68, 69, 70, 71, 72, 73, 74, 75, 76, 77, 78, 79, 80, 81, 82, 83, 84, 85, 86, 87, 88, 89, 90, 91, 92, 93, 94, 95, 96, 97, 98, 99, 100, 101, 102, 103, 104, 105] (by decide +kernel) (by decide +kernel)
set_option maxRecDepth 20000 in
theorem gX7_ahead_X7_hearInSpare : GoodIn wsX7_ahead (wsV RX7 183 RX7 yX7_hearInSpare wsX7_hearInSpare) := goodIn_app (goodIn_of _ (by decide +kernel)) ggX7_ahead_X7_hearInSpare
theorem dX7_ahead_0 : decode cX7_ahead 0 = .ok (.iload_n 1, 1) := by decide +kernel
theorem dX7_ahead_1 : decode cX7_ahead 1 = .ok (.ifCond .lt 16, 3) := by decide +kernel
theorem dX7_ahead_4 : decode cX7_ahead 4 = .ok (.iload_n 1, 1) := by decide +kernel
theorem dX7_ahead_5 : decode cX7_ahead 5 = .ok (.bipush 12, 2) := by decide +kernel
theorem dX7_ahead_7 : decode cX7_ahead 7 = .ok (.if_icmp .gt 10, 3) := by decide +kernel
theorem dX7_ahead_10 : decode cX7_ahead 10 = .ok (.iload_n 2, 1) := by decide +kernel
theorem dX7_ahead_11 : decode cX7_ahead 11 = .ok (.invokestatic 180, 3) := by decide +kernel
theorem dX7_ahead_14 : decode cX7_ahead 14 = .ok (.ifCond .ne 5, 3) := by decide +kernel
theorem dX7_ahead_17 : decode cX7_ahead 17 = .ok (.iconst (-1), 1) := by decide +kernel
theorem dX7_ahead_18 : decode cX7_ahead 18 = .ok (.ireturn, 1) := by decide +kernel
theorem dX7_ahead_19 : decode cX7_ahead 19 = .ok (.aload_n 0, 1) := by decide +kernel
theorem dX7_ahead_20 : decode cX7_ahead 20 = .ok (.getfield 51, 3) := by decide +kernel
theorem dX7_ahead_23 : decode cX7_ahead 23 = .ok (.invokevirtual 173, 3) := by decide +kernel
theorem dX7_ahead_26 : decode cX7_ahead 26 = .ok (.ifCond .ne 6, 3) := by decide +kernel
theorem dX7_ahead_29 : decode cX7_ahead 29 = .ok (.bipush (-2), 2) := by decide +kernel
theorem dX7_ahead_31 : decode cX7_ahead 31 = .ok (.ireturn, 1) := by decide +kernel
theorem dX7_ahead_32 : decode cX7_ahead 32 = .ok (.iload_n 1, 1) := by decide +kernel
theorem dX7_ahead_33 : decode cX7_ahead 33 = .ok (.aload_n 0, 1) := by decide +kernel
theorem dX7_ahead_34 : decode cX7_ahead 34 = .ok (.getfield 51, 3) := by decide +kernel
theorem dX7_ahead_37 : decode cX7_ahead 37 = .ok (.invokevirtual 128, 3) := by decide +kernel
theorem dX7_ahead_40 : decode cX7_ahead 40 = .ok (.if_icmp .le 6, 3) := by decide +kernel
theorem dX7_ahead_43 : decode cX7_ahead 43 = .ok (.bipush (-4), 2) := by decide +kernel
theorem dX7_ahead_45 : decode cX7_ahead 45 = .ok (.ireturn, 1) := by decide +kernel
theorem dX7_ahead_46 : decode cX7_ahead 46 = .ok (.aload_n 0, 1) := by decide +kernel
theorem dX7_ahead_47 : decode cX7_ahead 47 = .ok (.iload_n 1, 1) := by decide +kernel
theorem dX7_ahead_48 : decode cX7_ahead 48 = .ok (.invokevirtual 183, 3) := by decide +kernel
theorem dX7_ahead_51 : decode cX7_ahead 51 = .ok (.iload_n 2, 1) := by decide +kernel
theorem dX7_ahead_52 : decode cX7_ahead 52 = .ok (.iconst 1, 1) := by decide +kernel
theorem dX7_ahead_53 : decode cX7_ahead 53 = .ok (.if_icmp .ne 11, 3) := by decide +kernel
theorem dX7_ahead_56 : decode cX7_ahead 56 = .ok (.aload_n 0, 1) := by decide +kernel
theorem dX7_ahead_57 : decode cX7_ahead 57 = .ok (.getfield 55, 3) := by decide +kernel
theorem dX7_ahead_60 : decode cX7_ahead 60 = .ok (.getfield 90, 3) := by decide +kernel
theorem dX7_ahead_63 : decode cX7_ahead 63 = .ok (.ireturn, 1) := by decide +kernel
theorem dX7_ahead_64 : decode cX7_ahead 64 = .ok (.iload_n 1, 1) := by decide +kernel
theorem dX7_ahead_65 : decode cX7_ahead 65 = .ok (.ifCond .ne 8, 3) := by decide +kernel
theorem dX7_ahead_68 : decode cX7_ahead 68 = .ok (.bipush (-4), 2) := by decide +kernel
theorem dX7_ahead_70 : decode cX7_ahead 70 = .ok (.goto 22, 3) := by decide +kernel
theorem dX7_ahead_73 : decode cX7_ahead 73 = .ok (.aload_n 0, 1) := by decide +kernel
theorem dX7_ahead_74 : decode cX7_ahead 74 = .ok (.getfield 55, 3) := by decide +kernel
theorem dX7_ahead_77 : decode cX7_ahead 77 = .ok (.getfield 122, 3) := by decide +kernel
theorem dX7_ahead_80 : decode cX7_ahead 80 = .ok (.aload_n 0, 1) := by decide +kernel
theorem dX7_ahead_81 : decode cX7_ahead 81 = .ok (.getfield 51, 3) := by decide +kernel
theorem dX7_ahead_84 : decode cX7_ahead 84 = .ok (.getfield 132, 3) := by decide +kernel
theorem dX7_ahead_87 : decode cX7_ahead 87 = .ok (.iload_n 1, 1) := by decide +kernel
theorem dX7_ahead_88 : decode cX7_ahead 88 = .ok (.iadd, 1) := by decide +kernel
theorem dX7_ahead_89 : decode cX7_ahead 89 = .ok (.iconst 1, 1) := by decide +kernel
theorem dX7_ahead_90 : decode cX7_ahead 90 = .ok (.isub, 1) := by decide +kernel
theorem dX7_ahead_91 : decode cX7_ahead 91 = .ok (.iaload, 1) := by decide +kernel
theorem dX7_ahead_92 : decode cX7_ahead 92 = .ok (.ireturn, 1) := by decide +kernel
set_option maxRecDepth 20000 in
theorem ggX7_throwing_X1_hasParty : GoodIn wsX7_throwing wsX1_hasParty := goodIn_r _ [8, 9, 98, 99, 100, 101, 102, 103, 104, 105, 106, 107, 108, 109, 110, 111] (by decide +kernel) (by decide +kernel)
set_option maxRecDepth 20000 in
theorem gX7_throwing_X1_hasParty : GoodIn wsX7_throwing (wsV RX7 77 RX1 yX1_hasParty wsX1_hasParty) := goodIn_app (goodIn_of _ (by decide +kernel)) ggX7_throwing_X1_hasParty
set_option maxRecDepth 20000 in
theorem ggX7_throwing_X1_hasCase : GoodIn wsX7_throwing wsX1_hasCase := goodIn_r _ [13, 14, 98, 99, 100, 101, 102, 103, 104, 105, 106, 107, 108, 109, 110, 111] (by decide +kernel) (by decide +kernel)
set_option maxRecDepth 20000 in
theorem gX7_throwing_X1_hasCase : GoodIn wsX7_throwing (wsV RX7 110 RX1 yX1_hasCase wsX1_hasCase) := goodIn_app (goodIn_of _ (by decide +kernel)) ggX7_throwing_X1_hasCase
set_option maxRecDepth 20000 in
theorem ggX7_throwing_X1_isOwn : GoodIn wsX7_throwing wsX1_isOwn := goodIn_r _ [18, 19, 20, 98, 99, 100, 101, 102, 103, 104, 105, 106, 107, 108, 109, 110, 111] (by decide +kernel) (by decide +kernel)
set_option maxRecDepth 20000 in
theorem gX7_throwing_X1_isOwn : GoodIn wsX7_throwing (wsV RX7 187 RX1 yX1_isOwn wsX1_isOwn) := goodIn_app (goodIn_of _ (by decide +kernel)) ggX7_throwing_X1_isOwn
set_option maxRecDepth 20000 in
theorem ggX7_throwing_X3_fewestThrows : GoodIn wsX7_throwing wsX3_fewestThrows := goodIn_r _ [25, 26, 27, 28, 29, 30, 31, 32, 33, 34, 35, 36, 37, 38, 39, 40, 41, 42, 24, 43, 44, 45, 46, 7, 47, 48, 19, 20, 49, 50, 51, 52, 53, 54, 55, 56, 57, 58, 59, 60, 61, 62, 63, 64, 65, 66, 67, 68, 69, 70, 71, 72, 73, 74, 75, 76, 77, 16, 17, 18, 78, 79, 80, 81, 82, 83, 84, 85, 86, 87, 88, 89, 112, 113, 114, 115, 116, 117, 118, 119, 98, 99, 100, 101, 102, 103, 104, 105, 106, 107, 108, 109, 110, 111] (by decide +kernel) (by decide +kernel)
set_option maxRecDepth 20000 in
theorem gX7_throwing_X3_fewestThrows : GoodIn wsX7_throwing (wsV RX7 190 RX3 yX3_fewestThrows wsX3_fewestThrows) := goodIn_app (goodIn_of _ (by decide +kernel)) ggX7_throwing_X3_fewestThrows
theorem dX7_throwing_0 : decode cX7_throwing 0 = .ok (.aload_n 0, 1) := by decide +kernel
theorem dX7_throwing_1 : decode cX7_throwing 1 = .ok (.getfield 51, 3) := by decide +kernel
theorem dX7_throwing_4 : decode cX7_throwing 4 = .ok (.iload_n 1, 1) := by decide +kernel
theorem dX7_throwing_5 : decode cX7_throwing 5 = .ok (.invokevirtual 77, 3) := by decide +kernel
theorem dX7_throwing_8 : decode cX7_throwing 8 = .ok (.ifCond .eq 14, 3) := by decide +kernel
theorem dX7_throwing_11 : decode cX7_throwing 11 = .ok (.aload_n 0, 1) := by decide +kernel
theorem dX7_throwing_12 : decode cX7_throwing 12 = .ok (.getfield 51, 3) := by decide +kernel
theorem dX7_throwing_15 : decode cX7_throwing 15 = .ok (.iload_n 2, 1) := by decide +kernel
theorem dX7_throwing_16 : decode cX7_throwing 16 = .ok (.invokevirtual 110, 3) := by decide +kernel
theorem dX7_throwing_19 : decode cX7_throwing 19 = .ok (.ifCond .ne 5, 3) := by decide +kernel
theorem dX7_throwing_22 : decode cX7_throwing 22 = .ok (.iconst (-1), 1) := by decide +kernel
theorem dX7_throwing_23 : decode cX7_throwing 23 = .ok (.ireturn, 1) := by decide +kernel
theorem dX7_throwing_24 : decode cX7_throwing 24 = .ok (.aload_n 0, 1) := by decide +kernel
theorem dX7_throwing_25 : decode cX7_throwing 25 = .ok (.getfield 51, 3) := by decide +kernel
theorem dX7_throwing_28 : decode cX7_throwing 28 = .ok (.iload_n 1, 1) := by decide +kernel
theorem dX7_throwing_29 : decode cX7_throwing 29 = .ok (.iload_n 2, 1) := by decide +kernel
theorem dX7_throwing_30 : decode cX7_throwing 30 = .ok (.invokevirtual 187, 3) := by decide +kernel
theorem dX7_throwing_33 : decode cX7_throwing 33 = .ok (.ifCond .eq 14, 3) := by decide +kernel
theorem dX7_throwing_36 : decode cX7_throwing 36 = .ok (.iload_n 2, 1) := by decide +kernel
theorem dX7_throwing_37 : decode cX7_throwing 37 = .ok (.aload_n 0, 1) := by decide +kernel
theorem dX7_throwing_38 : decode cX7_throwing 38 = .ok (.getfield 51, 3) := by decide +kernel
theorem dX7_throwing_41 : decode cX7_throwing 41 = .ok (.getfield 132, 3) := by decide +kernel
theorem dX7_throwing_44 : decode cX7_throwing 44 = .ok (.if_icmp .ge 6, 3) := by decide +kernel
theorem dX7_throwing_47 : decode cX7_throwing 47 = .ok (.bipush (-2), 2) := by decide +kernel
theorem dX7_throwing_49 : decode cX7_throwing 49 = .ok (.ireturn, 1) := by decide +kernel
theorem dX7_throwing_50 : decode cX7_throwing 50 = .ok (.aload_n 0, 1) := by decide +kernel
theorem dX7_throwing_51 : decode cX7_throwing 51 = .ok (.getfield 26, 3) := by decide +kernel
theorem dX7_throwing_54 : decode cX7_throwing 54 = .ok (.aload_n 0, 1) := by decide +kernel
theorem dX7_throwing_55 : decode cX7_throwing 55 = .ok (.getfield 51, 3) := by decide +kernel
theorem dX7_throwing_58 : decode cX7_throwing 58 = .ok (.iload_n 1, 1) := by decide +kernel
theorem dX7_throwing_59 : decode cX7_throwing 59 = .ok (.iload_n 2, 1) := by decide +kernel
theorem dX7_throwing_60 : decode cX7_throwing 60 = .ok (.invokevirtual 190, 3) := by decide +kernel
theorem dX7_throwing_63 : decode cX7_throwing 63 = .ok (.ireturn, 1) := by decide +kernel
set_option maxRecDepth 20000 in
theorem ggX7_worth_X1_hasParty : GoodIn wsX7_worth wsX1_hasParty := goodIn_r _ [7, 8, 96, 97, 98, 99, 100, 101, 102, 103, 104, 105, 106, 107, 108, 109] (by decide +kernel) (by decide +kernel)
set_option maxRecDepth 20000 in
theorem gX7_worth_X1_hasParty : GoodIn wsX7_worth (wsV RX7 77 RX1 yX1_hasParty wsX1_hasParty) := goodIn_app (goodIn_of _ (by decide +kernel)) ggX7_worth_X1_hasParty
set_option maxRecDepth 20000 in
theorem ggX7_worth_X1_casesLeft : GoodIn wsX7_worth wsX1_casesLeft := goodIn_r _ [12, 13, 14, 96, 97, 98, 99, 100, 101, 102, 103, 104, 105, 106, 107, 108, 109] (by decide +kernel) (by decide +kernel)
set_option maxRecDepth 20000 in
theorem gX7_worth_X1_casesLeft : GoodIn wsX7_worth (wsV RX7 128 RX1 yX1_casesLeft wsX1_casesLeft) := goodIn_app (goodIn_of _ (by decide +kernel)) ggX7_worth_X1_casesLeft
set_option maxRecDepth 20000 in
theorem ggX7_worth_X3_contest : GoodIn wsX7_worth wsX3_contest := goodIn_r _ [19, 20, 21, 22, 23, 24, 25, 26, 27, 28, 29, 30, 31, 32, 33, 34, 35, 36, 37, 38, 6, 39, 40, 41, 42, 43, 44, 45, 46, 47, 48, 49, 50, 51, 18, 52, 53, 54, 55, 56, 57, 58, 59, 60, 61, 62, 63, 64, 65, 66, 67, 68, 69, 70, 71, 72, 73, 74, 75, 76, 77, 78, 79, 80, 81, 82, 83, 84, 85, 86, 87, 110, 111, 112, 113, 114, 115, 116, 117, 96, 97, 98, 99, 100, 101, 102, 103, 104, 105, 106, 107, 108, 109] (by decide +kernel) (by decide +kernel)
set_option maxRecDepth 20000 in
theorem gX7_worth_X3_contest : GoodIn wsX7_worth (wsV RX7 194 RX3 yX3_contest wsX3_contest) := goodIn_app (goodIn_of _ (by decide +kernel)) ggX7_worth_X3_contest
theorem dX7_worth_0 : decode cX7_worth 0 = .ok (.aload_n 0, 1) := by decide +kernel
theorem dX7_worth_1 : decode cX7_worth 1 = .ok (.getfield 51, 3) := by decide +kernel
theorem dX7_worth_4 : decode cX7_worth 4 = .ok (.iload_n 1, 1) := by decide +kernel
theorem dX7_worth_5 : decode cX7_worth 5 = .ok (.invokevirtual 77, 3) := by decide +kernel
theorem dX7_worth_8 : decode cX7_worth 8 = .ok (.ifCond .ne 5, 3) := by decide +kernel
theorem dX7_worth_11 : decode cX7_worth 11 = .ok (.iconst (-1), 1) := by decide +kernel
theorem dX7_worth_12 : decode cX7_worth 12 = .ok (.ireturn, 1) := by decide +kernel
theorem dX7_worth_13 : decode cX7_worth 13 = .ok (.aload_n 0, 1) := by decide +kernel
theorem dX7_worth_14 : decode cX7_worth 14 = .ok (.getfield 26, 3) := by decide +kernel
theorem dX7_worth_17 : decode cX7_worth 17 = .ok (.aload_n 0, 1) := by decide +kernel
theorem dX7_worth_18 : decode cX7_worth 18 = .ok (.getfield 51, 3) := by decide +kernel
theorem dX7_worth_21 : decode cX7_worth 21 = .ok (.iload_n 1, 1) := by decide +kernel
theorem dX7_worth_22 : decode cX7_worth 22 = .ok (.bipush (-4), 2) := by decide +kernel
theorem dX7_worth_24 : decode cX7_worth 24 = .ok (.aload_n 0, 1) := by decide +kernel
theorem dX7_worth_25 : decode cX7_worth 25 = .ok (.getfield 51, 3) := by decide +kernel
theorem dX7_worth_28 : decode cX7_worth 28 = .ok (.invokevirtual 128, 3) := by decide +kernel
theorem dX7_worth_31 : decode cX7_worth 31 = .ok (.invokevirtual 194, 3) := by decide +kernel
theorem dX7_worth_34 : decode cX7_worth 34 = .ok (.ireturn, 1) := by decide +kernel
set_option maxRecDepth 20000 in
theorem ggX7_duel_X1_hasParty : GoodIn wsX7_duel wsX1_hasParty := goodIn_r _ [11, 12, 97, 98, 99, 100, 101, 102, 103, 104, 105, 106, 107, 108, 109, 110] (by decide +kernel) (by decide +kernel)
set_option maxRecDepth 20000 in
theorem gX7_duel_X1_hasParty : GoodIn wsX7_duel (wsV RX7 77 RX1 yX1_hasParty wsX1_hasParty) := goodIn_app (goodIn_of _ (by decide +kernel)) ggX7_duel_X1_hasParty
set_option maxRecDepth 20000 in
theorem ggX7_duel_X1_casesLeft : GoodIn wsX7_duel wsX1_casesLeft := goodIn_r _ [16, 17, 18, 97, 98, 99, 100, 101, 102, 103, 104, 105, 106, 107, 108, 109, 110] (by decide +kernel) (by decide +kernel)
set_option maxRecDepth 20000 in
theorem gX7_duel_X1_casesLeft : GoodIn wsX7_duel (wsV RX7 128 RX1 yX1_casesLeft wsX1_casesLeft) := goodIn_app (goodIn_of _ (by decide +kernel)) ggX7_duel_X1_casesLeft
set_option maxRecDepth 20000 in
theorem ggX7_duel_X3_contest : GoodIn wsX7_duel wsX3_contest := goodIn_r _ [23, 24, 25, 26, 27, 4, 5, 6, 28, 29, 30, 31, 32, 33, 34, 35, 36, 37, 38, 39, 10, 40, 41, 42, 43, 44, 45, 46, 47, 48, 49, 50, 51, 52, 22, 53, 54, 55, 56, 57, 58, 59, 60, 61, 62, 63, 64, 65, 66, 67, 68, 69, 70, 71, 72, 73, 74, 75, 76, 77, 78, 79, 80, 81, 82, 83, 84, 85, 86, 87, 88, 111, 112, 113, 114, 115, 116, 117, 118, 97, 98, 99, 100, 101, 102, 103, 104, 105, 106, 107, 108, 109, 110] (by decide +kernel) (by decide +kernel)
set_option maxRecDepth 20000 in
theorem gX7_duel_X3_contest : GoodIn wsX7_duel (wsV RX7 194 RX3 yX3_contest wsX3_contest) := goodIn_app (goodIn_of _ (by decide +kernel)) ggX7_duel_X3_contest
theorem dX7_duel_0 : decode cX7_duel 0 = .ok (.aload_n 0, 1) := by decide +kernel
theorem dX7_duel_1 : decode cX7_duel 1 = .ok (.getfield 51, 3) := by decide +kernel
theorem dX7_duel_4 : decode cX7_duel 4 = .ok (.iload_n 1, 1) := by decide +kernel
theorem dX7_duel_5 : decode cX7_duel 5 = .ok (.invokevirtual 77, 3) := by decide +kernel
theorem dX7_duel_8 : decode cX7_duel 8 = .ok (.ifCond .eq 29, 3) := by decide +kernel
theorem dX7_duel_11 : decode cX7_duel 11 = .ok (.aload_n 0, 1) := by decide +kernel
theorem dX7_duel_12 : decode cX7_duel 12 = .ok (.getfield 51, 3) := by decide +kernel
theorem dX7_duel_15 : decode cX7_duel 15 = .ok (.iload_n 2, 1) := by decide +kernel
theorem dX7_duel_16 : decode cX7_duel 16 = .ok (.invokevirtual 77, 3) := by decide +kernel
theorem dX7_duel_19 : decode cX7_duel 19 = .ok (.ifCond .eq 18, 3) := by decide +kernel
theorem dX7_duel_22 : decode cX7_duel 22 = .ok (.iload_n 1, 1) := by decide +kernel
theorem dX7_duel_23 : decode cX7_duel 23 = .ok (.iload_n 2, 1) := by decide +kernel
theorem dX7_duel_24 : decode cX7_duel 24 = .ok (.if_icmp .eq 13, 3) := by decide +kernel
theorem dX7_duel_27 : decode cX7_duel 27 = .ok (.iload_n 3, 1) := by decide +kernel
theorem dX7_duel_28 : decode cX7_duel 28 = .ok (.ifCond .lt 9, 3) := by decide +kernel
theorem dX7_duel_31 : decode cX7_duel 31 = .ok (.iload_n 3, 1) := by decide +kernel
theorem dX7_duel_32 : decode cX7_duel 32 = .ok (.bipush 8, 2) := by decide +kernel
theorem dX7_duel_34 : decode cX7_duel 34 = .ok (.if_icmp .le 5, 3) := by decide +kernel
theorem dX7_duel_37 : decode cX7_duel 37 = .ok (.iconst (-1), 1) := by decide +kernel
theorem dX7_duel_38 : decode cX7_duel 38 = .ok (.ireturn, 1) := by decide +kernel
theorem dX7_duel_39 : decode cX7_duel 39 = .ok (.bipush 100, 2) := by decide +kernel
theorem dX7_duel_41 : decode cX7_duel 41 = .ok (.aload_n 0, 1) := by decide +kernel
theorem dX7_duel_42 : decode cX7_duel 42 = .ok (.getfield 26, 3) := by decide +kernel
theorem dX7_duel_45 : decode cX7_duel 45 = .ok (.aload_n 0, 1) := by decide +kernel
theorem dX7_duel_46 : decode cX7_duel 46 = .ok (.getfield 51, 3) := by decide +kernel
theorem dX7_duel_49 : decode cX7_duel 49 = .ok (.iload_n 1, 1) := by decide +kernel
theorem dX7_duel_50 : decode cX7_duel 50 = .ok (.iload_n 2, 1) := by decide +kernel
theorem dX7_duel_51 : decode cX7_duel 51 = .ok (.iload_n 3, 1) := by decide +kernel
theorem dX7_duel_52 : decode cX7_duel 52 = .ok (.aload_n 0, 1) := by decide +kernel
theorem dX7_duel_53 : decode cX7_duel 53 = .ok (.getfield 51, 3) := by decide +kernel
theorem dX7_duel_56 : decode cX7_duel 56 = .ok (.invokevirtual 128, 3) := by decide +kernel
theorem dX7_duel_59 : decode cX7_duel 59 = .ok (.invokestatic 198, 3) := by decide +kernel
theorem dX7_duel_62 : decode cX7_duel 62 = .ok (.invokevirtual 194, 3) := by decide +kernel
theorem dX7_duel_65 : decode cX7_duel 65 = .ok (.iadd, 1) := by decide +kernel
theorem dX7_duel_66 : decode cX7_duel 66 = .ok (.ireturn, 1) := by decide +kernel
set_option maxRecDepth 20000 in
theorem ggX7_order_X1_isThere : GoodIn wsX7_order wsX1_isThere := goodIn_r _ [9, 10, 102, 103, 104, 105, 106, 107, 108, 109, 110, 111, 112, 113, 114, 115] (by decide +kernel) (by decide +kernel)
set_option maxRecDepth 20000 in
theorem gX7_order_X1_isThere : GoodIn wsX7_order (wsV RX7 173 RX1 yX1_isThere wsX1_isThere) := goodIn_app (goodIn_of _ (by decide +kernel)) ggX7_order_X1_isThere
set_option maxRecDepth 20000 in
theorem ggX7_order_X1_casesLeft : GoodIn wsX7_order wsX1_casesLeft := goodIn_r _ [14, 10, 15, 102, 103, 104, 105, 106, 107, 108, 109, 110, 111, 112, 113, 114, 115] (by decide +kernel) (by decide +kernel)
set_option maxRecDepth 20000 in
theorem gX7_order_X1_casesLeft : GoodIn wsX7_order (wsV RX7 128 RX1 yX1_casesLeft wsX1_casesLeft) := goodIn_app (goodIn_of _ (by decide +kernel)) ggX7_order_X1_casesLeft
set_option maxRecDepth 20000 in
theorem ggX7_order_X3_weighOrders : GoodIn wsX7_order wsX3_weighOrders := goodIn_r _ [20, 21, 22, 23, 24, 25, 26, 27, 28, 8, 29, 30, 31, 32, 33, 34, 35, 36, 37, 38, 39, 40, 41, 42, 43, 44, 45, 46, 47, 48, 49, 50, 51, 52, 53, 54, 55, 56, 57, 58, 59, 60, 61, 62, 63, 64, 65, 66, 67, 68, 69, 70, 71, 19, 72, 73, 74, 75, 76, 77, 78, 79, 80, 102, 103, 104, 105, 106, 107, 108, 109, 110, 111, 112, 113, 114, 115, 116, 117, 118, 119, 120, 121, 122, 123] (by decide +kernel) (by decide +kernel)
set_option maxRecDepth 20000 in
theorem gX7_order_X3_weighOrders : GoodIn wsX7_order (wsV RX7 201 RX3 yX3_weighOrders wsX3_weighOrders) := goodIn_app (goodIn_of _ (by decide +kernel)) ggX7_order_X3_weighOrders
set_option maxRecDepth 20000 in
theorem ggX7_order_X3_mostJust : GoodIn wsX7_order wsX3_mostJust := goodIn_r _ [84, 25, 116, 117, 118, 119, 120, 121, 122, 123] (by decide +kernel) (by decide +kernel)
set_option maxRecDepth 20000 in
theorem gX7_order_X3_mostJust : GoodIn wsX7_order (wsV RX7 205 RX3 yX3_mostJust wsX3_mostJust) := goodIn_app (goodIn_of _ (by decide +kernel)) ggX7_order_X3_mostJust
set_option maxRecDepth 20000 in
theorem ggX7_order_X3_placedAt : GoodIn wsX7_order wsX3_placedAt := goodIn_r _ [88, 89, 24, 90, 91, 92, 19, 93, 25, 77, 78, 79, 80, 23, 102, 103, 104, 105, 106, 107, 108, 109, 110, 111, 112, 113, 114, 115, 116, 117, 118, 119, 120, 121, 122, 123] (by decide +kernel) (by decide +kernel)
set_option maxRecDepth 20000 in
theorem gX7_order_X3_placedAt : GoodIn wsX7_order (wsV RX7 209 RX3 yX3_placedAt wsX3_placedAt) := goodIn_app (goodIn_of _ (by decide +kernel)) ggX7_order_X3_placedAt
theorem dX7_order_0 : decode cX7_order 0 = .ok (.iload_n 1, 1) := by decide +kernel
theorem dX7_order_1 : decode cX7_order 1 = .ok (.ifCond .lt 14, 3) := by decide +kernel
theorem dX7_order_4 : decode cX7_order 4 = .ok (.iload_n 1, 1) := by decide +kernel
theorem dX7_order_5 : decode cX7_order 5 = .ok (.bipush 6, 2) := by decide +kernel
theorem dX7_order_7 : decode cX7_order 7 = .ok (.if_icmp .gt 8, 3) := by decide +kernel
theorem dX7_order_10 : decode cX7_order 10 = .ok (.iload_n 2, 1) := by decide +kernel
theorem dX7_order_11 : decode cX7_order 11 = .ok (.iconst (-1), 1) := by decide +kernel
theorem dX7_order_12 : decode cX7_order 12 = .ok (.if_icmp .ge 5, 3) := by decide +kernel
theorem dX7_order_15 : decode cX7_order 15 = .ok (.iconst (-1), 1) := by decide +kernel
theorem dX7_order_16 : decode cX7_order 16 = .ok (.ireturn, 1) := by decide +kernel
theorem dX7_order_17 : decode cX7_order 17 = .ok (.aload_n 0, 1) := by decide +kernel
theorem dX7_order_18 : decode cX7_order 18 = .ok (.getfield 51, 3) := by decide +kernel
theorem dX7_order_21 : decode cX7_order 21 = .ok (.invokevirtual 173, 3) := by decide +kernel
theorem dX7_order_24 : decode cX7_order 24 = .ok (.ifCond .ne 6, 3) := by decide +kernel
theorem dX7_order_27 : decode cX7_order 27 = .ok (.bipush (-2), 2) := by decide +kernel
theorem dX7_order_29 : decode cX7_order 29 = .ok (.ireturn, 1) := by decide +kernel
theorem dX7_order_30 : decode cX7_order 30 = .ok (.iload_n 1, 1) := by decide +kernel
theorem dX7_order_31 : decode cX7_order 31 = .ok (.aload_n 0, 1) := by decide +kernel
theorem dX7_order_32 : decode cX7_order 32 = .ok (.getfield 51, 3) := by decide +kernel
theorem dX7_order_35 : decode cX7_order 35 = .ok (.invokevirtual 128, 3) := by decide +kernel
theorem dX7_order_38 : decode cX7_order 38 = .ok (.if_icmp .gt 8, 3) := by decide +kernel
theorem dX7_order_41 : decode cX7_order 41 = .ok (.iload_n 2, 1) := by decide +kernel
theorem dX7_order_42 : decode cX7_order 42 = .ok (.iload_n 1, 1) := by decide +kernel
theorem dX7_order_43 : decode cX7_order 43 = .ok (.if_icmp .lt 6, 3) := by decide +kernel
theorem dX7_order_46 : decode cX7_order 46 = .ok (.bipush (-4), 2) := by decide +kernel
theorem dX7_order_48 : decode cX7_order 48 = .ok (.ireturn, 1) := by decide +kernel
theorem dX7_order_49 : decode cX7_order 49 = .ok (.aload_n 0, 1) := by decide +kernel
theorem dX7_order_50 : decode cX7_order 50 = .ok (.getfield 26, 3) := by decide +kernel
theorem dX7_order_53 : decode cX7_order 53 = .ok (.aload_n 0, 1) := by decide +kernel
theorem dX7_order_54 : decode cX7_order 54 = .ok (.getfield 51, 3) := by decide +kernel
theorem dX7_order_57 : decode cX7_order 57 = .ok (.iload_n 1, 1) := by decide +kernel
theorem dX7_order_58 : decode cX7_order 58 = .ok (.invokevirtual 201, 3) := by decide +kernel
theorem dX7_order_61 : decode cX7_order 61 = .ok (.iload_n 2, 1) := by decide +kernel
theorem dX7_order_62 : decode cX7_order 62 = .ok (.iconst (-1), 1) := by decide +kernel
theorem dX7_order_63 : decode cX7_order 63 = .ok (.if_icmp .ne 20, 3) := by decide +kernel
theorem dX7_order_66 : decode cX7_order 66 = .ok (.aload_n 0, 1) := by decide +kernel
theorem dX7_order_67 : decode cX7_order 67 = .ok (.getfield 26, 3) := by decide +kernel
theorem dX7_order_70 : decode cX7_order 70 = .ok (.aload_n 0, 1) := by decide +kernel
theorem dX7_order_71 : decode cX7_order 71 = .ok (.getfield 51, 3) := by decide +kernel
theorem dX7_order_74 : decode cX7_order 74 = .ok (.getfield 90, 3) := by decide +kernel
theorem dX7_order_77 : decode cX7_order 77 = .ok (.invokevirtual 205, 3) := by decide +kernel
theorem dX7_order_80 : decode cX7_order 80 = .ok (.goto 24, 3) := by decide +kernel
theorem dX7_order_83 : decode cX7_order 83 = .ok (.aload_n 0, 1) := by decide +kernel
theorem dX7_order_84 : decode cX7_order 84 = .ok (.getfield 51, 3) := by decide +kernel
theorem dX7_order_87 : decode cX7_order 87 = .ok (.getfield 132, 3) := by decide +kernel
theorem dX7_order_90 : decode cX7_order 90 = .ok (.aload_n 0, 1) := by decide +kernel
theorem dX7_order_91 : decode cX7_order 91 = .ok (.getfield 26, 3) := by decide +kernel
theorem dX7_order_94 : decode cX7_order 94 = .ok (.aload_n 0, 1) := by decide +kernel
theorem dX7_order_95 : decode cX7_order 95 = .ok (.getfield 51, 3) := by decide +kernel
theorem dX7_order_98 : decode cX7_order 98 = .ok (.iload_n 1, 1) := by decide +kernel
theorem dX7_order_99 : decode cX7_order 99 = .ok (.iload_n 2, 1) := by decide +kernel
theorem dX7_order_100 : decode cX7_order 100 = .ok (.invokevirtual 209, 3) := by decide +kernel
theorem dX7_order_103 : decode cX7_order 103 = .ok (.iadd, 1) := by decide +kernel
theorem dX7_order_104 : decode cX7_order 104 = .ok (.ireturn, 1) := by decide +kernel
set_option maxRecDepth 20000 in
theorem ggX7_round_X1_hasCase : GoodIn wsX7_round wsX1_hasCase := goodIn_r _ [8, 9, 100, 101, 102, 103, 104, 105, 106, 107, 108, 109, 110, 111, 112, 113] (by decide +kernel) (by decide +kernel)
set_option maxRecDepth 20000 in
theorem gX7_round_X1_hasCase : GoodIn wsX7_round (wsV RX7 110 RX1 yX1_hasCase wsX1_hasCase) := goodIn_app (goodIn_of _ (by decide +kernel)) ggX7_round_X1_hasCase
set_option maxRecDepth 20000 in
theorem ggX7_round_X7_isFirstOrSecond : GoodIn wsX7_round wsX7_isFirstOrSecond := goodIn_r _ [13] (by decide +kernel) (by decide +kernel)
set_option maxRecDepth 20000 in
theorem gX7_round_X7_isFirstOrSecond : GoodIn wsX7_round (va_wsS RX7 180 yX7_isFirstOrSecond wsX7_isFirstOrSecond) := goodIn_app (goodIn_of _ (by decide +kernel)) ggX7_round_X7_isFirstOrSecond
set_option maxRecDepth 20000 in
theorem ggX7_round_X1_become : GoodIn wsX7_round wsX1_become := goodIn_r _ [17, 18, 19, 20, 21, 22, 23, 24, 25, 26, 27, 28, 29, 30, 31, 32, 9, 33, 34, 100, 101, 102, 103, 104, 105, 106, 107, 108, 109, 110, 111, 112, 113] (by decide +kernel) (by decide +kernel)
set_option maxRecDepth 20000 in
theorem gX7_round_X1_become : GoodIn wsX7_round (wsV RX7 177 RX1 yX1_become wsX1_become) := goodIn_app (goodIn_of _ (by decide +kernel)) ggX7_round_X1_become
set_option maxRecDepth 20000 in
theorem ggX7_round_X1_stateOf : GoodIn wsX7_round wsX1_stateOf := goodIn_r _ [38, 34, 23, 27, 28, 100, 101, 102, 103, 104, 105, 106, 107, 108, 109, 110, 111, 112, 113] (by decide +kernel) (by decide +kernel)
set_option maxRecDepth 20000 in
theorem gX7_round_X1_stateOf : GoodIn wsX7_round (wsV RX7 212 RX1 yX1_stateOf wsX1_stateOf) := goodIn_app (goodIn_of _ (by decide +kernel)) ggX7_round_X1_stateOf
set_option maxRecDepth 20000 in
theorem ggX7_round_X3_period : GoodIn wsX7_round wsX3_period := goodIn_r _ [43, 44, 45, 46, 7, 47, 34, 23, 27, 28, 48, 49, 50, 51, 30, 24, 52, 53, 54, 55, 29, 56, 57, 58, 18, 59, 60, 61, 62, 25, 63, 64, 65, 66, 26, 67, 68, 69, 70, 71, 72, 73, 74, 75, 76, 77, 78, 32, 79, 80, 81, 82, 83, 84, 85, 86, 87, 36, 37, 38, 100, 101, 102, 103, 104, 105, 106, 107, 108, 109, 110, 111, 112, 113] (by decide +kernel) (by decide +kernel)
set_option maxRecDepth 20000 in
theorem gX7_round_X3_period : GoodIn wsX7_round (wsV RX7 215 RX3 yX3_period wsX3_period) := goodIn_app (goodIn_of _ (by decide +kernel)) ggX7_round_X3_period
set_option maxRecDepth 20000 in
theorem ggX7_round_X3_leadIn : GoodIn wsX7_round wsX3_leadIn := goodIn_r _ [91, 44, 45, 46, 7, 47, 34, 23, 27, 28, 48, 49, 50, 51, 30, 24, 52, 53, 54, 55, 29, 56, 57, 58, 18, 59, 60, 61, 62, 25, 63, 64, 65, 66, 26, 67, 68, 69, 70, 71, 72, 73, 74, 75, 76, 77, 78, 32, 79, 80, 81, 82, 83, 84, 85, 86, 87, 36, 37, 38, 100, 101, 102, 103, 104, 105, 106, 107, 108, 109, 110, 111, 112, 113] (by decide +kernel) (by decide +kernel)
set_option maxRecDepth 20000 in
theorem gX7_round_X3_leadIn : GoodIn wsX7_round (wsV RX7 218 RX3 yX3_leadIn wsX3_leadIn) := goodIn_app (goodIn_of _ (by decide +kernel)) ggX7_round_X3_leadIn
theorem dX7_round_0 : decode cX7_round 0 = .ok (.aload_n 0, 1) := by decide +kernel
theorem dX7_round_1 : decode cX7_round 1 = .ok (.getfield 51, 3) := by decide +kernel
theorem dX7_round_4 : decode cX7_round 4 = .ok (.iload_n 1, 1) := by decide +kernel
theorem dX7_round_5 : decode cX7_round 5 = .ok (.invokevirtual 110, 3) := by decide +kernel
theorem dX7_round_8 : decode cX7_round 8 = .ok (.ifCond .eq 10, 3) := by decide +kernel
theorem dX7_round_11 : decode cX7_round 11 = .ok (.iload_n 2, 1) := by decide +kernel
theorem dX7_round_12 : decode cX7_round 12 = .ok (.invokestatic 180, 3) := by decide +kernel
theorem dX7_round_15 : decode cX7_round 15 = .ok (.ifCond .ne 5, 3) := by decide +kernel
theorem dX7_round_18 : decode cX7_round 18 = .ok (.iconst (-1), 1) := by decide +kernel
theorem dX7_round_19 : decode cX7_round 19 = .ok (.ireturn, 1) := by decide +kernel
theorem dX7_round_20 : decode cX7_round 20 = .ok (.aload_n 0, 1) := by decide +kernel
theorem dX7_round_21 : decode cX7_round 21 = .ok (.getfield 55, 3) := by decide +kernel
theorem dX7_round_24 : decode cX7_round 24 = .ok (.aload_n 0, 1) := by decide +kernel
theorem dX7_round_25 : decode cX7_round 25 = .ok (.getfield 51, 3) := by decide +kernel
theorem dX7_round_28 : decode cX7_round 28 = .ok (.invokevirtual 177, 3) := by decide +kernel
theorem dX7_round_31 : decode cX7_round 31 = .ok (.aload_n 0, 1) := by decide +kernel
theorem dX7_round_32 : decode cX7_round 32 = .ok (.getfield 26, 3) := by decide +kernel
theorem dX7_round_35 : decode cX7_round 35 = .ok (.aload_n 0, 1) := by decide +kernel
theorem dX7_round_36 : decode cX7_round 36 = .ok (.getfield 55, 3) := by decide +kernel
theorem dX7_round_39 : decode cX7_round 39 = .ok (.iload_n 1, 1) := by decide +kernel
theorem dX7_round_40 : decode cX7_round 40 = .ok (.aload_n 0, 1) := by decide +kernel
theorem dX7_round_41 : decode cX7_round 41 = .ok (.getfield 51, 3) := by decide +kernel
theorem dX7_round_44 : decode cX7_round 44 = .ok (.iload_n 1, 1) := by decide +kernel
theorem dX7_round_45 : decode cX7_round 45 = .ok (.invokevirtual 212, 3) := by decide +kernel
theorem dX7_round_48 : decode cX7_round 48 = .ok (.invokevirtual 215, 3) := by decide +kernel
theorem dX7_round_51 : decode cX7_round 51 = .ok (.istore_n 3, 1) := by decide +kernel
theorem dX7_round_52 : decode cX7_round 52 = .ok (.iload_n 2, 1) := by decide +kernel
theorem dX7_round_53 : decode cX7_round 53 = .ok (.iconst 1, 1) := by decide +kernel
theorem dX7_round_54 : decode cX7_round 54 = .ok (.if_icmp .ne 7, 3) := by decide +kernel
theorem dX7_round_57 : decode cX7_round 57 = .ok (.iload_n 3, 1) := by decide +kernel
theorem dX7_round_58 : decode cX7_round 58 = .ok (.goto 24, 3) := by decide +kernel
theorem dX7_round_61 : decode cX7_round 61 = .ok (.aload_n 0, 1) := by decide +kernel
theorem dX7_round_62 : decode cX7_round 62 = .ok (.getfield 26, 3) := by decide +kernel
theorem dX7_round_65 : decode cX7_round 65 = .ok (.aload_n 0, 1) := by decide +kernel
theorem dX7_round_66 : decode cX7_round 66 = .ok (.getfield 55, 3) := by decide +kernel
theorem dX7_round_69 : decode cX7_round 69 = .ok (.iload_n 1, 1) := by decide +kernel
theorem dX7_round_70 : decode cX7_round 70 = .ok (.aload_n 0, 1) := by decide +kernel
theorem dX7_round_71 : decode cX7_round 71 = .ok (.getfield 51, 3) := by decide +kernel
theorem dX7_round_74 : decode cX7_round 74 = .ok (.iload_n 1, 1) := by decide +kernel
theorem dX7_round_75 : decode cX7_round 75 = .ok (.invokevirtual 212, 3) := by decide +kernel
theorem dX7_round_78 : decode cX7_round 78 = .ok (.iload_n 3, 1) := by decide +kernel
theorem dX7_round_79 : decode cX7_round 79 = .ok (.invokevirtual 218, 3) := by decide +kernel
theorem dX7_round_82 : decode cX7_round 82 = .ok (.ireturn, 1) := by decide +kernel
set_option maxRecDepth 20000 in
theorem ggX7_bench_X1_hasParty : GoodIn wsX7_bench wsX1_hasParty := goodIn_r _ [7, 8, 55, 56, 57, 58, 59, 60, 61, 62, 63, 64, 65, 66, 67, 68] (by decide +kernel) (by decide +kernel)
set_option maxRecDepth 20000 in
theorem gX7_bench_X1_hasParty : GoodIn wsX7_bench (wsV RX7 77 RX1 yX1_hasParty wsX1_hasParty) := goodIn_app (goodIn_of _ (by decide +kernel)) ggX7_bench_X1_hasParty
set_option maxRecDepth 20000 in
theorem ggX7_bench_X3_benchOf : GoodIn wsX7_bench wsX3_benchOf := goodIn_r _ [13, 14, 15, 16, 17, 18, 19, 20, 21, 22, 23, 12, 24, 25, 26, 27, 28, 29, 30, 31, 32, 33, 34, 6, 35, 36, 37, 38, 39, 40, 41, 42, 43, 44, 45, 46, 69, 70, 71, 72, 73, 74, 75, 76, 55, 56, 57, 58, 59, 60, 61, 62, 63, 64, 65, 66, 67, 68] (by decide +kernel) (by decide +kernel)
set_option maxRecDepth 20000 in
theorem gX7_bench_X3_benchOf : GoodIn wsX7_bench (wsV RX7 221 RX3 yX3_benchOf wsX3_benchOf) := goodIn_app (goodIn_of _ (by decide +kernel)) ggX7_bench_X3_benchOf
theorem dX7_bench_0 : decode cX7_bench 0 = .ok (.aload_n 0, 1) := by decide +kernel
theorem dX7_bench_1 : decode cX7_bench 1 = .ok (.getfield 51, 3) := by decide +kernel
theorem dX7_bench_4 : decode cX7_bench 4 = .ok (.iload_n 1, 1) := by decide +kernel
theorem dX7_bench_5 : decode cX7_bench 5 = .ok (.invokevirtual 77, 3) := by decide +kernel
theorem dX7_bench_8 : decode cX7_bench 8 = .ok (.ifCond .ne 5, 3) := by decide +kernel
theorem dX7_bench_11 : decode cX7_bench 11 = .ok (.iconst (-1), 1) := by decide +kernel
theorem dX7_bench_12 : decode cX7_bench 12 = .ok (.ireturn, 1) := by decide +kernel
theorem dX7_bench_13 : decode cX7_bench 13 = .ok (.aload_n 0, 1) := by decide +kernel
theorem dX7_bench_14 : decode cX7_bench 14 = .ok (.getfield 26, 3) := by decide +kernel
theorem dX7_bench_17 : decode cX7_bench 17 = .ok (.aload_n 0, 1) := by decide +kernel
theorem dX7_bench_18 : decode cX7_bench 18 = .ok (.getfield 51, 3) := by decide +kernel
theorem dX7_bench_21 : decode cX7_bench 21 = .ok (.iload_n 1, 1) := by decide +kernel
theorem dX7_bench_22 : decode cX7_bench 22 = .ok (.invokevirtual 221, 3) := by decide +kernel
theorem dX7_bench_25 : decode cX7_bench 25 = .ok (.ireturn, 1) := by decide +kernel
set_option maxRecDepth 20000 in
theorem ggX7_errors_X1_hasParty : GoodIn wsX7_errors wsX1_hasParty := goodIn_r _ [7, 8, 95, 96, 97, 98, 99, 100, 101, 102, 103, 104, 105, 106, 107, 108] (by decide +kernel) (by decide +kernel)
set_option maxRecDepth 20000 in
theorem gX7_errors_X1_hasParty : GoodIn wsX7_errors (wsV RX7 77 RX1 yX1_hasParty wsX1_hasParty) := goodIn_app (goodIn_of _ (by decide +kernel)) ggX7_errors_X1_hasParty
set_option maxRecDepth 20000 in
theorem ggX7_errors_X7_isFirstOrSecond : GoodIn wsX7_errors wsX7_isFirstOrSecond := goodIn_r _ [12] (by decide +kernel) (by decide +kernel)
set_option maxRecDepth 20000 in
theorem gX7_errors_X7_isFirstOrSecond : GoodIn wsX7_errors (va_wsS RX7 180 yX7_isFirstOrSecond wsX7_isFirstOrSecond) := goodIn_app (goodIn_of _ (by decide +kernel)) ggX7_errors_X7_isFirstOrSecond
set_option maxRecDepth 20000 in
theorem ggX7_errors_X1_casesLeft : GoodIn wsX7_errors wsX1_casesLeft := goodIn_r _ [16, 17, 18, 95, 96, 97, 98, 99, 100, 101, 102, 103, 104, 105, 106, 107, 108] (by decide +kernel) (by decide +kernel)
set_option maxRecDepth 20000 in
theorem gX7_errors_X1_casesLeft : GoodIn wsX7_errors (wsV RX7 128 RX1 yX1_casesLeft wsX1_casesLeft) := goodIn_app (goodIn_of _ (by decide +kernel)) ggX7_errors_X1_casesLeft
set_option maxRecDepth 20000 in
theorem ggX7_errors_X3_oddsOfLast : GoodIn wsX7_errors wsX3_oddsOfLast := goodIn_r _ [23, 24, 25, 26, 27, 28, 29, 30, 31, 32, 33, 34, 35, 6, 36, 37, 38, 39, 40, 41, 42, 43, 44, 45, 46, 47, 48, 49, 50, 51, 52, 53, 54, 55, 56, 57, 58, 59, 60, 61, 62, 63, 64, 65, 66, 67, 68, 69, 70, 71, 72, 73, 74, 22, 75, 76, 77, 78, 79, 80, 81, 82, 83, 109, 110, 111, 112, 113, 114, 115, 116, 95, 96, 97, 98, 99, 100, 101, 102, 103, 104, 105, 106, 107, 108] (by decide +kernel) (by decide +kernel)
set_option maxRecDepth 20000 in
theorem gX7_errors_X3_oddsOfLast : GoodIn wsX7_errors (wsV RX7 225 RX3 yX3_oddsOfLast wsX3_oddsOfLast) := goodIn_app (goodIn_of _ (by decide +kernel)) ggX7_errors_X3_oddsOfLast
set_option maxRecDepth 20000 in
theorem ggX7_errors_X7_commonDivisor : GoodIn wsX7_errors wsX7_commonDivisor := goodIn_r _ [86] (by decide +kernel) (by decide +kernel)
set_option maxRecDepth 20000 in
theorem gX7_errors_X7_commonDivisor : GoodIn wsX7_errors (va_wsS RX7 228 yX7_commonDivisor wsX7_commonDivisor) := goodIn_app (goodIn_of _ (by decide +kernel)) ggX7_errors_X7_commonDivisor
theorem dX7_errors_0 : decode cX7_errors 0 = .ok (.aload_n 0, 1) := by decide +kernel
theorem dX7_errors_1 : decode cX7_errors 1 = .ok (.getfield 51, 3) := by decide +kernel
theorem dX7_errors_4 : decode cX7_errors 4 = .ok (.iload_n 1, 1) := by decide +kernel
theorem dX7_errors_5 : decode cX7_errors 5 = .ok (.invokevirtual 77, 3) := by decide +kernel
theorem dX7_errors_8 : decode cX7_errors 8 = .ok (.ifCond .eq 32, 3) := by decide +kernel
theorem dX7_errors_11 : decode cX7_errors 11 = .ok (.iload_n 2, 1) := by decide +kernel
theorem dX7_errors_12 : decode cX7_errors 12 = .ok (.iconst 1, 1) := by decide +kernel
theorem dX7_errors_13 : decode cX7_errors 13 = .ok (.if_icmp .lt 27, 3) := by decide +kernel
theorem dX7_errors_16 : decode cX7_errors 16 = .ok (.iload_n 2, 1) := by decide +kernel
theorem dX7_errors_17 : decode cX7_errors 17 = .ok (.bipush 6, 2) := by decide +kernel
theorem dX7_errors_19 : decode cX7_errors 19 = .ok (.if_icmp .gt 21, 3) := by decide +kernel
theorem dX7_errors_22 : decode cX7_errors 22 = .ok (.iload_n 3, 1) := by decide +kernel
theorem dX7_errors_23 : decode cX7_errors 23 = .ok (.ifCond .lt 17, 3) := by decide +kernel
theorem dX7_errors_26 : decode cX7_errors 26 = .ok (.iload_n 3, 1) := by decide +kernel
theorem dX7_errors_27 : decode cX7_errors 27 = .ok (.bipush 10, 2) := by decide +kernel
theorem dX7_errors_29 : decode cX7_errors 29 = .ok (.if_icmp .gt 11, 3) := by decide +kernel
theorem dX7_errors_32 : decode cX7_errors 32 = .ok (.iload 4, 2) := by decide +kernel
theorem dX7_errors_34 : decode cX7_errors 34 = .ok (.invokestatic 180, 3) := by decide +kernel
theorem dX7_errors_37 : decode cX7_errors 37 = .ok (.ifCond .ne 5, 3) := by decide +kernel
theorem dX7_errors_40 : decode cX7_errors 40 = .ok (.iconst (-1), 1) := by decide +kernel
theorem dX7_errors_41 : decode cX7_errors 41 = .ok (.ireturn, 1) := by decide +kernel
theorem dX7_errors_42 : decode cX7_errors 42 = .ok (.iload_n 2, 1) := by decide +kernel
theorem dX7_errors_43 : decode cX7_errors 43 = .ok (.aload_n 0, 1) := by decide +kernel
theorem dX7_errors_44 : decode cX7_errors 44 = .ok (.getfield 51, 3) := by decide +kernel
theorem dX7_errors_47 : decode cX7_errors 47 = .ok (.invokevirtual 128, 3) := by decide +kernel
theorem dX7_errors_50 : decode cX7_errors 50 = .ok (.if_icmp .le 6, 3) := by decide +kernel
theorem dX7_errors_53 : decode cX7_errors 53 = .ok (.bipush (-4), 2) := by decide +kernel
theorem dX7_errors_55 : decode cX7_errors 55 = .ok (.ireturn, 1) := by decide +kernel
theorem dX7_errors_56 : decode cX7_errors 56 = .ok (.aload_n 0, 1) := by decide +kernel
theorem dX7_errors_57 : decode cX7_errors 57 = .ok (.getfield 26, 3) := by decide +kernel
theorem dX7_errors_60 : decode cX7_errors 60 = .ok (.aload_n 0, 1) := by decide +kernel
theorem dX7_errors_61 : decode cX7_errors 61 = .ok (.getfield 51, 3) := by decide +kernel
theorem dX7_errors_64 : decode cX7_errors 64 = .ok (.iload_n 1, 1) := by decide +kernel
theorem dX7_errors_65 : decode cX7_errors 65 = .ok (.iload_n 2, 1) := by decide +kernel
theorem dX7_errors_66 : decode cX7_errors 66 = .ok (.iload_n 3, 1) := by decide +kernel
theorem dX7_errors_67 : decode cX7_errors 67 = .ok (.invokevirtual 225, 3) := by decide +kernel
theorem dX7_errors_70 : decode cX7_errors 70 = .ok (.istore 5, 2) := by decide +kernel
theorem dX7_errors_72 : decode cX7_errors 72 = .ok (.iconst 1, 1) := by decide +kernel
theorem dX7_errors_73 : decode cX7_errors 73 = .ok (.istore 6, 2) := by decide +kernel
theorem dX7_errors_75 : decode cX7_errors 75 = .ok (.iconst 0, 1) := by decide +kernel
theorem dX7_errors_76 : decode cX7_errors 76 = .ok (.istore 7, 2) := by decide +kernel
theorem dX7_errors_78 : decode cX7_errors 78 = .ok (.iload 7, 2) := by decide +kernel
theorem dX7_errors_80 : decode cX7_errors 80 = .ok (.iload_n 2, 1) := by decide +kernel
theorem dX7_errors_81 : decode cX7_errors 81 = .ok (.if_icmp .ge 16, 3) := by decide +kernel
theorem dX7_errors_84 : decode cX7_errors 84 = .ok (.iload 6, 2) := by decide +kernel
theorem dX7_errors_86 : decode cX7_errors 86 = .ok (.bipush 10, 2) := by decide +kernel
theorem dX7_errors_88 : decode cX7_errors 88 = .ok (.imul, 1) := by decide +kernel
theorem dX7_errors_89 : decode cX7_errors 89 = .ok (.istore 6, 2) := by decide +kernel
theorem dX7_errors_91 : decode cX7_errors 91 = .ok (.iinc 7 1, 3) := by decide +kernel
theorem dX7_errors_94 : decode cX7_errors 94 = .ok (.goto (-16), 3) := by decide +kernel
theorem dX7_errors_97 : decode cX7_errors 97 = .ok (.iload 5, 2) := by decide +kernel
theorem dX7_errors_99 : decode cX7_errors 99 = .ok (.iload 6, 2) := by decide +kernel
theorem dX7_errors_101 : decode cX7_errors 101 = .ok (.invokestatic 228, 3) := by decide +kernel
theorem dX7_errors_104 : decode cX7_errors 104 = .ok (.istore 7, 2) := by decide +kernel
theorem dX7_errors_106 : decode cX7_errors 106 = .ok (.iload 7, 2) := by decide +kernel
theorem dX7_errors_108 : decode cX7_errors 108 = .ok (.ifCond .ne 5, 3) := by decide +kernel
theorem dX7_errors_111 : decode cX7_errors 111 = .ok (.iconst (-1), 1) := by decide +kernel
theorem dX7_errors_112 : decode cX7_errors 112 = .ok (.ireturn, 1) := by decide +kernel
theorem dX7_errors_113 : decode cX7_errors 113 = .ok (.iload 4, 2) := by decide +kernel
theorem dX7_errors_115 : decode cX7_errors 115 = .ok (.ifCond .ne 8, 3) := by decide +kernel
theorem dX7_errors_118 : decode cX7_errors 118 = .ok (.iload 5, 2) := by decide +kernel
theorem dX7_errors_120 : decode cX7_errors 120 = .ok (.goto 5, 3) := by decide +kernel
theorem dX7_errors_123 : decode cX7_errors 123 = .ok (.iload 6, 2) := by decide +kernel
theorem dX7_errors_125 : decode cX7_errors 125 = .ok (.iload 7, 2) := by decide +kernel
theorem dX7_errors_127 : decode cX7_errors 127 = .ok (.idiv, 1) := by decide +kernel
theorem dX7_errors_128 : decode cX7_errors 128 = .ok (.ireturn, 1) := by decide +kernel
set_option maxRecDepth 20000 in
theorem ggX7_decades_X7_isFirstOrSecond : GoodIn wsX7_decades wsX7_isFirstOrSecond := goodIn_r _ [8] (by decide +kernel) (by decide +kernel)
set_option maxRecDepth 20000 in
theorem gX7_decades_X7_isFirstOrSecond : GoodIn wsX7_decades (va_wsS RX7 180 yX7_isFirstOrSecond wsX7_isFirstOrSecond) := goodIn_app (goodIn_of _ (by decide +kernel)) ggX7_decades_X7_isFirstOrSecond
set_option maxRecDepth 20000 in
theorem ggX7_decades_X1_isThere : GoodIn wsX7_decades wsX1_isThere := goodIn_r _ [13, 14, 95, 96, 97, 98, 99, 100, 101, 102, 103, 104, 105, 106, 107, 108] (by decide +kernel) (by decide +kernel)
set_option maxRecDepth 20000 in
theorem gX7_decades_X1_isThere : GoodIn wsX7_decades (wsV RX7 173 RX1 yX1_isThere wsX1_isThere) := goodIn_app (goodIn_of _ (by decide +kernel)) ggX7_decades_X1_isThere
set_option maxRecDepth 20000 in
theorem ggX7_decades_X1_become : GoodIn wsX7_decades wsX1_become := goodIn_r _ [18, 19, 20, 21, 22, 23, 24, 25, 26, 27, 28, 29, 30, 31, 32, 33, 14, 34, 35, 95, 96, 97, 98, 99, 100, 101, 102, 103, 104, 105, 106, 107, 108] (by decide +kernel) (by decide +kernel)
set_option maxRecDepth 20000 in
theorem gX7_decades_X1_become : GoodIn wsX7_decades (wsV RX7 177 RX1 yX1_become wsX1_become) := goodIn_app (goodIn_of _ (by decide +kernel)) ggX7_decades_X1_become
set_option maxRecDepth 20000 in
theorem ggX7_decades_X1_hearByDraws : GoodIn wsX7_decades wsX1_hearByDraws := goodIn_r _ [39, 34, 14, 40, 41, 42, 43, 44, 45, 46, 12, 47, 35, 29, 28, 31, 25, 24, 48, 49, 50, 51, 30, 52, 53, 54, 19, 55, 56, 57, 58, 26, 59, 60, 61, 62, 27, 63, 64, 65, 66, 67, 68, 69, 70, 71, 72, 73, 74, 33, 75, 76, 77, 78, 79, 80, 81, 82, 95, 96, 97, 98, 99, 100, 101, 102, 103, 104, 105, 106, 107, 108] (by decide +kernel) (by decide +kernel)
set_option maxRecDepth 20000 in
theorem gX7_decades_X1_hearByDraws : GoodIn wsX7_decades (wsV RX7 232 RX1 yX1_hearByDraws wsX1_hearByDraws) := goodIn_app (goodIn_of _ (by decide +kernel)) ggX7_decades_X1_hearByDraws
set_option maxRecDepth 20000 in
theorem ggX7_decades_X1_allGrievance : GoodIn wsX7_decades wsX1_allGrievance := goodIn_r _ [86, 32, 24, 95, 96, 97, 98, 99, 100, 101, 102, 103, 104, 105, 106, 107, 108] (by decide +kernel) (by decide +kernel)
set_option maxRecDepth 20000 in
theorem gX7_decades_X1_allGrievance : GoodIn wsX7_decades (wsV RX7 235 RX1 yX1_allGrievance wsX1_allGrievance) := goodIn_app (goodIn_of _ (by decide +kernel)) ggX7_decades_X1_allGrievance
theorem dX7_decades_0 : decode cX7_decades 0 = .ok (.iload_n 1, 1) := by decide +kernel
theorem dX7_decades_1 : decode cX7_decades 1 = .ok (.ifCond .lt 27, 3) := by decide +kernel
theorem dX7_decades_4 : decode cX7_decades 4 = .ok (.iload_n 1, 1) := by decide +kernel
theorem dX7_decades_5 : decode cX7_decades 5 = .ok (.bipush 60, 2) := by decide +kernel
theorem dX7_decades_7 : decode cX7_decades 7 = .ok (.if_icmp .gt 21, 3) := by decide +kernel
theorem dX7_decades_10 : decode cX7_decades 10 = .ok (.iload_n 2, 1) := by decide +kernel
theorem dX7_decades_11 : decode cX7_decades 11 = .ok (.iconst 1, 1) := by decide +kernel
theorem dX7_decades_12 : decode cX7_decades 12 = .ok (.if_icmp .lt 16, 3) := by decide +kernel
theorem dX7_decades_15 : decode cX7_decades 15 = .ok (.iload_n 2, 1) := by decide +kernel
theorem dX7_decades_16 : decode cX7_decades 16 = .ok (.ldc 231, 2) := by decide +kernel
theorem dX7_decades_18 : decode cX7_decades 18 = .ok (.if_icmp .gt 10, 3) := by decide +kernel
theorem dX7_decades_21 : decode cX7_decades 21 = .ok (.iload_n 3, 1) := by decide +kernel
theorem dX7_decades_22 : decode cX7_decades 22 = .ok (.invokestatic 180, 3) := by decide +kernel
theorem dX7_decades_25 : decode cX7_decades 25 = .ok (.ifCond .ne 5, 3) := by decide +kernel
theorem dX7_decades_28 : decode cX7_decades 28 = .ok (.iconst (-1), 1) := by decide +kernel
theorem dX7_decades_29 : decode cX7_decades 29 = .ok (.ireturn, 1) := by decide +kernel
theorem dX7_decades_30 : decode cX7_decades 30 = .ok (.aload_n 0, 1) := by decide +kernel
theorem dX7_decades_31 : decode cX7_decades 31 = .ok (.getfield 51, 3) := by decide +kernel
theorem dX7_decades_34 : decode cX7_decades 34 = .ok (.invokevirtual 173, 3) := by decide +kernel
theorem dX7_decades_37 : decode cX7_decades 37 = .ok (.ifCond .ne 6, 3) := by decide +kernel
theorem dX7_decades_40 : decode cX7_decades 40 = .ok (.bipush (-2), 2) := by decide +kernel
theorem dX7_decades_42 : decode cX7_decades 42 = .ok (.ireturn, 1) := by decide +kernel
theorem dX7_decades_43 : decode cX7_decades 43 = .ok (.aload_n 0, 1) := by decide +kernel
theorem dX7_decades_44 : decode cX7_decades 44 = .ok (.getfield 55, 3) := by decide +kernel
theorem dX7_decades_47 : decode cX7_decades 47 = .ok (.aload_n 0, 1) := by decide +kernel
theorem dX7_decades_48 : decode cX7_decades 48 = .ok (.getfield 51, 3) := by decide +kernel
theorem dX7_decades_51 : decode cX7_decades 51 = .ok (.invokevirtual 177, 3) := by decide +kernel
theorem dX7_decades_54 : decode cX7_decades 54 = .ok (.aload_n 0, 1) := by decide +kernel
theorem dX7_decades_55 : decode cX7_decades 55 = .ok (.getfield 55, 3) := by decide +kernel
theorem dX7_decades_58 : decode cX7_decades 58 = .ok (.iload_n 1, 1) := by decide +kernel
theorem dX7_decades_59 : decode cX7_decades 59 = .ok (.iload_n 2, 1) := by decide +kernel
theorem dX7_decades_60 : decode cX7_decades 60 = .ok (.invokevirtual 232, 3) := by decide +kernel
theorem dX7_decades_63 : decode cX7_decades 63 = .ok (.iload_n 3, 1) := by decide +kernel
theorem dX7_decades_64 : decode cX7_decades 64 = .ok (.ifCond .ne 13, 3) := by decide +kernel
theorem dX7_decades_67 : decode cX7_decades 67 = .ok (.aload_n 0, 1) := by decide +kernel
theorem dX7_decades_68 : decode cX7_decades 68 = .ok (.getfield 55, 3) := by decide +kernel
theorem dX7_decades_71 : decode cX7_decades 71 = .ok (.invokevirtual 235, 3) := by decide +kernel
theorem dX7_decades_74 : decode cX7_decades 74 = .ok (.goto 10, 3) := by decide +kernel
theorem dX7_decades_77 : decode cX7_decades 77 = .ok (.aload_n 0, 1) := by decide +kernel
theorem dX7_decades_78 : decode cX7_decades 78 = .ok (.getfield 55, 3) := by decide +kernel
theorem dX7_decades_81 : decode cX7_decades 81 = .ok (.getfield 90, 3) := by decide +kernel
theorem dX7_decades_84 : decode cX7_decades 84 = .ok (.ireturn, 1) := by decide +kernel
set_option maxRecDepth 20000 in
theorem ggX7_sheet_X7_isSheet : GoodIn wsX7_sheet wsX7_isSheet := goodIn_r _ [5] (by decide +kernel) (by decide +kernel)
set_option maxRecDepth 20000 in
theorem gX7_sheet_X7_isSheet : GoodIn wsX7_sheet (va_wsS RX7 238 yX7_isSheet wsX7_isSheet) := goodIn_app (goodIn_of _ (by decide +kernel)) ggX7_sheet_X7_isSheet
set_option maxRecDepth 20000 in
theorem ggX7_sheet_X7_isLane : GoodIn wsX7_sheet wsX7_isLane := goodIn_r _ [8] (by decide +kernel) (by decide +kernel)
set_option maxRecDepth 20000 in
theorem gX7_sheet_X7_isLane : GoodIn wsX7_sheet (va_wsS RX7 241 yX7_isLane wsX7_isLane) := goodIn_app (goodIn_of _ (by decide +kernel)) ggX7_sheet_X7_isLane
set_option maxRecDepth 20000 in
theorem ggX7_sheet_X5_lay : GoodIn wsX7_sheet wsX5_lay := goodIn_r _ [13, 14, 15, 16, 17, 18, 19, 20, 21, 30, 31, 32, 33] (by decide +kernel) (by decide +kernel)
set_option maxRecDepth 20000 in
theorem gX7_sheet_X5_lay : GoodIn wsX7_sheet (wsV RX7 244 RX5 yX5_lay wsX5_lay) := goodIn_app (goodIn_of _ (by decide +kernel)) ggX7_sheet_X5_lay
theorem dX7_sheet_0 : decode cX7_sheet 0 = .ok (.iload_n 1, 1) := by decide +kernel
theorem dX7_sheet_1 : decode cX7_sheet 1 = .ok (.invokestatic 238, 3) := by decide +kernel
theorem dX7_sheet_4 : decode cX7_sheet 4 = .ok (.ifCond .eq 16, 3) := by decide +kernel
theorem dX7_sheet_7 : decode cX7_sheet 7 = .ok (.iload_n 2, 1) := by decide +kernel
theorem dX7_sheet_8 : decode cX7_sheet 8 = .ok (.invokestatic 241, 3) := by decide +kernel
theorem dX7_sheet_11 : decode cX7_sheet 11 = .ok (.ifCond .eq 9, 3) := by decide +kernel
theorem dX7_sheet_14 : decode cX7_sheet 14 = .ok (.iload_n 3, 1) := by decide +kernel
theorem dX7_sheet_15 : decode cX7_sheet 15 = .ok (.bipush 24, 2) := by decide +kernel
theorem dX7_sheet_17 : decode cX7_sheet 17 = .ok (.if_icmp .le 5, 3) := by decide +kernel
theorem dX7_sheet_20 : decode cX7_sheet 20 = .ok (.iconst (-1), 1) := by decide +kernel
theorem dX7_sheet_21 : decode cX7_sheet 21 = .ok (.ireturn, 1) := by decide +kernel
theorem dX7_sheet_22 : decode cX7_sheet 22 = .ok (.iload_n 3, 1) := by decide +kernel
theorem dX7_sheet_23 : decode cX7_sheet 23 = .ok (.ifCond .ge 6, 3) := by decide +kernel
theorem dX7_sheet_26 : decode cX7_sheet 26 = .ok (.bipush (-14), 2) := by decide +kernel
theorem dX7_sheet_28 : decode cX7_sheet 28 = .ok (.ireturn, 1) := by decide +kernel
theorem dX7_sheet_29 : decode cX7_sheet 29 = .ok (.aload_n 0, 1) := by decide +kernel
theorem dX7_sheet_30 : decode cX7_sheet 30 = .ok (.getfield 46, 3) := by decide +kernel
theorem dX7_sheet_33 : decode cX7_sheet 33 = .ok (.iload_n 1, 1) := by decide +kernel
theorem dX7_sheet_34 : decode cX7_sheet 34 = .ok (.aaload, 1) := by decide +kernel
theorem dX7_sheet_35 : decode cX7_sheet 35 = .ok (.iload_n 2, 1) := by decide +kernel
theorem dX7_sheet_36 : decode cX7_sheet 36 = .ok (.iload_n 3, 1) := by decide +kernel
theorem dX7_sheet_37 : decode cX7_sheet 37 = .ok (.invokevirtual 244, 3) := by decide +kernel
theorem dX7_sheet_40 : decode cX7_sheet 40 = .ok (.iload_n 3, 1) := by decide +kernel
theorem dX7_sheet_41 : decode cX7_sheet 41 = .ok (.ireturn, 1) := by decide +kernel
set_option maxRecDepth 20000 in
theorem ggX7_drop_X7_isSheet : GoodIn wsX7_drop wsX7_isSheet := goodIn_r _ [7] (by decide +kernel) (by decide +kernel)
set_option maxRecDepth 20000 in
theorem gX7_drop_X7_isSheet : GoodIn wsX7_drop (va_wsS RX7 238 yX7_isSheet wsX7_isSheet) := goodIn_app (goodIn_of _ (by decide +kernel)) ggX7_drop_X7_isSheet
theorem dX7_drop_0 : decode cX7_drop 0 = .ok (.iload_n 1, 1) := by decide +kernel
theorem dX7_drop_1 : decode cX7_drop 1 = .ok (.invokestatic 238, 3) := by decide +kernel
theorem dX7_drop_4 : decode cX7_drop 4 = .ok (.ifCond .ne 5, 3) := by decide +kernel
theorem dX7_drop_7 : decode cX7_drop 7 = .ok (.iconst (-1), 1) := by decide +kernel
theorem dX7_drop_8 : decode cX7_drop 8 = .ok (.ireturn, 1) := by decide +kernel
theorem dX7_drop_9 : decode cX7_drop 9 = .ok (.aload_n 0, 1) := by decide +kernel
theorem dX7_drop_10 : decode cX7_drop 10 = .ok (.getfield 46, 3) := by decide +kernel
theorem dX7_drop_13 : decode cX7_drop 13 = .ok (.iload_n 1, 1) := by decide +kernel
theorem dX7_drop_14 : decode cX7_drop 14 = .ok (.aaload, 1) := by decide +kernel
theorem dX7_drop_15 : decode cX7_drop 15 = .ok (.getfield 247, 3) := by decide +kernel
theorem dX7_drop_18 : decode cX7_drop 18 = .ok (.ifCond .ne 6, 3) := by decide +kernel
theorem dX7_drop_21 : decode cX7_drop 21 = .ok (.bipush (-11), 2) := by decide +kernel
theorem dX7_drop_23 : decode cX7_drop 23 = .ok (.ireturn, 1) := by decide +kernel
theorem dX7_drop_24 : decode cX7_drop 24 = .ok (.aload_n 0, 1) := by decide +kernel
theorem dX7_drop_25 : decode cX7_drop 25 = .ok (.getfield 46, 3) := by decide +kernel
theorem dX7_drop_28 : decode cX7_drop 28 = .ok (.iload_n 1, 1) := by decide +kernel
theorem dX7_drop_29 : decode cX7_drop 29 = .ok (.aaload, 1) := by decide +kernel
theorem dX7_drop_30 : decode cX7_drop 30 = .ok (.iconst 0, 1) := by decide +kernel
theorem dX7_drop_31 : decode cX7_drop 31 = .ok (.putfield 247, 3) := by decide +kernel
theorem dX7_drop_34 : decode cX7_drop 34 = .ok (.aload_n 0, 1) := by decide +kernel
theorem dX7_drop_35 : decode cX7_drop 35 = .ok (.getfield 46, 3) := by decide +kernel
theorem dX7_drop_38 : decode cX7_drop 38 = .ok (.iload_n 1, 1) := by decide +kernel
theorem dX7_drop_39 : decode cX7_drop 39 = .ok (.aaload, 1) := by decide +kernel
theorem dX7_drop_40 : decode cX7_drop 40 = .ok (.getfield 251, 3) := by decide +kernel
theorem dX7_drop_43 : decode cX7_drop 43 = .ok (.ireturn, 1) := by decide +kernel
set_option maxRecDepth 20000 in
theorem ggX7_item_X7_isSheet : GoodIn wsX7_item wsX7_isSheet := goodIn_r _ [6] (by decide +kernel) (by decide +kernel)
set_option maxRecDepth 20000 in
theorem gX7_item_X7_isSheet : GoodIn wsX7_item (va_wsS RX7 238 yX7_isSheet wsX7_isSheet) := goodIn_app (goodIn_of _ (by decide +kernel)) ggX7_item_X7_isSheet
set_option maxRecDepth 20000 in
theorem ggX7_item_X7_isLane : GoodIn wsX7_item wsX7_isLane := goodIn_r _ [9] (by decide +kernel) (by decide +kernel)
set_option maxRecDepth 20000 in
theorem gX7_item_X7_isLane : GoodIn wsX7_item (va_wsS RX7 241 yX7_isLane wsX7_isLane) := goodIn_app (goodIn_of _ (by decide +kernel)) ggX7_item_X7_isLane
set_option maxRecDepth 20000 in
theorem ggX7_item_X5_refusal : GoodIn wsX7_item wsX5_refusal := goodIn_r _ [14, 15, 16, 17, 18, 19, 13, 20, 21, 39, 40, 41, 42] (by decide +kernel) (by decide +kernel)
set_option maxRecDepth 20000 in
theorem gX7_item_X5_refusal : GoodIn wsX7_item (wsV RX7 254 RX5 yX5_refusal wsX5_refusal) := goodIn_app (goodIn_of _ (by decide +kernel)) ggX7_item_X5_refusal
set_option maxRecDepth 20000 in
theorem ggX7_item_X5_put : GoodIn wsX7_item wsX5_put := goodIn_r _ [25, 26, 27, 28, 29, 13, 30, 16, 39, 40, 41, 42] (by decide +kernel) (by decide +kernel)
set_option maxRecDepth 20000 in
theorem gX7_item_X5_put : GoodIn wsX7_item (wsV RX7 258 RX5 yX5_put wsX5_put) := goodIn_app (goodIn_of _ (by decide +kernel)) ggX7_item_X5_put
theorem dX7_item_0 : decode cX7_item 0 = .ok (.iload_n 1, 1) := by decide +kernel
theorem dX7_item_1 : decode cX7_item 1 = .ok (.invokestatic 238, 3) := by decide +kernel
theorem dX7_item_4 : decode cX7_item 4 = .ok (.ifCond .eq 10, 3) := by decide +kernel
theorem dX7_item_7 : decode cX7_item 7 = .ok (.iload_n 2, 1) := by decide +kernel
theorem dX7_item_8 : decode cX7_item 8 = .ok (.invokestatic 241, 3) := by decide +kernel
theorem dX7_item_11 : decode cX7_item 11 = .ok (.ifCond .ne 7, 3) := by decide +kernel
theorem dX7_item_14 : decode cX7_item 14 = .ok (.ldc2_w 252, 3) := by decide +kernel
theorem dX7_item_17 : decode cX7_item 17 = .ok (.lreturn, 1) := by decide +kernel
theorem dX7_item_18 : decode cX7_item 18 = .ok (.aload_n 0, 1) := by decide +kernel
theorem dX7_item_19 : decode cX7_item 19 = .ok (.getfield 46, 3) := by decide +kernel
theorem dX7_item_22 : decode cX7_item 22 = .ok (.iload_n 1, 1) := by decide +kernel
theorem dX7_item_23 : decode cX7_item 23 = .ok (.aaload, 1) := by decide +kernel
theorem dX7_item_24 : decode cX7_item 24 = .ok (.iload_n 2, 1) := by decide +kernel
theorem dX7_item_25 : decode cX7_item 25 = .ok (.iload_n 3, 1) := by decide +kernel
theorem dX7_item_26 : decode cX7_item 26 = .ok (.iconst 1, 1) := by decide +kernel
theorem dX7_item_27 : decode cX7_item 27 = .ok (.invokevirtual 254, 3) := by decide +kernel
theorem dX7_item_30 : decode cX7_item 30 = .ok (.istore 6, 2) := by decide +kernel
theorem dX7_item_32 : decode cX7_item 32 = .ok (.iload 6, 2) := by decide +kernel
theorem dX7_item_34 : decode cX7_item 34 = .ok (.ifCond .eq 9, 3) := by decide +kernel
theorem dX7_item_37 : decode cX7_item 37 = .ok (.iload 6, 2) := by decide +kernel
theorem dX7_item_39 : decode cX7_item 39 = .ok (.i2l, 1) := by decide +kernel
theorem dX7_item_40 : decode cX7_item 40 = .ok (.goto 15, 3) := by decide +kernel
theorem dX7_item_43 : decode cX7_item 43 = .ok (.aload_n 0, 1) := by decide +kernel
theorem dX7_item_44 : decode cX7_item 44 = .ok (.getfield 46, 3) := by decide +kernel
theorem dX7_item_47 : decode cX7_item 47 = .ok (.iload_n 1, 1) := by decide +kernel
theorem dX7_item_48 : decode cX7_item 48 = .ok (.aaload, 1) := by decide +kernel
theorem dX7_item_49 : decode cX7_item 49 = .ok (.iload_n 3, 1) := by decide +kernel
theorem dX7_item_50 : decode cX7_item 50 = .ok (.lload 4, 2) := by decide +kernel
theorem dX7_item_52 : decode cX7_item 52 = .ok (.invokevirtual 258, 3) := by decide +kernel
theorem dX7_item_55 : decode cX7_item 55 = .ok (.lreturn, 1) := by decide +kernel
set_option maxRecDepth 20000 in
theorem ggX7_copy_X7_isSheet : GoodIn wsX7_copy wsX7_isSheet := goodIn_r _ [12] (by decide +kernel) (by decide +kernel)
set_option maxRecDepth 20000 in
theorem gX7_copy_X7_isSheet : GoodIn wsX7_copy (va_wsS RX7 238 yX7_isSheet wsX7_isSheet) := goodIn_app (goodIn_of _ (by decide +kernel)) ggX7_copy_X7_isSheet
set_option maxRecDepth 20000 in
theorem ggX7_copy_X5_reaches : GoodIn wsX7_copy wsX5_reaches := goodIn_r _ [17, 18, 27, 28, 29, 30] (by decide +kernel) (by decide +kernel)
set_option maxRecDepth 20000 in
theorem gX7_copy_X5_reaches : GoodIn wsX7_copy (wsV RX7 265 RX5 yX5_reaches wsX5_reaches) := goodIn_app (goodIn_of _ (by decide +kernel)) ggX7_copy_X5_reaches
theorem dX7_copy_0 : decode cX7_copy 0 = .ok (.iload_n 1, 1) := by decide +kernel
theorem dX7_copy_1 : decode cX7_copy 1 = .ok (.invokestatic 238, 3) := by decide +kernel
theorem dX7_copy_4 : decode cX7_copy 4 = .ok (.ifCond .eq 10, 3) := by decide +kernel
theorem dX7_copy_7 : decode cX7_copy 7 = .ok (.iload_n 3, 1) := by decide +kernel
theorem dX7_copy_8 : decode cX7_copy 8 = .ok (.invokestatic 238, 3) := by decide +kernel
theorem dX7_copy_11 : decode cX7_copy 11 = .ok (.ifCond .ne 5, 3) := by decide +kernel
theorem dX7_copy_14 : decode cX7_copy 14 = .ok (.iconst (-1), 1) := by decide +kernel
theorem dX7_copy_15 : decode cX7_copy 15 = .ok (.ireturn, 1) := by decide +kernel
theorem dX7_copy_16 : decode cX7_copy 16 = .ok (.aload_n 0, 1) := by decide +kernel
theorem dX7_copy_17 : decode cX7_copy 17 = .ok (.getfield 46, 3) := by decide +kernel
theorem dX7_copy_20 : decode cX7_copy 20 = .ok (.iload_n 1, 1) := by decide +kernel
theorem dX7_copy_21 : decode cX7_copy 21 = .ok (.aaload, 1) := by decide +kernel
theorem dX7_copy_22 : decode cX7_copy 22 = .ok (.astore 6, 2) := by decide +kernel
theorem dX7_copy_24 : decode cX7_copy 24 = .ok (.aload_n 0, 1) := by decide +kernel
theorem dX7_copy_25 : decode cX7_copy 25 = .ok (.getfield 46, 3) := by decide +kernel
theorem dX7_copy_28 : decode cX7_copy 28 = .ok (.iload_n 3, 1) := by decide +kernel
theorem dX7_copy_29 : decode cX7_copy 29 = .ok (.aaload, 1) := by decide +kernel
theorem dX7_copy_30 : decode cX7_copy 30 = .ok (.astore 7, 2) := by decide +kernel
theorem dX7_copy_32 : decode cX7_copy 32 = .ok (.aload 6, 2) := by decide +kernel
theorem dX7_copy_34 : decode cX7_copy 34 = .ok (.getfield 247, 3) := by decide +kernel
theorem dX7_copy_37 : decode cX7_copy 37 = .ok (.ifCond .eq 11, 3) := by decide +kernel
theorem dX7_copy_40 : decode cX7_copy 40 = .ok (.aload 7, 2) := by decide +kernel
theorem dX7_copy_42 : decode cX7_copy 42 = .ok (.getfield 247, 3) := by decide +kernel
theorem dX7_copy_45 : decode cX7_copy 45 = .ok (.ifCond .ne 6, 3) := by decide +kernel
theorem dX7_copy_48 : decode cX7_copy 48 = .ok (.bipush (-11), 2) := by decide +kernel
theorem dX7_copy_50 : decode cX7_copy 50 = .ok (.ireturn, 1) := by decide +kernel
theorem dX7_copy_51 : decode cX7_copy 51 = .ok (.aload 6, 2) := by decide +kernel
theorem dX7_copy_53 : decode cX7_copy 53 = .ok (.getfield 262, 3) := by decide +kernel
theorem dX7_copy_56 : decode cX7_copy 56 = .ok (.aload 7, 2) := by decide +kernel
theorem dX7_copy_58 : decode cX7_copy 58 = .ok (.getfield 262, 3) := by decide +kernel
theorem dX7_copy_61 : decode cX7_copy 61 = .ok (.if_icmp .eq 6, 3) := by decide +kernel
theorem dX7_copy_64 : decode cX7_copy 64 = .ok (.bipush (-12), 2) := by decide +kernel
theorem dX7_copy_66 : decode cX7_copy 66 = .ok (.ireturn, 1) := by decide +kernel
theorem dX7_copy_67 : decode cX7_copy 67 = .ok (.aload 6, 2) := by decide +kernel
theorem dX7_copy_69 : decode cX7_copy 69 = .ok (.iload_n 2, 1) := by decide +kernel
theorem dX7_copy_70 : decode cX7_copy 70 = .ok (.iload 5, 2) := by decide +kernel
theorem dX7_copy_72 : decode cX7_copy 72 = .ok (.invokevirtual 265, 3) := by decide +kernel
theorem dX7_copy_75 : decode cX7_copy 75 = .ok (.ifCond .eq 15, 3) := by decide +kernel
theorem dX7_copy_78 : decode cX7_copy 78 = .ok (.aload 7, 2) := by decide +kernel
theorem dX7_copy_80 : decode cX7_copy 80 = .ok (.iload 4, 2) := by decide +kernel
theorem dX7_copy_82 : decode cX7_copy 82 = .ok (.iload 5, 2) := by decide +kernel
theorem dX7_copy_84 : decode cX7_copy 84 = .ok (.invokevirtual 265, 3) := by decide +kernel
theorem dX7_copy_87 : decode cX7_copy 87 = .ok (.ifCond .ne 6, 3) := by decide +kernel
theorem dX7_copy_90 : decode cX7_copy 90 = .ok (.bipush (-13), 2) := by decide +kernel
theorem dX7_copy_92 : decode cX7_copy 92 = .ok (.ireturn, 1) := by decide +kernel
theorem dX7_copy_93 : decode cX7_copy 93 = .ok (.aload 6, 2) := by decide +kernel
theorem dX7_copy_95 : decode cX7_copy 95 = .ok (.getfield 268, 3) := by decide +kernel
theorem dX7_copy_98 : decode cX7_copy 98 = .ok (.iload_n 2, 1) := by decide +kernel
theorem dX7_copy_99 : decode cX7_copy 99 = .ok (.aload 7, 2) := by decide +kernel
theorem dX7_copy_101 : decode cX7_copy 101 = .ok (.getfield 268, 3) := by decide +kernel
theorem dX7_copy_104 : decode cX7_copy 104 = .ok (.iload 4, 2) := by decide +kernel
theorem dX7_copy_106 : decode cX7_copy 106 = .ok (.iload 5, 2) := by decide +kernel
theorem dX7_copy_108 : decode cX7_copy 108 = .ok (.invokestatic 272, 3) := by decide +kernel
theorem dX7_copy_111 : decode cX7_copy 111 = .ok (.iload 5, 2) := by decide +kernel
theorem dX7_copy_113 : decode cX7_copy 113 = .ok (.ireturn, 1) := by decide +kernel
set_option maxRecDepth 20000 in
theorem ggX7_log_X7_isSheet : GoodIn wsX7_log wsX7_isSheet := goodIn_r _ [9] (by decide +kernel) (by decide +kernel)
set_option maxRecDepth 20000 in
theorem gX7_log_X7_isSheet : GoodIn wsX7_log (va_wsS RX7 238 yX7_isSheet wsX7_isSheet) := goodIn_app (goodIn_of _ (by decide +kernel)) ggX7_log_X7_isSheet
set_option maxRecDepth 20000 in
theorem ggX7_log_X7_isLane : GoodIn wsX7_log wsX7_isLane := goodIn_r _ [12] (by decide +kernel) (by decide +kernel)
set_option maxRecDepth 20000 in
theorem gX7_log_X7_isLane : GoodIn wsX7_log (va_wsS RX7 241 yX7_isLane wsX7_isLane) := goodIn_app (goodIn_of _ (by decide +kernel)) ggX7_log_X7_isLane
set_option maxRecDepth 20000 in
theorem ggX7_log_X5_refusal : GoodIn wsX7_log wsX5_refusal := goodIn_r _ [17, 18, 19, 20, 21, 22, 16, 23, 24, 126, 127, 128, 129] (by decide +kernel) (by decide +kernel)
set_option maxRecDepth 20000 in
theorem gX7_log_X5_refusal : GoodIn wsX7_log (wsV RX7 254 RX5 yX5_refusal wsX5_refusal) := goodIn_app (goodIn_of _ (by decide +kernel)) ggX7_log_X5_refusal
set_option maxRecDepth 20000 in
theorem ggX7_log_X1_casesLeft : GoodIn wsX7_log wsX1_casesLeft := goodIn_r _ [29, 30, 31, 112, 113, 114, 115, 116, 117, 118, 119, 120, 121, 122, 123, 124, 125] (by decide +kernel) (by decide +kernel)
set_option maxRecDepth 20000 in
theorem gX7_log_X1_casesLeft : GoodIn wsX7_log (wsV RX7 128 RX1 yX1_casesLeft wsX1_casesLeft) := goodIn_app (goodIn_of _ (by decide +kernel)) ggX7_log_X1_casesLeft
set_option maxRecDepth 20000 in
theorem ggX7_log_X7_hearInSpare : GoodIn wsX7_log wsX7_hearInSpare := goodIn_r _ [35, 3, 2, 5, 36, 37, 38, 28, 39, 40, 41, 42, 43, 44, 45, 46, 47, 48, 49, 50, 51, 52, 53, 54, 30, 31, 55, 56, 57, 58, 59, 60, 61, 62, 63, 64, 65, 66, 67, 68, 69, 70, 71, 72, 73, 74, 75, 76, 77, 78, 79, 80, 81, 82, 83, 84, 85, 86, 87, 88, 89, 90, 91, 92, 93, 94, 104, 105, 106, 107, 108, 109, 110, 111, 112, 113, 114, 115, 116, 117, 118, 119, 120, 121, 122, 123, 124, 125] (by decide +kernel) (by decide +kernel)
set_option maxRecDepth 20000 in
theorem gX7_log_X7_hearInSpare : GoodIn wsX7_log (wsV RX7 183 RX7 yX7_hearInSpare wsX7_hearInSpare) := goodIn_app (goodIn_of _ (by decide +kernel)) ggX7_log_X7_hearInSpare
set_option maxRecDepth 20000 in
theorem ggX7_log_X5_put : GoodIn wsX7_log wsX5_put := goodIn_r _ [98, 99, 100, 101, 102, 16, 103, 19, 126, 127, 128, 129] (by decide +kernel) (by decide +kernel)
set_option maxRecDepth 20000 in
theorem gX7_log_X5_put : GoodIn wsX7_log (wsV RX7 258 RX5 yX5_put wsX5_put) := goodIn_app (goodIn_of _ (by decide +kernel)) ggX7_log_X5_put
theorem dX7_log_0 : decode cX7_log 0 = .ok (.iload_n 1, 1) := by decide +kernel
theorem dX7_log_1 : decode cX7_log 1 = .ok (.invokestatic 238, 3) := by decide +kernel
theorem dX7_log_4 : decode cX7_log 4 = .ok (.ifCond .eq 23, 3) := by decide +kernel
theorem dX7_log_7 : decode cX7_log 7 = .ok (.iload_n 2, 1) := by decide +kernel
theorem dX7_log_8 : decode cX7_log 8 = .ok (.invokestatic 241, 3) := by decide +kernel
theorem dX7_log_11 : decode cX7_log 11 = .ok (.ifCond .eq 16, 3) := by decide +kernel
theorem dX7_log_14 : decode cX7_log 14 = .ok (.iload 4, 2) := by decide +kernel
theorem dX7_log_16 : decode cX7_log 16 = .ok (.iconst 1, 1) := by decide +kernel
theorem dX7_log_17 : decode cX7_log 17 = .ok (.if_icmp .lt 10, 3) := by decide +kernel
theorem dX7_log_20 : decode cX7_log 20 = .ok (.iload 4, 2) := by decide +kernel
theorem dX7_log_22 : decode cX7_log 22 = .ok (.bipush 12, 2) := by decide +kernel
theorem dX7_log_24 : decode cX7_log 24 = .ok (.if_icmp .le 5, 3) := by decide +kernel
theorem dX7_log_27 : decode cX7_log 27 = .ok (.iconst (-1), 1) := by decide +kernel
theorem dX7_log_28 : decode cX7_log 28 = .ok (.ireturn, 1) := by decide +kernel
theorem dX7_log_29 : decode cX7_log 29 = .ok (.aload_n 0, 1) := by decide +kernel
theorem dX7_log_30 : decode cX7_log 30 = .ok (.getfield 46, 3) := by decide +kernel
theorem dX7_log_33 : decode cX7_log 33 = .ok (.iload_n 1, 1) := by decide +kernel
theorem dX7_log_34 : decode cX7_log 34 = .ok (.aaload, 1) := by decide +kernel
theorem dX7_log_35 : decode cX7_log 35 = .ok (.iload_n 2, 1) := by decide +kernel
theorem dX7_log_36 : decode cX7_log 36 = .ok (.iload_n 3, 1) := by decide +kernel
theorem dX7_log_37 : decode cX7_log 37 = .ok (.iload 4, 2) := by decide +kernel
theorem dX7_log_39 : decode cX7_log 39 = .ok (.invokevirtual 254, 3) := by decide +kernel
theorem dX7_log_42 : decode cX7_log 42 = .ok (.istore 5, 2) := by decide +kernel
theorem dX7_log_44 : decode cX7_log 44 = .ok (.iload 5, 2) := by decide +kernel
theorem dX7_log_46 : decode cX7_log 46 = .ok (.ifCond .eq 6, 3) := by decide +kernel
theorem dX7_log_49 : decode cX7_log 49 = .ok (.iload 5, 2) := by decide +kernel
theorem dX7_log_51 : decode cX7_log 51 = .ok (.ireturn, 1) := by decide +kernel
theorem dX7_log_52 : decode cX7_log 52 = .ok (.iload 4, 2) := by decide +kernel
theorem dX7_log_54 : decode cX7_log 54 = .ok (.aload_n 0, 1) := by decide +kernel
theorem dX7_log_55 : decode cX7_log 55 = .ok (.getfield 51, 3) := by decide +kernel
theorem dX7_log_58 : decode cX7_log 58 = .ok (.invokevirtual 128, 3) := by decide +kernel
theorem dX7_log_61 : decode cX7_log 61 = .ok (.if_icmp .le 6, 3) := by decide +kernel
theorem dX7_log_64 : decode cX7_log 64 = .ok (.bipush (-2), 2) := by decide +kernel
theorem dX7_log_66 : decode cX7_log 66 = .ok (.ireturn, 1) := by decide +kernel
theorem dX7_log_67 : decode cX7_log 67 = .ok (.aload_n 0, 1) := by decide +kernel
theorem dX7_log_68 : decode cX7_log 68 = .ok (.iload 4, 2) := by decide +kernel
theorem dX7_log_70 : decode cX7_log 70 = .ok (.invokevirtual 183, 3) := by decide +kernel
theorem dX7_log_73 : decode cX7_log 73 = .ok (.iconst 0, 1) := by decide +kernel
theorem dX7_log_74 : decode cX7_log 74 = .ok (.istore 6, 2) := by decide +kernel
theorem dX7_log_76 : decode cX7_log 76 = .ok (.iload 6, 2) := by decide +kernel
theorem dX7_log_78 : decode cX7_log 78 = .ok (.iload 4, 2) := by decide +kernel
theorem dX7_log_80 : decode cX7_log 80 = .ok (.if_icmp .ge 42, 3) := by decide +kernel
theorem dX7_log_83 : decode cX7_log 83 = .ok (.aload_n 0, 1) := by decide +kernel
theorem dX7_log_84 : decode cX7_log 84 = .ok (.getfield 46, 3) := by decide +kernel
theorem dX7_log_87 : decode cX7_log 87 = .ok (.iload_n 1, 1) := by decide +kernel
theorem dX7_log_88 : decode cX7_log 88 = .ok (.aaload, 1) := by decide +kernel
theorem dX7_log_89 : decode cX7_log 89 = .ok (.iload_n 3, 1) := by decide +kernel
theorem dX7_log_90 : decode cX7_log 90 = .ok (.iload 6, 2) := by decide +kernel
theorem dX7_log_92 : decode cX7_log 92 = .ok (.iadd, 1) := by decide +kernel
theorem dX7_log_93 : decode cX7_log 93 = .ok (.aload_n 0, 1) := by decide +kernel
theorem dX7_log_94 : decode cX7_log 94 = .ok (.getfield 55, 3) := by decide +kernel
theorem dX7_log_97 : decode cX7_log 97 = .ok (.getfield 122, 3) := by decide +kernel
theorem dX7_log_100 : decode cX7_log 100 = .ok (.aload_n 0, 1) := by decide +kernel
theorem dX7_log_101 : decode cX7_log 101 = .ok (.getfield 51, 3) := by decide +kernel
theorem dX7_log_104 : decode cX7_log 104 = .ok (.getfield 132, 3) := by decide +kernel
theorem dX7_log_107 : decode cX7_log 107 = .ok (.iload 6, 2) := by decide +kernel
theorem dX7_log_109 : decode cX7_log 109 = .ok (.iadd, 1) := by decide +kernel
theorem dX7_log_110 : decode cX7_log 110 = .ok (.iaload, 1) := by decide +kernel
theorem dX7_log_111 : decode cX7_log 111 = .ok (.i2l, 1) := by decide +kernel
theorem dX7_log_112 : decode cX7_log 112 = .ok (.invokevirtual 258, 3) := by decide +kernel
theorem dX7_log_115 : decode cX7_log 115 = .ok (.pop2, 1) := by decide +kernel
theorem dX7_log_116 : decode cX7_log 116 = .ok (.iinc 6 1, 3) := by decide +kernel
theorem dX7_log_119 : decode cX7_log 119 = .ok (.goto (-43), 3) := by decide +kernel
theorem dX7_log_122 : decode cX7_log 122 = .ok (.iload 4, 2) := by decide +kernel
theorem dX7_log_124 : decode cX7_log 124 = .ok (.ireturn, 1) := by decide +kernel
set_option maxRecDepth 20000 in
theorem ggX7_leans_X1_hasJudge : GoodIn wsX7_leans wsX1_hasJudge := goodIn_r _ [9, 10, 84, 85, 86, 87, 88, 89, 90, 91, 92, 93, 94, 95, 96, 97] (by decide +kernel) (by decide +kernel)
set_option maxRecDepth 20000 in
theorem gX7_leans_X1_hasJudge : GoodIn wsX7_leans (wsV RX7 101 RX1 yX1_hasJudge wsX1_hasJudge) := goodIn_app (goodIn_of _ (by decide +kernel)) ggX7_leans_X1_hasJudge
set_option maxRecDepth 20000 in
theorem ggX7_leans_X7_arePairsTold : GoodIn wsX7_leans wsX7_arePairsTold := goodIn_r _ [14, 15, 16, 13, 17, 18, 19, 20] (by decide +kernel) (by decide +kernel)
set_option maxRecDepth 20000 in
theorem gX7_leans_X7_arePairsTold : GoodIn wsX7_leans (va_wsS RX7 278 yX7_arePairsTold wsX7_arePairsTold) := goodIn_app (goodIn_of _ (by decide +kernel)) ggX7_leans_X7_arePairsTold
set_option maxRecDepth 20000 in
theorem ggX7_leans_X7_isFirstOrSecond : GoodIn wsX7_leans wsX7_isFirstOrSecond := goodIn_r _ [23] (by decide +kernel) (by decide +kernel)
set_option maxRecDepth 20000 in
theorem gX7_leans_X7_isFirstOrSecond : GoodIn wsX7_leans (va_wsS RX7 180 yX7_isFirstOrSecond wsX7_isFirstOrSecond) := goodIn_app (goodIn_of _ (by decide +kernel)) ggX7_leans_X7_isFirstOrSecond
set_option maxRecDepth 20000 in
theorem ggX7_leans_X5_refusal : GoodIn wsX7_leans wsX5_refusal := goodIn_r _ [28, 29, 30, 31, 32, 33, 27, 34, 35, 98, 99, 100, 101] (by decide +kernel) (by decide +kernel)
set_option maxRecDepth 20000 in
theorem gX7_leans_X5_refusal : GoodIn wsX7_leans (wsV RX7 254 RX5 yX5_refusal wsX5_refusal) := goodIn_app (goodIn_of _ (by decide +kernel)) ggX7_leans_X5_refusal
set_option maxRecDepth 20000 in
theorem ggX7_leans_X2_take : GoodIn wsX7_leans wsX2_take := goodIn_r _ [40, 41, 42, 43, 44, 102, 103, 104, 105, 98, 99, 100, 101] (by decide +kernel) (by decide +kernel)
set_option maxRecDepth 20000 in
theorem gX7_leans_X2_take : GoodIn wsX7_leans (wsV RX7 282 RX2 yX2_take wsX2_take) := goodIn_app (goodIn_of _ (by decide +kernel)) ggX7_leans_X2_take
set_option maxRecDepth 20000 in
theorem ggX7_leans_X2_leansOf : GoodIn wsX7_leans wsX2_leansOf := goodIn_r _ [48, 41, 43, 44, 49, 50, 51, 8, 52, 53, 54, 55, 56, 102, 103, 104, 105, 84, 85, 86, 87, 88, 89, 90, 91, 92, 93, 94, 95, 96, 97] (by decide +kernel) (by decide +kernel)
set_option maxRecDepth 20000 in
theorem gX7_leans_X2_leansOf : GoodIn wsX7_leans (wsV RX7 286 RX2 yX2_leansOf wsX2_leansOf) := goodIn_app (goodIn_of _ (by decide +kernel)) ggX7_leans_X2_leansOf
set_option maxRecDepth 20000 in
theorem ggX7_leans_X2_caseToTry : GoodIn wsX7_leans wsX2_caseToTry := goodIn_r _ [60, 61, 49, 50, 51, 8, 52, 53, 54, 55, 56, 62, 63, 39, 64, 65, 66, 67, 68, 69, 70, 71, 72, 73, 74, 75, 84, 85, 86, 87, 88, 89, 90, 91, 92, 93, 94, 95, 96, 97] (by decide +kernel) (by decide +kernel)
set_option maxRecDepth 20000 in
theorem gX7_leans_X2_caseToTry : GoodIn wsX7_leans (wsV RX7 289 RX2 yX2_caseToTry wsX2_caseToTry) := goodIn_app (goodIn_of _ (by decide +kernel)) ggX7_leans_X2_caseToTry
theorem dX7_leans_0 : decode cX7_leans 0 = .ok (.aload_n 0, 1) := by decide +kernel
theorem dX7_leans_1 : decode cX7_leans 1 = .ok (.getfield 51, 3) := by decide +kernel
theorem dX7_leans_4 : decode cX7_leans 4 = .ok (.iload_n 1, 1) := by decide +kernel
theorem dX7_leans_5 : decode cX7_leans 5 = .ok (.invokevirtual 101, 3) := by decide +kernel
theorem dX7_leans_8 : decode cX7_leans 8 = .ok (.ifCond .eq 21, 3) := by decide +kernel
theorem dX7_leans_11 : decode cX7_leans 11 = .ok (.iload_n 2, 1) := by decide +kernel
theorem dX7_leans_12 : decode cX7_leans 12 = .ok (.iload_n 3, 1) := by decide +kernel
theorem dX7_leans_13 : decode cX7_leans 13 = .ok (.iload 5, 2) := by decide +kernel
theorem dX7_leans_15 : decode cX7_leans 15 = .ok (.invokestatic 278, 3) := by decide +kernel
theorem dX7_leans_18 : decode cX7_leans 18 = .ok (.ifCond .eq 11, 3) := by decide +kernel
theorem dX7_leans_21 : decode cX7_leans 21 = .ok (.iload 6, 2) := by decide +kernel
theorem dX7_leans_23 : decode cX7_leans 23 = .ok (.invokestatic 180, 3) := by decide +kernel
theorem dX7_leans_26 : decode cX7_leans 26 = .ok (.ifCond .ne 5, 3) := by decide +kernel
theorem dX7_leans_29 : decode cX7_leans 29 = .ok (.iconst (-1), 1) := by decide +kernel
theorem dX7_leans_30 : decode cX7_leans 30 = .ok (.ireturn, 1) := by decide +kernel
theorem dX7_leans_31 : decode cX7_leans 31 = .ok (.aload_n 0, 1) := by decide +kernel
theorem dX7_leans_32 : decode cX7_leans 32 = .ok (.getfield 46, 3) := by decide +kernel
theorem dX7_leans_35 : decode cX7_leans 35 = .ok (.iload_n 2, 1) := by decide +kernel
theorem dX7_leans_36 : decode cX7_leans 36 = .ok (.aaload, 1) := by decide +kernel
theorem dX7_leans_37 : decode cX7_leans 37 = .ok (.iload_n 3, 1) := by decide +kernel
theorem dX7_leans_38 : decode cX7_leans 38 = .ok (.iload 4, 2) := by decide +kernel
theorem dX7_leans_40 : decode cX7_leans 40 = .ok (.iconst 2, 1) := by decide +kernel
theorem dX7_leans_41 : decode cX7_leans 41 = .ok (.iload 5, 2) := by decide +kernel
theorem dX7_leans_43 : decode cX7_leans 43 = .ok (.imul, 1) := by decide +kernel
theorem dX7_leans_44 : decode cX7_leans 44 = .ok (.invokevirtual 254, 3) := by decide +kernel
theorem dX7_leans_47 : decode cX7_leans 47 = .ok (.istore 7, 2) := by decide +kernel
theorem dX7_leans_49 : decode cX7_leans 49 = .ok (.iload 7, 2) := by decide +kernel
theorem dX7_leans_51 : decode cX7_leans 51 = .ok (.ifCond .eq 6, 3) := by decide +kernel
theorem dX7_leans_54 : decode cX7_leans 54 = .ok (.iload 7, 2) := by decide +kernel
theorem dX7_leans_56 : decode cX7_leans 56 = .ok (.ireturn, 1) := by decide +kernel
theorem dX7_leans_57 : decode cX7_leans 57 = .ok (.aload_n 0, 1) := by decide +kernel
theorem dX7_leans_58 : decode cX7_leans 58 = .ok (.getfield 33, 3) := by decide +kernel
theorem dX7_leans_61 : decode cX7_leans 61 = .ok (.aload_n 0, 1) := by decide +kernel
theorem dX7_leans_62 : decode cX7_leans 62 = .ok (.getfield 46, 3) := by decide +kernel
theorem dX7_leans_65 : decode cX7_leans 65 = .ok (.iload_n 2, 1) := by decide +kernel
theorem dX7_leans_66 : decode cX7_leans 66 = .ok (.aaload, 1) := by decide +kernel
theorem dX7_leans_67 : decode cX7_leans 67 = .ok (.iload 4, 2) := by decide +kernel
theorem dX7_leans_69 : decode cX7_leans 69 = .ok (.iload 5, 2) := by decide +kernel
theorem dX7_leans_71 : decode cX7_leans 71 = .ok (.aload_n 0, 1) := by decide +kernel
theorem dX7_leans_72 : decode cX7_leans 72 = .ok (.getfield 51, 3) := by decide +kernel
theorem dX7_leans_75 : decode cX7_leans 75 = .ok (.getfield 74, 3) := by decide +kernel
theorem dX7_leans_78 : decode cX7_leans 78 = .ok (.iconst 2, 1) := by decide +kernel
theorem dX7_leans_79 : decode cX7_leans 79 = .ok (.invokevirtual 282, 3) := by decide +kernel
theorem dX7_leans_82 : decode cX7_leans 82 = .ok (.ifCond .ne 6, 3) := by decide +kernel
theorem dX7_leans_85 : decode cX7_leans 85 = .ok (.bipush (-2), 2) := by decide +kernel
theorem dX7_leans_87 : decode cX7_leans 87 = .ok (.ireturn, 1) := by decide +kernel
theorem dX7_leans_88 : decode cX7_leans 88 = .ok (.aload_n 0, 1) := by decide +kernel
theorem dX7_leans_89 : decode cX7_leans 89 = .ok (.getfield 33, 3) := by decide +kernel
theorem dX7_leans_92 : decode cX7_leans 92 = .ok (.aload_n 0, 1) := by decide +kernel
theorem dX7_leans_93 : decode cX7_leans 93 = .ok (.getfield 51, 3) := by decide +kernel
theorem dX7_leans_96 : decode cX7_leans 96 = .ok (.iload_n 1, 1) := by decide +kernel
theorem dX7_leans_97 : decode cX7_leans 97 = .ok (.invokevirtual 286, 3) := by decide +kernel
theorem dX7_leans_100 : decode cX7_leans 100 = .ok (.istore 8, 2) := by decide +kernel
theorem dX7_leans_102 : decode cX7_leans 102 = .ok (.iload 6, 2) := by decide +kernel
theorem dX7_leans_104 : decode cX7_leans 104 = .ok (.ifCond .ne 8, 3) := by decide +kernel
theorem dX7_leans_107 : decode cX7_leans 107 = .ok (.iload 8, 2) := by decide +kernel
theorem dX7_leans_109 : decode cX7_leans 109 = .ok (.goto 17, 3) := by decide +kernel
theorem dX7_leans_112 : decode cX7_leans 112 = .ok (.aload_n 0, 1) := by decide +kernel
theorem dX7_leans_113 : decode cX7_leans 113 = .ok (.getfield 33, 3) := by decide +kernel
theorem dX7_leans_116 : decode cX7_leans 116 = .ok (.aload_n 0, 1) := by decide +kernel
theorem dX7_leans_117 : decode cX7_leans 117 = .ok (.getfield 51, 3) := by decide +kernel
theorem dX7_leans_120 : decode cX7_leans 120 = .ok (.iload_n 1, 1) := by decide +kernel
theorem dX7_leans_121 : decode cX7_leans 121 = .ok (.iload 8, 2) := by decide +kernel
theorem dX7_leans_123 : decode cX7_leans 123 = .ok (.invokevirtual 289, 3) := by decide +kernel
theorem dX7_leans_126 : decode cX7_leans 126 = .ok (.ireturn, 1) := by decide +kernel
set_option maxRecDepth 20000 in
theorem ggX7_kinds_X1_hasParty : GoodIn wsX7_kinds wsX1_hasParty := goodIn_r _ [9, 10, 90, 91, 92, 93, 94, 95, 96, 97, 98, 99, 100, 101, 102, 103] (by decide +kernel) (by decide +kernel)
set_option maxRecDepth 20000 in
theorem gX7_kinds_X1_hasParty : GoodIn wsX7_kinds (wsV RX7 77 RX1 yX1_hasParty wsX1_hasParty) := goodIn_app (goodIn_of _ (by decide +kernel)) ggX7_kinds_X1_hasParty
set_option maxRecDepth 20000 in
theorem ggX7_kinds_X7_arePairsTold : GoodIn wsX7_kinds wsX7_arePairsTold := goodIn_r _ [14, 15, 16, 13, 17, 18, 19, 20] (by decide +kernel) (by decide +kernel)
set_option maxRecDepth 20000 in
theorem gX7_kinds_X7_arePairsTold : GoodIn wsX7_kinds (va_wsS RX7 278 yX7_arePairsTold wsX7_arePairsTold) := goodIn_app (goodIn_of _ (by decide +kernel)) ggX7_kinds_X7_arePairsTold
set_option maxRecDepth 20000 in
theorem ggX7_kinds_X7_isFirstOrSecond : GoodIn wsX7_kinds wsX7_isFirstOrSecond := goodIn_r _ [23] (by decide +kernel) (by decide +kernel)
set_option maxRecDepth 20000 in
theorem gX7_kinds_X7_isFirstOrSecond : GoodIn wsX7_kinds (va_wsS RX7 180 yX7_isFirstOrSecond wsX7_isFirstOrSecond) := goodIn_app (goodIn_of _ (by decide +kernel)) ggX7_kinds_X7_isFirstOrSecond
set_option maxRecDepth 20000 in
theorem ggX7_kinds_X5_refusal : GoodIn wsX7_kinds wsX5_refusal := goodIn_r _ [28, 29, 30, 31, 32, 33, 27, 34, 35, 104, 105, 106, 107] (by decide +kernel) (by decide +kernel)
set_option maxRecDepth 20000 in
theorem gX7_kinds_X5_refusal : GoodIn wsX7_kinds (wsV RX7 254 RX5 yX5_refusal wsX5_refusal) := goodIn_app (goodIn_of _ (by decide +kernel)) ggX7_kinds_X5_refusal
set_option maxRecDepth 20000 in
theorem ggX7_kinds_X2_take : GoodIn wsX7_kinds wsX2_take := goodIn_r _ [40, 41, 42, 43, 44, 108, 109, 110, 111, 104, 105, 106, 107] (by decide +kernel) (by decide +kernel)
set_option maxRecDepth 20000 in
theorem gX7_kinds_X2_take : GoodIn wsX7_kinds (wsV RX7 282 RX2 yX2_take wsX2_take) := goodIn_app (goodIn_of _ (by decide +kernel)) ggX7_kinds_X2_take
set_option maxRecDepth 20000 in
theorem ggX7_kinds_X2_kindsOf : GoodIn wsX7_kinds wsX2_kindsOf := goodIn_r _ [48, 41, 43, 44, 49, 50, 51, 8, 52, 53, 54, 55, 56, 57, 58, 59, 60, 61, 62, 63, 108, 109, 110, 111, 90, 91, 92, 93, 94, 95, 96, 97, 98, 99, 100, 101, 102, 103] (by decide +kernel) (by decide +kernel)
set_option maxRecDepth 20000 in
theorem gX7_kinds_X2_kindsOf : GoodIn wsX7_kinds (wsV RX7 295 RX2 yX2_kindsOf wsX2_kindsOf) := goodIn_app (goodIn_of _ (by decide +kernel)) ggX7_kinds_X2_kindsOf
set_option maxRecDepth 20000 in
theorem ggX7_kinds_X2_judgeToTry : GoodIn wsX7_kinds wsX2_judgeToTry := goodIn_r _ [67, 68, 69, 70, 71, 39, 72, 73, 74, 75, 76, 77, 78, 79, 80, 81, 49, 50, 51, 8, 52, 53, 54, 55, 56, 57, 58, 59, 60, 61, 62, 63, 90, 91, 92, 93, 94, 95, 96, 97, 98, 99, 100, 101, 102, 103, 108, 109, 110, 111] (by decide +kernel) (by decide +kernel)
set_option maxRecDepth 20000 in
theorem gX7_kinds_X2_judgeToTry : GoodIn wsX7_kinds (wsV RX7 298 RX2 yX2_judgeToTry wsX2_judgeToTry) := goodIn_app (goodIn_of _ (by decide +kernel)) ggX7_kinds_X2_judgeToTry
theorem dX7_kinds_0 : decode cX7_kinds 0 = .ok (.aload_n 0, 1) := by decide +kernel
theorem dX7_kinds_1 : decode cX7_kinds 1 = .ok (.getfield 51, 3) := by decide +kernel
theorem dX7_kinds_4 : decode cX7_kinds 4 = .ok (.iload_n 1, 1) := by decide +kernel
theorem dX7_kinds_5 : decode cX7_kinds 5 = .ok (.invokevirtual 77, 3) := by decide +kernel
theorem dX7_kinds_8 : decode cX7_kinds 8 = .ok (.ifCond .eq 21, 3) := by decide +kernel
theorem dX7_kinds_11 : decode cX7_kinds 11 = .ok (.iload_n 2, 1) := by decide +kernel
theorem dX7_kinds_12 : decode cX7_kinds 12 = .ok (.iload_n 3, 1) := by decide +kernel
theorem dX7_kinds_13 : decode cX7_kinds 13 = .ok (.iload 5, 2) := by decide +kernel
theorem dX7_kinds_15 : decode cX7_kinds 15 = .ok (.invokestatic 278, 3) := by decide +kernel
theorem dX7_kinds_18 : decode cX7_kinds 18 = .ok (.ifCond .eq 11, 3) := by decide +kernel
theorem dX7_kinds_21 : decode cX7_kinds 21 = .ok (.iload 6, 2) := by decide +kernel
theorem dX7_kinds_23 : decode cX7_kinds 23 = .ok (.invokestatic 180, 3) := by decide +kernel
theorem dX7_kinds_26 : decode cX7_kinds 26 = .ok (.ifCond .ne 5, 3) := by decide +kernel
theorem dX7_kinds_29 : decode cX7_kinds 29 = .ok (.iconst (-1), 1) := by decide +kernel
theorem dX7_kinds_30 : decode cX7_kinds 30 = .ok (.ireturn, 1) := by decide +kernel
theorem dX7_kinds_31 : decode cX7_kinds 31 = .ok (.aload_n 0, 1) := by decide +kernel
theorem dX7_kinds_32 : decode cX7_kinds 32 = .ok (.getfield 46, 3) := by decide +kernel
theorem dX7_kinds_35 : decode cX7_kinds 35 = .ok (.iload_n 2, 1) := by decide +kernel
theorem dX7_kinds_36 : decode cX7_kinds 36 = .ok (.aaload, 1) := by decide +kernel
theorem dX7_kinds_37 : decode cX7_kinds 37 = .ok (.iload_n 3, 1) := by decide +kernel
theorem dX7_kinds_38 : decode cX7_kinds 38 = .ok (.iload 4, 2) := by decide +kernel
theorem dX7_kinds_40 : decode cX7_kinds 40 = .ok (.iconst 2, 1) := by decide +kernel
theorem dX7_kinds_41 : decode cX7_kinds 41 = .ok (.iload 5, 2) := by decide +kernel
theorem dX7_kinds_43 : decode cX7_kinds 43 = .ok (.imul, 1) := by decide +kernel
theorem dX7_kinds_44 : decode cX7_kinds 44 = .ok (.invokevirtual 254, 3) := by decide +kernel
theorem dX7_kinds_47 : decode cX7_kinds 47 = .ok (.istore 7, 2) := by decide +kernel
theorem dX7_kinds_49 : decode cX7_kinds 49 = .ok (.iload 7, 2) := by decide +kernel
theorem dX7_kinds_51 : decode cX7_kinds 51 = .ok (.ifCond .eq 6, 3) := by decide +kernel
theorem dX7_kinds_54 : decode cX7_kinds 54 = .ok (.iload 7, 2) := by decide +kernel
theorem dX7_kinds_56 : decode cX7_kinds 56 = .ok (.ireturn, 1) := by decide +kernel
theorem dX7_kinds_57 : decode cX7_kinds 57 = .ok (.aload_n 0, 1) := by decide +kernel
theorem dX7_kinds_58 : decode cX7_kinds 58 = .ok (.getfield 33, 3) := by decide +kernel
theorem dX7_kinds_61 : decode cX7_kinds 61 = .ok (.aload_n 0, 1) := by decide +kernel
theorem dX7_kinds_62 : decode cX7_kinds 62 = .ok (.getfield 46, 3) := by decide +kernel
theorem dX7_kinds_65 : decode cX7_kinds 65 = .ok (.iload_n 2, 1) := by decide +kernel
theorem dX7_kinds_66 : decode cX7_kinds 66 = .ok (.aaload, 1) := by decide +kernel
theorem dX7_kinds_67 : decode cX7_kinds 67 = .ok (.iload 4, 2) := by decide +kernel
theorem dX7_kinds_69 : decode cX7_kinds 69 = .ok (.iload 5, 2) := by decide +kernel
theorem dX7_kinds_71 : decode cX7_kinds 71 = .ok (.aload_n 0, 1) := by decide +kernel
theorem dX7_kinds_72 : decode cX7_kinds 72 = .ok (.getfield 51, 3) := by decide +kernel
theorem dX7_kinds_75 : decode cX7_kinds 75 = .ok (.getfield 292, 3) := by decide +kernel
theorem dX7_kinds_78 : decode cX7_kinds 78 = .ok (.aload_n 0, 1) := by decide +kernel
theorem dX7_kinds_79 : decode cX7_kinds 79 = .ok (.getfield 51, 3) := by decide +kernel
theorem dX7_kinds_82 : decode cX7_kinds 82 = .ok (.getfield 292, 3) := by decide +kernel
theorem dX7_kinds_85 : decode cX7_kinds 85 = .ok (.invokevirtual 282, 3) := by decide +kernel
theorem dX7_kinds_88 : decode cX7_kinds 88 = .ok (.ifCond .ne 6, 3) := by decide +kernel
theorem dX7_kinds_91 : decode cX7_kinds 91 = .ok (.bipush (-2), 2) := by decide +kernel
theorem dX7_kinds_93 : decode cX7_kinds 93 = .ok (.ireturn, 1) := by decide +kernel
theorem dX7_kinds_94 : decode cX7_kinds 94 = .ok (.aload_n 0, 1) := by decide +kernel
theorem dX7_kinds_95 : decode cX7_kinds 95 = .ok (.getfield 33, 3) := by decide +kernel
theorem dX7_kinds_98 : decode cX7_kinds 98 = .ok (.aload_n 0, 1) := by decide +kernel
theorem dX7_kinds_99 : decode cX7_kinds 99 = .ok (.getfield 51, 3) := by decide +kernel
theorem dX7_kinds_102 : decode cX7_kinds 102 = .ok (.iload_n 1, 1) := by decide +kernel
theorem dX7_kinds_103 : decode cX7_kinds 103 = .ok (.invokevirtual 295, 3) := by decide +kernel
theorem dX7_kinds_106 : decode cX7_kinds 106 = .ok (.istore 8, 2) := by decide +kernel
theorem dX7_kinds_108 : decode cX7_kinds 108 = .ok (.iload 6, 2) := by decide +kernel
theorem dX7_kinds_110 : decode cX7_kinds 110 = .ok (.ifCond .ne 8, 3) := by decide +kernel
theorem dX7_kinds_113 : decode cX7_kinds 113 = .ok (.iload 8, 2) := by decide +kernel
theorem dX7_kinds_115 : decode cX7_kinds 115 = .ok (.goto 17, 3) := by decide +kernel
theorem dX7_kinds_118 : decode cX7_kinds 118 = .ok (.aload_n 0, 1) := by decide +kernel
theorem dX7_kinds_119 : decode cX7_kinds 119 = .ok (.getfield 33, 3) := by decide +kernel
theorem dX7_kinds_122 : decode cX7_kinds 122 = .ok (.aload_n 0, 1) := by decide +kernel
theorem dX7_kinds_123 : decode cX7_kinds 123 = .ok (.getfield 51, 3) := by decide +kernel
theorem dX7_kinds_126 : decode cX7_kinds 126 = .ok (.iload_n 1, 1) := by decide +kernel
theorem dX7_kinds_127 : decode cX7_kinds 127 = .ok (.iload 8, 2) := by decide +kernel
theorem dX7_kinds_129 : decode cX7_kinds 129 = .ok (.invokevirtual 298, 3) := by decide +kernel
theorem dX7_kinds_132 : decode cX7_kinds 132 = .ok (.ireturn, 1) := by decide +kernel
set_option maxRecDepth 20000 in
theorem ggX7_count_X1_allGrievance : GoodIn wsX7_count wsX1_allGrievance := goodIn_r _ [15, 16, 17, 39, 40, 41, 42, 43, 44, 45, 46, 47, 48, 49, 50, 51, 52] (by decide +kernel) (by decide +kernel)
set_option maxRecDepth 20000 in
theorem gX7_count_X1_allGrievance : GoodIn wsX7_count (wsV RX7 235 RX1 yX1_allGrievance wsX1_allGrievance) := goodIn_app (goodIn_of _ (by decide +kernel)) ggX7_count_X1_allGrievance
set_option maxRecDepth 20000 in
theorem ggX7_count_X1_justlyWon : GoodIn wsX7_count wsX1_justlyWon := goodIn_r _ [21, 22, 23, 24, 25, 26, 14, 27, 28, 29, 30, 39, 40, 41, 42, 43, 44, 45, 46, 47, 48, 49, 50, 51, 52] (by decide +kernel) (by decide +kernel)
set_option maxRecDepth 20000 in
theorem gX7_count_X1_justlyWon : GoodIn wsX7_count (wsV RX7 304 RX1 yX1_justlyWon wsX1_justlyWon) := goodIn_app (goodIn_of _ (by decide +kernel)) ggX7_count_X1_justlyWon
theorem dX7_count_0 : decode cX7_count 0 = .ok (.iload_n 1, 1) := by decide +kernel
theorem dX7_count_1 : decode cX7_count 1 = .ok (.tableswitch 123 0 8 #[51, 59, 67, 75, 83, 91, 99, 107, 115], 51) := by decide +kernel
theorem dX7_count_52 : decode cX7_count 52 = .ok (.aload_n 0, 1) := by decide +kernel
theorem dX7_count_53 : decode cX7_count 53 = .ok (.getfield 51, 3) := by decide +kernel
theorem dX7_count_56 : decode cX7_count 56 = .ok (.getfield 301, 3) := by decide +kernel
theorem dX7_count_59 : decode cX7_count 59 = .ok (.ireturn, 1) := by decide +kernel
theorem dX7_count_60 : decode cX7_count 60 = .ok (.aload_n 0, 1) := by decide +kernel
theorem dX7_count_61 : decode cX7_count 61 = .ok (.getfield 51, 3) := by decide +kernel
theorem dX7_count_64 : decode cX7_count 64 = .ok (.getfield 292, 3) := by decide +kernel
theorem dX7_count_67 : decode cX7_count 67 = .ok (.ireturn, 1) := by decide +kernel
theorem dX7_count_68 : decode cX7_count 68 = .ok (.aload_n 0, 1) := by decide +kernel
theorem dX7_count_69 : decode cX7_count 69 = .ok (.getfield 51, 3) := by decide +kernel
theorem dX7_count_72 : decode cX7_count 72 = .ok (.getfield 74, 3) := by decide +kernel
theorem dX7_count_75 : decode cX7_count 75 = .ok (.ireturn, 1) := by decide +kernel
theorem dX7_count_76 : decode cX7_count 76 = .ok (.aload_n 0, 1) := by decide +kernel
theorem dX7_count_77 : decode cX7_count 77 = .ok (.getfield 51, 3) := by decide +kernel
theorem dX7_count_80 : decode cX7_count 80 = .ok (.getfield 132, 3) := by decide +kernel
theorem dX7_count_83 : decode cX7_count 83 = .ok (.ireturn, 1) := by decide +kernel
theorem dX7_count_84 : decode cX7_count 84 = .ok (.aload_n 0, 1) := by decide +kernel
theorem dX7_count_85 : decode cX7_count 85 = .ok (.getfield 51, 3) := by decide +kernel
theorem dX7_count_88 : decode cX7_count 88 = .ok (.getfield 90, 3) := by decide +kernel
theorem dX7_count_91 : decode cX7_count 91 = .ok (.ireturn, 1) := by decide +kernel
theorem dX7_count_92 : decode cX7_count 92 = .ok (.aload_n 0, 1) := by decide +kernel
theorem dX7_count_93 : decode cX7_count 93 = .ok (.getfield 51, 3) := by decide +kernel
theorem dX7_count_96 : decode cX7_count 96 = .ok (.invokevirtual 235, 3) := by decide +kernel
theorem dX7_count_99 : decode cX7_count 99 = .ok (.ireturn, 1) := by decide +kernel
theorem dX7_count_100 : decode cX7_count 100 = .ok (.aload_n 0, 1) := by decide +kernel
theorem dX7_count_101 : decode cX7_count 101 = .ok (.getfield 51, 3) := by decide +kernel
theorem dX7_count_104 : decode cX7_count 104 = .ok (.invokevirtual 304, 3) := by decide +kernel
theorem dX7_count_107 : decode cX7_count 107 = .ok (.ireturn, 1) := by decide +kernel
theorem dX7_count_108 : decode cX7_count 108 = .ok (.aload_n 0, 1) := by decide +kernel
theorem dX7_count_109 : decode cX7_count 109 = .ok (.getfield 19, 3) := by decide +kernel
theorem dX7_count_112 : decode cX7_count 112 = .ok (.getfield 73, 3) := by decide +kernel
theorem dX7_count_115 : decode cX7_count 115 = .ok (.ireturn, 1) := by decide +kernel
theorem dX7_count_116 : decode cX7_count 116 = .ok (.aload_n 0, 1) := by decide +kernel
theorem dX7_count_117 : decode cX7_count 117 = .ok (.getfield 12, 3) := by decide +kernel
theorem dX7_count_120 : decode cX7_count 120 = .ok (.getfield 62, 3) := by decide +kernel
theorem dX7_count_123 : decode cX7_count 123 = .ok (.ireturn, 1) := by decide +kernel
theorem dX7_count_124 : decode cX7_count 124 = .ok (.iconst (-1), 1) := by decide +kernel
theorem dX7_count_125 : decode cX7_count 125 = .ok (.ireturn, 1) := by decide +kernel
theorem dX7_isUnder_0 : decode cX7_isUnder 0 = .ok (.iload_n 0, 1) := by decide +kernel
theorem dX7_isUnder_1 : decode cX7_isUnder 1 = .ok (.istore_n 2, 1) := by decide +kernel
theorem dX7_isUnder_2 : decode cX7_isUnder 2 = .ok (.iconst 0, 1) := by decide +kernel
theorem dX7_isUnder_3 : decode cX7_isUnder 3 = .ok (.istore_n 3, 1) := by decide +kernel
theorem dX7_isUnder_4 : decode cX7_isUnder 4 = .ok (.iload_n 3, 1) := by decide +kernel
theorem dX7_isUnder_5 : decode cX7_isUnder 5 = .ok (.iconst 5, 1) := by decide +kernel
theorem dX7_isUnder_6 : decode cX7_isUnder 6 = .ok (.if_icmp .gt 31, 3) := by decide +kernel
theorem dX7_isUnder_9 : decode cX7_isUnder 9 = .ok (.iload_n 2, 1) := by decide +kernel
theorem dX7_isUnder_10 : decode cX7_isUnder 10 = .ok (.ifCond .lt 27, 3) := by decide +kernel
theorem dX7_isUnder_13 : decode cX7_isUnder 13 = .ok (.iload_n 2, 1) := by decide +kernel
theorem dX7_isUnder_14 : decode cX7_isUnder 14 = .ok (.iconst 5, 1) := by decide +kernel
theorem dX7_isUnder_15 : decode cX7_isUnder 15 = .ok (.if_icmp .gt 22, 3) := by decide +kernel
theorem dX7_isUnder_18 : decode cX7_isUnder 18 = .ok (.iload_n 2, 1) := by decide +kernel
theorem dX7_isUnder_19 : decode cX7_isUnder 19 = .ok (.iload_n 1, 1) := by decide +kernel
theorem dX7_isUnder_20 : decode cX7_isUnder 20 = .ok (.if_icmp .ne 5, 3) := by decide +kernel
theorem dX7_isUnder_23 : decode cX7_isUnder 23 = .ok (.iconst 1, 1) := by decide +kernel
theorem dX7_isUnder_24 : decode cX7_isUnder 24 = .ok (.ireturn, 1) := by decide +kernel
theorem dX7_isUnder_25 : decode cX7_isUnder 25 = .ok (.getstatic 307, 3) := by decide +kernel
theorem dX7_isUnder_28 : decode cX7_isUnder 28 = .ok (.iload_n 2, 1) := by decide +kernel
theorem dX7_isUnder_29 : decode cX7_isUnder 29 = .ok (.iaload, 1) := by decide +kernel
theorem dX7_isUnder_30 : decode cX7_isUnder 30 = .ok (.istore_n 2, 1) := by decide +kernel
theorem dX7_isUnder_31 : decode cX7_isUnder 31 = .ok (.iinc 3 1, 3) := by decide +kernel
theorem dX7_isUnder_34 : decode cX7_isUnder 34 = .ok (.goto (-30), 3) := by decide +kernel
theorem dX7_isUnder_37 : decode cX7_isUnder 37 = .ok (.iconst 0, 1) := by decide +kernel
theorem dX7_isUnder_38 : decode cX7_isUnder 38 = .ok (.ireturn, 1) := by decide +kernel
theorem dX7_isFirstOrSecond_0 : decode cX7_isFirstOrSecond 0 = .ok (.iload_n 0, 1) := by decide +kernel
theorem dX7_isFirstOrSecond_1 : decode cX7_isFirstOrSecond 1 = .ok (.ifCond .eq 8, 3) := by decide +kernel
theorem dX7_isFirstOrSecond_4 : decode cX7_isFirstOrSecond 4 = .ok (.iload_n 0, 1) := by decide +kernel
theorem dX7_isFirstOrSecond_5 : decode cX7_isFirstOrSecond 5 = .ok (.iconst 1, 1) := by decide +kernel
theorem dX7_isFirstOrSecond_6 : decode cX7_isFirstOrSecond 6 = .ok (.if_icmp .ne 7, 3) := by decide +kernel
theorem dX7_isFirstOrSecond_9 : decode cX7_isFirstOrSecond 9 = .ok (.iconst 1, 1) := by decide +kernel
theorem dX7_isFirstOrSecond_10 : decode cX7_isFirstOrSecond 10 = .ok (.goto 4, 3) := by decide +kernel
theorem dX7_isFirstOrSecond_13 : decode cX7_isFirstOrSecond 13 = .ok (.iconst 0, 1) := by decide +kernel
theorem dX7_isFirstOrSecond_14 : decode cX7_isFirstOrSecond 14 = .ok (.ireturn, 1) := by decide +kernel
theorem dX7_isSheet_0 : decode cX7_isSheet 0 = .ok (.iload_n 0, 1) := by decide +kernel
theorem dX7_isSheet_1 : decode cX7_isSheet 1 = .ok (.ifCond .lt 12, 3) := by decide +kernel
theorem dX7_isSheet_4 : decode cX7_isSheet 4 = .ok (.iload_n 0, 1) := by decide +kernel
theorem dX7_isSheet_5 : decode cX7_isSheet 5 = .ok (.iconst 4, 1) := by decide +kernel
theorem dX7_isSheet_6 : decode cX7_isSheet 6 = .ok (.if_icmp .ge 7, 3) := by decide +kernel
theorem dX7_isSheet_9 : decode cX7_isSheet 9 = .ok (.iconst 1, 1) := by decide +kernel
theorem dX7_isSheet_10 : decode cX7_isSheet 10 = .ok (.goto 4, 3) := by decide +kernel
theorem dX7_isSheet_13 : decode cX7_isSheet 13 = .ok (.iconst 0, 1) := by decide +kernel
theorem dX7_isSheet_14 : decode cX7_isSheet 14 = .ok (.ireturn, 1) := by decide +kernel
theorem dX7_isLane_0 : decode cX7_isLane 0 = .ok (.iload_n 0, 1) := by decide +kernel
theorem dX7_isLane_1 : decode cX7_isLane 1 = .ok (.ifCond .lt 12, 3) := by decide +kernel
theorem dX7_isLane_4 : decode cX7_isLane 4 = .ok (.iload_n 0, 1) := by decide +kernel
theorem dX7_isLane_5 : decode cX7_isLane 5 = .ok (.iconst 4, 1) := by decide +kernel
theorem dX7_isLane_6 : decode cX7_isLane 6 = .ok (.if_icmp .ge 7, 3) := by decide +kernel
theorem dX7_isLane_9 : decode cX7_isLane 9 = .ok (.iconst 1, 1) := by decide +kernel
theorem dX7_isLane_10 : decode cX7_isLane 10 = .ok (.goto 4, 3) := by decide +kernel
theorem dX7_isLane_13 : decode cX7_isLane 13 = .ok (.iconst 0, 1) := by decide +kernel
theorem dX7_isLane_14 : decode cX7_isLane 14 = .ok (.ireturn, 1) := by decide +kernel
set_option maxRecDepth 20000 in
theorem ggX7_arePairsTold_X7_isSheet : GoodIn wsX7_arePairsTold wsX7_isSheet := goodIn_r _ [4] (by decide +kernel) (by decide +kernel)
set_option maxRecDepth 20000 in
theorem gX7_arePairsTold_X7_isSheet : GoodIn wsX7_arePairsTold (va_wsS RX7 238 yX7_isSheet wsX7_isSheet) := goodIn_app (goodIn_of _ (by decide +kernel)) ggX7_arePairsTold_X7_isSheet
set_option maxRecDepth 20000 in
theorem ggX7_arePairsTold_X7_isLane : GoodIn wsX7_arePairsTold wsX7_isLane := goodIn_r _ [7] (by decide +kernel) (by decide +kernel)
set_option maxRecDepth 20000 in
theorem gX7_arePairsTold_X7_isLane : GoodIn wsX7_arePairsTold (va_wsS RX7 241 yX7_isLane wsX7_isLane) := goodIn_app (goodIn_of _ (by decide +kernel)) ggX7_arePairsTold_X7_isLane
theorem dX7_arePairsTold_0 : decode cX7_arePairsTold 0 = .ok (.iload_n 0, 1) := by decide +kernel
theorem dX7_arePairsTold_1 : decode cX7_arePairsTold 1 = .ok (.invokestatic 238, 3) := by decide +kernel
theorem dX7_arePairsTold_4 : decode cX7_arePairsTold 4 = .ok (.ifCond .eq 25, 3) := by decide +kernel
theorem dX7_arePairsTold_7 : decode cX7_arePairsTold 7 = .ok (.iload_n 1, 1) := by decide +kernel
theorem dX7_arePairsTold_8 : decode cX7_arePairsTold 8 = .ok (.invokestatic 241, 3) := by decide +kernel
theorem dX7_arePairsTold_11 : decode cX7_arePairsTold 11 = .ok (.ifCond .eq 18, 3) := by decide +kernel
theorem dX7_arePairsTold_14 : decode cX7_arePairsTold 14 = .ok (.iload_n 2, 1) := by decide +kernel
theorem dX7_arePairsTold_15 : decode cX7_arePairsTold 15 = .ok (.iconst 1, 1) := by decide +kernel
theorem dX7_arePairsTold_16 : decode cX7_arePairsTold 16 = .ok (.if_icmp .lt 13, 3) := by decide +kernel
theorem dX7_arePairsTold_19 : decode cX7_arePairsTold 19 = .ok (.iload_n 2, 1) := by decide +kernel
theorem dX7_arePairsTold_20 : decode cX7_arePairsTold 20 = .ok (.bipush 10, 2) := by decide +kernel
theorem dX7_arePairsTold_22 : decode cX7_arePairsTold 22 = .ok (.if_icmp .gt 7, 3) := by decide +kernel
theorem dX7_arePairsTold_25 : decode cX7_arePairsTold 25 = .ok (.iconst 1, 1) := by decide +kernel
theorem dX7_arePairsTold_26 : decode cX7_arePairsTold 26 = .ok (.goto 4, 3) := by decide +kernel
theorem dX7_arePairsTold_29 : decode cX7_arePairsTold 29 = .ok (.iconst 0, 1) := by decide +kernel
theorem dX7_arePairsTold_30 : decode cX7_arePairsTold 30 = .ok (.ireturn, 1) := by decide +kernel
theorem dX7_commonDivisor_0 : decode cX7_commonDivisor 0 = .ok (.iload_n 0, 1) := by decide +kernel
theorem dX7_commonDivisor_1 : decode cX7_commonDivisor 1 = .ok (.istore_n 2, 1) := by decide +kernel
theorem dX7_commonDivisor_2 : decode cX7_commonDivisor 2 = .ok (.iload_n 1, 1) := by decide +kernel
theorem dX7_commonDivisor_3 : decode cX7_commonDivisor 3 = .ok (.istore_n 3, 1) := by decide +kernel
theorem dX7_commonDivisor_4 : decode cX7_commonDivisor 4 = .ok (.iconst 0, 1) := by decide +kernel
theorem dX7_commonDivisor_5 : decode cX7_commonDivisor 5 = .ok (.istore 4, 2) := by decide +kernel
theorem dX7_commonDivisor_7 : decode cX7_commonDivisor 7 = .ok (.iload 4, 2) := by decide +kernel
theorem dX7_commonDivisor_9 : decode cX7_commonDivisor 9 = .ok (.bipush 100, 2) := by decide +kernel
theorem dX7_commonDivisor_11 : decode cX7_commonDivisor 11 = .ok (.if_icmp .ge 23, 3) := by decide +kernel
theorem dX7_commonDivisor_14 : decode cX7_commonDivisor 14 = .ok (.iload_n 3, 1) := by decide +kernel
theorem dX7_commonDivisor_15 : decode cX7_commonDivisor 15 = .ok (.ifCond .eq 19, 3) := by decide +kernel
theorem dX7_commonDivisor_18 : decode cX7_commonDivisor 18 = .ok (.iload_n 2, 1) := by decide +kernel
theorem dX7_commonDivisor_19 : decode cX7_commonDivisor 19 = .ok (.iload_n 3, 1) := by decide +kernel
theorem dX7_commonDivisor_20 : decode cX7_commonDivisor 20 = .ok (.irem, 1) := by decide +kernel
theorem dX7_commonDivisor_21 : decode cX7_commonDivisor 21 = .ok (.istore 5, 2) := by decide +kernel
theorem dX7_commonDivisor_23 : decode cX7_commonDivisor 23 = .ok (.iload_n 3, 1) := by decide +kernel
theorem dX7_commonDivisor_24 : decode cX7_commonDivisor 24 = .ok (.istore_n 2, 1) := by decide +kernel
theorem dX7_commonDivisor_25 : decode cX7_commonDivisor 25 = .ok (.iload 5, 2) := by decide +kernel
theorem dX7_commonDivisor_27 : decode cX7_commonDivisor 27 = .ok (.istore_n 3, 1) := by decide +kernel
theorem dX7_commonDivisor_28 : decode cX7_commonDivisor 28 = .ok (.iinc 4 1, 3) := by decide +kernel
theorem dX7_commonDivisor_31 : decode cX7_commonDivisor 31 = .ok (.goto (-24), 3) := by decide +kernel
theorem dX7_commonDivisor_34 : decode cX7_commonDivisor 34 = .ok (.iload_n 2, 1) := by decide +kernel
theorem dX7_commonDivisor_35 : decode cX7_commonDivisor 35 = .ok (.ireturn, 1) := by decide +kernel
set_option maxRecDepth 20000 in
theorem ggX7_hearInSpare_X1_become : GoodIn wsX7_hearInSpare wsX1_become := goodIn_r _ [8, 9, 10, 11, 12, 13, 14, 15, 16, 17, 18, 19, 20, 21, 22, 23, 24, 25, 26, 74, 75, 76, 77, 78, 79, 80, 81, 82, 83, 84, 85, 86, 87] (by decide +kernel) (by decide +kernel)
set_option maxRecDepth 20000 in
theorem gX7_hearInSpare_X1_become : GoodIn wsX7_hearInSpare (wsV RX7 177 RX1 yX1_become wsX1_become) := goodIn_app (goodIn_of _ (by decide +kernel)) ggX7_hearInSpare_X1_become
set_option maxRecDepth 20000 in
theorem ggX7_hearInSpare_X1_settle : GoodIn wsX7_hearInSpare wsX1_settle := goodIn_r _ [30, 26, 19, 18, 21, 15, 14, 31, 32, 33, 34, 20, 35, 36, 37, 9, 38, 39, 40, 7, 41, 16, 42, 43, 44, 45, 17, 46, 47, 48, 49, 50, 51, 52, 53, 54, 55, 56, 57, 23, 58, 59, 60, 61, 62, 63, 64, 65, 74, 75, 76, 77, 78, 79, 80, 81, 82, 83, 84, 85, 86, 87] (by decide +kernel) (by decide +kernel)
set_option maxRecDepth 20000 in
theorem gX7_hearInSpare_X1_settle : GoodIn wsX7_hearInSpare (wsV RX7 150 RX1 yX1_settle wsX1_settle) := goodIn_app (goodIn_of _ (by decide +kernel)) ggX7_hearInSpare_X1_settle
theorem dX7_hearInSpare_0 : decode cX7_hearInSpare 0 = .ok (.aload_n 0, 1) := by decide +kernel
theorem dX7_hearInSpare_1 : decode cX7_hearInSpare 1 = .ok (.getfield 55, 3) := by decide +kernel
theorem dX7_hearInSpare_4 : decode cX7_hearInSpare 4 = .ok (.aload_n 0, 1) := by decide +kernel
theorem dX7_hearInSpare_5 : decode cX7_hearInSpare 5 = .ok (.getfield 51, 3) := by decide +kernel
theorem dX7_hearInSpare_8 : decode cX7_hearInSpare 8 = .ok (.invokevirtual 177, 3) := by decide +kernel
theorem dX7_hearInSpare_11 : decode cX7_hearInSpare 11 = .ok (.iconst 0, 1) := by decide +kernel
theorem dX7_hearInSpare_12 : decode cX7_hearInSpare 12 = .ok (.istore_n 2, 1) := by decide +kernel
theorem dX7_hearInSpare_13 : decode cX7_hearInSpare 13 = .ok (.iload_n 2, 1) := by decide +kernel
theorem dX7_hearInSpare_14 : decode cX7_hearInSpare 14 = .ok (.iload_n 1, 1) := by decide +kernel
theorem dX7_hearInSpare_15 : decode cX7_hearInSpare 15 = .ok (.if_icmp .ge 26, 3) := by decide +kernel
theorem dX7_hearInSpare_18 : decode cX7_hearInSpare 18 = .ok (.aload_n 0, 1) := by decide +kernel
theorem dX7_hearInSpare_19 : decode cX7_hearInSpare 19 = .ok (.getfield 55, 3) := by decide +kernel
theorem dX7_hearInSpare_22 : decode cX7_hearInSpare 22 = .ok (.aload_n 0, 1) := by decide +kernel
theorem dX7_hearInSpare_23 : decode cX7_hearInSpare 23 = .ok (.getfield 51, 3) := by decide +kernel
theorem dX7_hearInSpare_26 : decode cX7_hearInSpare 26 = .ok (.getfield 132, 3) := by decide +kernel
theorem dX7_hearInSpare_29 : decode cX7_hearInSpare 29 = .ok (.iload_n 2, 1) := by decide +kernel
theorem dX7_hearInSpare_30 : decode cX7_hearInSpare 30 = .ok (.iadd, 1) := by decide +kernel
theorem dX7_hearInSpare_31 : decode cX7_hearInSpare 31 = .ok (.iconst 0, 1) := by decide +kernel
theorem dX7_hearInSpare_32 : decode cX7_hearInSpare 32 = .ok (.invokevirtual 150, 3) := by decide +kernel
theorem dX7_hearInSpare_35 : decode cX7_hearInSpare 35 = .ok (.iinc 2 1, 3) := by decide +kernel
theorem dX7_hearInSpare_38 : decode cX7_hearInSpare 38 = .ok (.goto (-25), 3) := by decide +kernel
theorem dX7_hearInSpare_41 : decode cX7_hearInSpare 41 = .ok (.return_, 1) := by decide +kernel
theorem dX8_init_0 : decode cX8_init 0 = .ok (.aload_n 0, 1) := by decide +kernel
theorem dX8_init_1 : decode cX8_init 1 = .ok (.invokespecial 1, 3) := by decide +kernel
theorem dX8_init_4 : decode cX8_init 4 = .ok (.aload_n 0, 1) := by decide +kernel
theorem dX8_init_5 : decode cX8_init 5 = .ok (.iconst 4, 1) := by decide +kernel
theorem dX8_init_6 : decode cX8_init 6 = .ok (.newarray .int, 2) := by decide +kernel
theorem dX8_init_8 : decode cX8_init 8 = .ok (.putfield 7, 3) := by decide +kernel
theorem dX8_init_11 : decode cX8_init 11 = .ok (.aload_n 0, 1) := by decide +kernel
theorem dX8_init_12 : decode cX8_init 12 = .ok (.iconst 4, 1) := by decide +kernel
theorem dX8_init_13 : decode cX8_init 13 = .ok (.newarray .int, 2) := by decide +kernel
theorem dX8_init_15 : decode cX8_init 15 = .ok (.putfield 13, 3) := by decide +kernel
theorem dX8_init_18 : decode cX8_init 18 = .ok (.aload_n 0, 1) := by decide +kernel
theorem dX8_init_19 : decode cX8_init 19 = .ok (.bipush 96, 2) := by decide +kernel
theorem dX8_init_21 : decode cX8_init 21 = .ok (.newarray .long, 2) := by decide +kernel
theorem dX8_init_23 : decode cX8_init 23 = .ok (.putfield 16, 3) := by decide +kernel
theorem dX8_init_26 : decode cX8_init 26 = .ok (.aload_n 0, 1) := by decide +kernel
theorem dX8_init_27 : decode cX8_init 27 = .ok (.sipush 130, 3) := by decide +kernel
theorem dX8_init_30 : decode cX8_init 30 = .ok (.newarray .int, 2) := by decide +kernel
theorem dX8_init_32 : decode cX8_init 32 = .ok (.putfield 20, 3) := by decide +kernel
theorem dX8_init_35 : decode cX8_init 35 = .ok (.aload_n 0, 1) := by decide +kernel
theorem dX8_init_36 : decode cX8_init 36 = .ok (.bipush 83, 2) := by decide +kernel
theorem dX8_init_38 : decode cX8_init 38 = .ok (.newarray .int, 2) := by decide +kernel
theorem dX8_init_40 : decode cX8_init 40 = .ok (.putfield 23, 3) := by decide +kernel
theorem dX8_init_43 : decode cX8_init 43 = .ok (.aload_n 0, 1) := by decide +kernel
theorem dX8_init_44 : decode cX8_init 44 = .ok (.bipush 83, 2) := by decide +kernel
theorem dX8_init_46 : decode cX8_init 46 = .ok (.newarray .int, 2) := by decide +kernel
theorem dX8_init_48 : decode cX8_init 48 = .ok (.putfield 26, 3) := by decide +kernel
theorem dX8_init_51 : decode cX8_init 51 = .ok (.aload_n 0, 1) := by decide +kernel
theorem dX8_init_52 : decode cX8_init 52 = .ok (.bipush 83, 2) := by decide +kernel
theorem dX8_init_54 : decode cX8_init 54 = .ok (.newarray .int, 2) := by decide +kernel
theorem dX8_init_56 : decode cX8_init 56 = .ok (.putfield 29, 3) := by decide +kernel
theorem dX8_init_59 : decode cX8_init 59 = .ok (.aload_n 0, 1) := by decide +kernel
theorem dX8_init_60 : decode cX8_init 60 = .ok (.sipush 166, 3) := by decide +kernel
theorem dX8_init_63 : decode cX8_init 63 = .ok (.newarray .int, 2) := by decide +kernel
theorem dX8_init_65 : decode cX8_init 65 = .ok (.putfield 32, 3) := by decide +kernel
theorem dX8_init_68 : decode cX8_init 68 = .ok (.aload_n 0, 1) := by decide +kernel
theorem dX8_init_69 : decode cX8_init 69 = .ok (.iconst 2, 1) := by decide +kernel
theorem dX8_init_70 : decode cX8_init 70 = .ok (.newarray .boolean, 2) := by decide +kernel
theorem dX8_init_72 : decode cX8_init 72 = .ok (.putfield 35, 3) := by decide +kernel
theorem dX8_init_75 : decode cX8_init 75 = .ok (.aload_n 0, 1) := by decide +kernel
theorem dX8_init_76 : decode cX8_init 76 = .ok (.sipush 1992, 3) := by decide +kernel
theorem dX8_init_79 : decode cX8_init 79 = .ok (.newarray .int, 2) := by decide +kernel
theorem dX8_init_81 : decode cX8_init 81 = .ok (.putfield 39, 3) := by decide +kernel
theorem dX8_init_84 : decode cX8_init 84 = .ok (.aload_n 0, 1) := by decide +kernel
theorem dX8_init_85 : decode cX8_init 85 = .ok (.sipush 6561, 3) := by decide +kernel
theorem dX8_init_88 : decode cX8_init 88 = .ok (.newarray .int, 2) := by decide +kernel
theorem dX8_init_90 : decode cX8_init 90 = .ok (.putfield 42, 3) := by decide +kernel
theorem dX8_init_93 : decode cX8_init 93 = .ok (.aload_n 0, 1) := by decide +kernel
theorem dX8_init_94 : decode cX8_init 94 = .ok (.bipush 6, 2) := by decide +kernel
theorem dX8_init_96 : decode cX8_init 96 = .ok (.newarray .int, 2) := by decide +kernel
theorem dX8_init_98 : decode cX8_init 98 = .ok (.putfield 45, 3) := by decide +kernel
theorem dX8_init_101 : decode cX8_init 101 = .ok (.aload_n 0, 1) := by decide +kernel
theorem dX8_init_102 : decode cX8_init 102 = .ok (.bipush 6, 2) := by decide +kernel
theorem dX8_init_104 : decode cX8_init 104 = .ok (.newarray .int, 2) := by decide +kernel
theorem dX8_init_106 : decode cX8_init 106 = .ok (.putfield 48, 3) := by decide +kernel
theorem dX8_init_109 : decode cX8_init 109 = .ok (.aload_n 0, 1) := by decide +kernel
theorem dX8_init_110 : decode cX8_init 110 = .ok (.sipush 2646, 3) := by decide +kernel
theorem dX8_init_113 : decode cX8_init 113 = .ok (.newarray .int, 2) := by decide +kernel
theorem dX8_init_115 : decode cX8_init 115 = .ok (.putfield 51, 3) := by decide +kernel
theorem dX8_init_118 : decode cX8_init 118 = .ok (.aload_n 0, 1) := by decide +kernel
theorem dX8_init_119 : decode cX8_init 119 = .ok (.bipush 6, 2) := by decide +kernel
theorem dX8_init_121 : decode cX8_init 121 = .ok (.newarray .int, 2) := by decide +kernel
theorem dX8_init_123 : decode cX8_init 123 = .ok (.putfield 54, 3) := by decide +kernel
theorem dX8_init_126 : decode cX8_init 126 = .ok (.aload_n 0, 1) := by decide +kernel
theorem dX8_init_127 : decode cX8_init 127 = .ok (.bipush 6, 2) := by decide +kernel
theorem dX8_init_129 : decode cX8_init 129 = .ok (.newarray .int, 2) := by decide +kernel
theorem dX8_init_131 : decode cX8_init 131 = .ok (.putfield 57, 3) := by decide +kernel
theorem dX8_init_134 : decode cX8_init 134 = .ok (.iconst 0, 1) := by decide +kernel
theorem dX8_init_135 : decode cX8_init 135 = .ok (.istore_n 1, 1) := by decide +kernel
theorem dX8_init_136 : decode cX8_init 136 = .ok (.iload_n 1, 1) := by decide +kernel
theorem dX8_init_137 : decode cX8_init 137 = .ok (.iconst 4, 1) := by decide +kernel
theorem dX8_init_138 : decode cX8_init 138 = .ok (.if_icmp .ge 16, 3) := by decide +kernel
theorem dX8_init_141 : decode cX8_init 141 = .ok (.aload_n 0, 1) := by decide +kernel
theorem dX8_init_142 : decode cX8_init 142 = .ok (.getfield 7, 3) := by decide +kernel
theorem dX8_init_145 : decode cX8_init 145 = .ok (.iload_n 1, 1) := by decide +kernel
theorem dX8_init_146 : decode cX8_init 146 = .ok (.iconst (-1), 1) := by decide +kernel
theorem dX8_init_147 : decode cX8_init 147 = .ok (.iastore, 1) := by decide +kernel
theorem dX8_init_148 : decode cX8_init 148 = .ok (.iinc 1 1, 3) := by decide +kernel
theorem dX8_init_151 : decode cX8_init 151 = .ok (.goto (-15), 3) := by decide +kernel
theorem dX8_init_154 : decode cX8_init 154 = .ok (.aload_n 0, 1) := by decide +kernel
theorem dX8_init_155 : decode cX8_init 155 = .ok (.getfield 23, 3) := by decide +kernel
theorem dX8_init_158 : decode cX8_init 158 = .ok (.iconst 1, 1) := by decide +kernel
theorem dX8_init_159 : decode cX8_init 159 = .ok (.bipush (-4), 2) := by decide +kernel
theorem dX8_init_161 : decode cX8_init 161 = .ok (.iastore, 1) := by decide +kernel
theorem dX8_init_162 : decode cX8_init 162 = .ok (.return_, 1) := by decide +kernel
theorem dX8_in_0 : decode cX8_in 0 = .ok (.iload_n 0, 1) := by decide +kernel
theorem dX8_in_1 : decode cX8_in 1 = .ok (.iload_n 1, 1) := by decide +kernel
theorem dX8_in_2 : decode cX8_in 2 = .ok (.if_icmp .lt 12, 3) := by decide +kernel
theorem dX8_in_5 : decode cX8_in 5 = .ok (.iload_n 0, 1) := by decide +kernel
theorem dX8_in_6 : decode cX8_in 6 = .ok (.iload_n 2, 1) := by decide +kernel
theorem dX8_in_7 : decode cX8_in 7 = .ok (.if_icmp .gt 7, 3) := by decide +kernel
theorem dX8_in_10 : decode cX8_in 10 = .ok (.iconst 1, 1) := by decide +kernel
theorem dX8_in_11 : decode cX8_in 11 = .ok (.goto 4, 3) := by decide +kernel
theorem dX8_in_14 : decode cX8_in 14 = .ok (.iconst 0, 1) := by decide +kernel
theorem dX8_in_15 : decode cX8_in 15 = .ok (.ireturn, 1) := by decide +kernel
theorem dX8_has_0 : decode cX8_has 0 = .ok (.iload_n 0, 1) := by decide +kernel
theorem dX8_has_1 : decode cX8_has 1 = .ok (.iload_n 1, 1) := by decide +kernel
theorem dX8_has_2 : decode cX8_has 2 = .ok (.ishr, 1) := by decide +kernel
theorem dX8_has_3 : decode cX8_has 3 = .ok (.iconst 1, 1) := by decide +kernel
theorem dX8_has_4 : decode cX8_has 4 = .ok (.iand, 1) := by decide +kernel
theorem dX8_has_5 : decode cX8_has 5 = .ok (.iconst 1, 1) := by decide +kernel
theorem dX8_has_6 : decode cX8_has 6 = .ok (.if_icmp .ne 7, 3) := by decide +kernel
theorem dX8_has_9 : decode cX8_has 9 = .ok (.iconst 1, 1) := by decide +kernel
theorem dX8_has_10 : decode cX8_has 10 = .ok (.goto 4, 3) := by decide +kernel
theorem dX8_has_13 : decode cX8_has 13 = .ok (.iconst 0, 1) := by decide +kernel
theorem dX8_has_14 : decode cX8_has 14 = .ok (.ireturn, 1) := by decide +kernel
theorem dX8_bits_0 : decode cX8_bits 0 = .ok (.iconst 0, 1) := by decide +kernel
theorem dX8_bits_1 : decode cX8_bits 1 = .ok (.istore_n 1, 1) := by decide +kernel
theorem dX8_bits_2 : decode cX8_bits 2 = .ok (.iconst 0, 1) := by decide +kernel
theorem dX8_bits_3 : decode cX8_bits 3 = .ok (.istore_n 2, 1) := by decide +kernel
theorem dX8_bits_4 : decode cX8_bits 4 = .ok (.iload_n 2, 1) := by decide +kernel
theorem dX8_bits_5 : decode cX8_bits 5 = .ok (.bipush 12, 2) := by decide +kernel
theorem dX8_bits_7 : decode cX8_bits 7 = .ok (.if_icmp .ge 17, 3) := by decide +kernel
theorem dX8_bits_10 : decode cX8_bits 10 = .ok (.iload_n 1, 1) := by decide +kernel
theorem dX8_bits_11 : decode cX8_bits 11 = .ok (.iload_n 0, 1) := by decide +kernel
theorem dX8_bits_12 : decode cX8_bits 12 = .ok (.iload_n 2, 1) := by decide +kernel
theorem dX8_bits_13 : decode cX8_bits 13 = .ok (.ishr, 1) := by decide +kernel
theorem dX8_bits_14 : decode cX8_bits 14 = .ok (.iconst 1, 1) := by decide +kernel
theorem dX8_bits_15 : decode cX8_bits 15 = .ok (.iand, 1) := by decide +kernel
theorem dX8_bits_16 : decode cX8_bits 16 = .ok (.iadd, 1) := by decide +kernel
theorem dX8_bits_17 : decode cX8_bits 17 = .ok (.istore_n 1, 1) := by decide +kernel
theorem dX8_bits_18 : decode cX8_bits 18 = .ok (.iinc 2 1, 3) := by decide +kernel
theorem dX8_bits_21 : decode cX8_bits 21 = .ok (.goto (-17), 3) := by decide +kernel
theorem dX8_bits_24 : decode cX8_bits 24 = .ok (.iload_n 1, 1) := by decide +kernel
theorem dX8_bits_25 : decode cX8_bits 25 = .ok (.ireturn, 1) := by decide +kernel
theorem dX8_bring_0 : decode cX8_bring 0 = .ok (.iconst 0, 1) := by decide +kernel
theorem dX8_bring_1 : decode cX8_bring 1 = .ok (.istore 5, 2) := by decide +kernel
theorem dX8_bring_3 : decode cX8_bring 3 = .ok (.iload 5, 2) := by decide +kernel
theorem dX8_bring_5 : decode cX8_bring 5 = .ok (.iload 4, 2) := by decide +kernel
theorem dX8_bring_7 : decode cX8_bring 7 = .ok (.if_icmp .ge 21, 3) := by decide +kernel
theorem dX8_bring_10 : decode cX8_bring 10 = .ok (.aload_n 2, 1) := by decide +kernel
theorem dX8_bring_11 : decode cX8_bring 11 = .ok (.iload_n 3, 1) := by decide +kernel
theorem dX8_bring_12 : decode cX8_bring 12 = .ok (.iload 5, 2) := by decide +kernel
theorem dX8_bring_14 : decode cX8_bring 14 = .ok (.iadd, 1) := by decide +kernel
theorem dX8_bring_15 : decode cX8_bring 15 = .ok (.aload_n 0, 1) := by decide +kernel
theorem dX8_bring_16 : decode cX8_bring 16 = .ok (.iload_n 1, 1) := by decide +kernel
theorem dX8_bring_17 : decode cX8_bring 17 = .ok (.iload 5, 2) := by decide +kernel
theorem dX8_bring_19 : decode cX8_bring 19 = .ok (.iadd, 1) := by decide +kernel
theorem dX8_bring_20 : decode cX8_bring 20 = .ok (.iaload, 1) := by decide +kernel
theorem dX8_bring_21 : decode cX8_bring 21 = .ok (.iastore, 1) := by decide +kernel
theorem dX8_bring_22 : decode cX8_bring 22 = .ok (.iinc 5 1, 3) := by decide +kernel
theorem dX8_bring_25 : decode cX8_bring 25 = .ok (.goto (-22), 3) := by decide +kernel
theorem dX8_bring_28 : decode cX8_bring 28 = .ok (.return_, 1) := by decide +kernel
theorem dX8_isThere_0 : decode cX8_isThere 0 = .ok (.aload_n 0, 1) := by decide +kernel
theorem dX8_isThere_1 : decode cX8_isThere 1 = .ok (.getfield 23, 3) := by decide +kernel
theorem dX8_isThere_4 : decode cX8_isThere 4 = .ok (.iconst 2, 1) := by decide +kernel
theorem dX8_isThere_5 : decode cX8_isThere 5 = .ok (.iaload, 1) := by decide +kernel
theorem dX8_isThere_6 : decode cX8_isThere 6 = .ok (.ifCond .le 7, 3) := by decide +kernel
theorem dX8_isThere_9 : decode cX8_isThere 9 = .ok (.iconst 1, 1) := by decide +kernel
theorem dX8_isThere_10 : decode cX8_isThere 10 = .ok (.goto 4, 3) := by decide +kernel
theorem dX8_isThere_13 : decode cX8_isThere 13 = .ok (.iconst 0, 1) := by decide +kernel
theorem dX8_isThere_14 : decode cX8_isThere 14 = .ok (.ireturn, 1) := by decide +kernel
set_option maxRecDepth 20000 in
theorem ggX8_isParty_X8_in : GoodIn wsX8_isParty wsX8_in := goodIn_r _ [5] (by decide +kernel) (by decide +kernel)
set_option maxRecDepth 20000 in
theorem gX8_isParty_X8_in : GoodIn wsX8_isParty (va_wsS RX8 60 yX8_in wsX8_in) := goodIn_app (goodIn_of _ (by decide +kernel)) ggX8_isParty_X8_in
theorem dX8_isParty_0 : decode cX8_isParty 0 = .ok (.iload_n 1, 1) := by decide +kernel
theorem dX8_isParty_1 : decode cX8_isParty 1 = .ok (.iconst 0, 1) := by decide +kernel
theorem dX8_isParty_2 : decode cX8_isParty 2 = .ok (.aload_n 0, 1) := by decide +kernel
theorem dX8_isParty_3 : decode cX8_isParty 3 = .ok (.getfield 23, 3) := by decide +kernel
theorem dX8_isParty_6 : decode cX8_isParty 6 = .ok (.iconst 2, 1) := by decide +kernel
theorem dX8_isParty_7 : decode cX8_isParty 7 = .ok (.iaload, 1) := by decide +kernel
theorem dX8_isParty_8 : decode cX8_isParty 8 = .ok (.iconst 1, 1) := by decide +kernel
theorem dX8_isParty_9 : decode cX8_isParty 9 = .ok (.isub, 1) := by decide +kernel
theorem dX8_isParty_10 : decode cX8_isParty 10 = .ok (.invokestatic 60, 3) := by decide +kernel
theorem dX8_isParty_13 : decode cX8_isParty 13 = .ok (.ireturn, 1) := by decide +kernel
set_option maxRecDepth 20000 in
theorem ggX8_isJudge_X8_in : GoodIn wsX8_isJudge wsX8_in := goodIn_r _ [5] (by decide +kernel) (by decide +kernel)
set_option maxRecDepth 20000 in
theorem gX8_isJudge_X8_in : GoodIn wsX8_isJudge (va_wsS RX8 60 yX8_in wsX8_in) := goodIn_app (goodIn_of _ (by decide +kernel)) ggX8_isJudge_X8_in
theorem dX8_isJudge_0 : decode cX8_isJudge 0 = .ok (.iload_n 1, 1) := by decide +kernel
theorem dX8_isJudge_1 : decode cX8_isJudge 1 = .ok (.iconst 0, 1) := by decide +kernel
theorem dX8_isJudge_2 : decode cX8_isJudge 2 = .ok (.aload_n 0, 1) := by decide +kernel
theorem dX8_isJudge_3 : decode cX8_isJudge 3 = .ok (.getfield 23, 3) := by decide +kernel
theorem dX8_isJudge_6 : decode cX8_isJudge 6 = .ok (.iconst 3, 1) := by decide +kernel
theorem dX8_isJudge_7 : decode cX8_isJudge 7 = .ok (.iaload, 1) := by decide +kernel
theorem dX8_isJudge_8 : decode cX8_isJudge 8 = .ok (.iconst 1, 1) := by decide +kernel
theorem dX8_isJudge_9 : decode cX8_isJudge 9 = .ok (.isub, 1) := by decide +kernel
theorem dX8_isJudge_10 : decode cX8_isJudge 10 = .ok (.invokestatic 60, 3) := by decide +kernel
theorem dX8_isJudge_13 : decode cX8_isJudge 13 = .ok (.ireturn, 1) := by decide +kernel
set_option maxRecDepth 20000 in
theorem ggX8_isCase_X8_in : GoodIn wsX8_isCase wsX8_in := goodIn_r _ [5] (by decide +kernel) (by decide +kernel)
set_option maxRecDepth 20000 in
theorem gX8_isCase_X8_in : GoodIn wsX8_isCase (va_wsS RX8 60 yX8_in wsX8_in) := goodIn_app (goodIn_of _ (by decide +kernel)) ggX8_isCase_X8_in
theorem dX8_isCase_0 : decode cX8_isCase 0 = .ok (.iload_n 1, 1) := by decide +kernel
theorem dX8_isCase_1 : decode cX8_isCase 1 = .ok (.iconst 0, 1) := by decide +kernel
theorem dX8_isCase_2 : decode cX8_isCase 2 = .ok (.aload_n 0, 1) := by decide +kernel
theorem dX8_isCase_3 : decode cX8_isCase 3 = .ok (.getfield 23, 3) := by decide +kernel
theorem dX8_isCase_6 : decode cX8_isCase 6 = .ok (.iconst 4, 1) := by decide +kernel
theorem dX8_isCase_7 : decode cX8_isCase 7 = .ok (.iaload, 1) := by decide +kernel
theorem dX8_isCase_8 : decode cX8_isCase 8 = .ok (.iconst 1, 1) := by decide +kernel
theorem dX8_isCase_9 : decode cX8_isCase 9 = .ok (.isub, 1) := by decide +kernel
theorem dX8_isCase_10 : decode cX8_isCase 10 = .ok (.invokestatic 60, 3) := by decide +kernel
theorem dX8_isCase_13 : decode cX8_isCase 13 = .ok (.ireturn, 1) := by decide +kernel
set_option maxRecDepth 20000 in
theorem ggX8_feed_X8_in : GoodIn wsX8_feed wsX8_in := goodIn_r _ [6] (by decide +kernel) (by decide +kernel)
set_option maxRecDepth 20000 in
theorem gX8_feed_X8_in : GoodIn wsX8_feed (va_wsS RX8 60 yX8_in wsX8_in) := goodIn_app (goodIn_of _ (by decide +kernel)) ggX8_feed_X8_in
theorem dX8_feed_0 : decode cX8_feed 0 = .ok (.iload_n 1, 1) := by decide +kernel
theorem dX8_feed_1 : decode cX8_feed 1 = .ok (.iconst 0, 1) := by decide +kernel
theorem dX8_feed_2 : decode cX8_feed 2 = .ok (.sipush 255, 3) := by decide +kernel
theorem dX8_feed_5 : decode cX8_feed 5 = .ok (.invokestatic 60, 3) := by decide +kernel
theorem dX8_feed_8 : decode cX8_feed 8 = .ok (.ifCond .ne 5, 3) := by decide +kernel
theorem dX8_feed_11 : decode cX8_feed 11 = .ok (.iconst (-1), 1) := by decide +kernel
theorem dX8_feed_12 : decode cX8_feed 12 = .ok (.ireturn, 1) := by decide +kernel
theorem dX8_feed_13 : decode cX8_feed 13 = .ok (.aload_n 0, 1) := by decide +kernel
theorem dX8_feed_14 : decode cX8_feed 14 = .ok (.getfield 64, 3) := by decide +kernel
theorem dX8_feed_17 : decode cX8_feed 17 = .ok (.sipush 130, 3) := by decide +kernel
theorem dX8_feed_20 : decode cX8_feed 20 = .ok (.if_icmp .ne 6, 3) := by decide +kernel
theorem dX8_feed_23 : decode cX8_feed 23 = .ok (.bipush (-3), 2) := by decide +kernel
theorem dX8_feed_25 : decode cX8_feed 25 = .ok (.ireturn, 1) := by decide +kernel
theorem dX8_feed_26 : decode cX8_feed 26 = .ok (.aload_n 0, 1) := by decide +kernel
theorem dX8_feed_27 : decode cX8_feed 27 = .ok (.getfield 20, 3) := by decide +kernel
theorem dX8_feed_30 : decode cX8_feed 30 = .ok (.aload_n 0, 1) := by decide +kernel
theorem dX8_feed_31 : decode cX8_feed 31 = .ok (.getfield 64, 3) := by decide +kernel
theorem dX8_feed_34 : decode cX8_feed 34 = .ok (.iload_n 1, 1) := by decide +kernel
theorem dX8_feed_35 : decode cX8_feed 35 = .ok (.iastore, 1) := by decide +kernel
theorem dX8_feed_36 : decode cX8_feed 36 = .ok (.aload_n 0, 1) := by decide +kernel
theorem dX8_feed_37 : decode cX8_feed 37 = .ok (.dup, 1) := by decide +kernel
theorem dX8_feed_38 : decode cX8_feed 38 = .ok (.getfield 64, 3) := by decide +kernel
theorem dX8_feed_41 : decode cX8_feed 41 = .ok (.iconst 1, 1) := by decide +kernel
theorem dX8_feed_42 : decode cX8_feed 42 = .ok (.iadd, 1) := by decide +kernel
theorem dX8_feed_43 : decode cX8_feed 43 = .ok (.putfield 64, 3) := by decide +kernel
theorem dX8_feed_46 : decode cX8_feed 46 = .ok (.aload_n 0, 1) := by decide +kernel
theorem dX8_feed_47 : decode cX8_feed 47 = .ok (.getfield 64, 3) := by decide +kernel
theorem dX8_feed_50 : decode cX8_feed 50 = .ok (.ireturn, 1) := by decide +kernel
theorem dX8_peek_0 : decode cX8_peek 0 = .ok (.aload_n 0, 1) := by decide +kernel
theorem dX8_peek_1 : decode cX8_peek 1 = .ok (.getfield 68, 3) := by decide +kernel
theorem dX8_peek_4 : decode cX8_peek 4 = .ok (.aload_n 0, 1) := by decide +kernel
theorem dX8_peek_5 : decode cX8_peek 5 = .ok (.getfield 64, 3) := by decide +kernel
theorem dX8_peek_8 : decode cX8_peek 8 = .ok (.if_icmp .ge 15, 3) := by decide +kernel
theorem dX8_peek_11 : decode cX8_peek 11 = .ok (.aload_n 0, 1) := by decide +kernel
theorem dX8_peek_12 : decode cX8_peek 12 = .ok (.getfield 20, 3) := by decide +kernel
theorem dX8_peek_15 : decode cX8_peek 15 = .ok (.aload_n 0, 1) := by decide +kernel
theorem dX8_peek_16 : decode cX8_peek 16 = .ok (.getfield 68, 3) := by decide +kernel
theorem dX8_peek_19 : decode cX8_peek 19 = .ok (.iaload, 1) := by decide +kernel
theorem dX8_peek_20 : decode cX8_peek 20 = .ok (.goto 4, 3) := by decide +kernel
theorem dX8_peek_23 : decode cX8_peek 23 = .ok (.iconst (-1), 1) := by decide +kernel
theorem dX8_peek_24 : decode cX8_peek 24 = .ok (.ireturn, 1) := by decide +kernel
set_option maxRecDepth 20000 in
theorem ggX8_isSign_X8_peek : GoodIn wsX8_isSign wsX8_peek := goodIn_r _ [6, 1, 7, 8, 9, 10, 11, 12, 13, 14, 15, 16, 17, 18, 19, 20, 21, 22, 23, 24, 25, 26, 27, 28, 29, 30] (by decide +kernel) (by decide +kernel)
set_option maxRecDepth 20000 in
theorem gX8_isSign_X8_peek : GoodIn wsX8_isSign (wsV RX8 71 RX8 yX8_peek wsX8_peek) := goodIn_app (goodIn_of _ (by decide +kernel)) ggX8_isSign_X8_peek
theorem dX8_isSign_0 : decode cX8_isSign 0 = .ok (.aload_n 0, 1) := by decide +kernel
theorem dX8_isSign_1 : decode cX8_isSign 1 = .ok (.invokevirtual 71, 3) := by decide +kernel
theorem dX8_isSign_4 : decode cX8_isSign 4 = .ok (.iload_n 1, 1) := by decide +kernel
theorem dX8_isSign_5 : decode cX8_isSign 5 = .ok (.if_icmp .eq 5, 3) := by decide +kernel
theorem dX8_isSign_8 : decode cX8_isSign 8 = .ok (.iconst 0, 1) := by decide +kernel
theorem dX8_isSign_9 : decode cX8_isSign 9 = .ok (.ireturn, 1) := by decide +kernel
theorem dX8_isSign_10 : decode cX8_isSign 10 = .ok (.aload_n 0, 1) := by decide +kernel
theorem dX8_isSign_11 : decode cX8_isSign 11 = .ok (.dup, 1) := by decide +kernel
theorem dX8_isSign_12 : decode cX8_isSign 12 = .ok (.getfield 68, 3) := by decide +kernel
theorem dX8_isSign_15 : decode cX8_isSign 15 = .ok (.iconst 1, 1) := by decide +kernel
theorem dX8_isSign_16 : decode cX8_isSign 16 = .ok (.iadd, 1) := by decide +kernel
theorem dX8_isSign_17 : decode cX8_isSign 17 = .ok (.putfield 68, 3) := by decide +kernel
theorem dX8_isSign_20 : decode cX8_isSign 20 = .ok (.iconst 1, 1) := by decide +kernel
theorem dX8_isSign_21 : decode cX8_isSign 21 = .ok (.ireturn, 1) := by decide +kernel
theorem dX8_kindBy_0 : decode cX8_kindBy 0 = .ok (.iload_n 0, 1) := by decide +kernel
theorem dX8_kindBy_1 : decode cX8_kindBy 1 = .ok (.bipush 112, 2) := by decide +kernel
theorem dX8_kindBy_3 : decode cX8_kindBy 3 = .ok (.if_icmp .ne 7, 3) := by decide +kernel
theorem dX8_kindBy_6 : decode cX8_kindBy 6 = .ok (.iconst 1, 1) := by decide +kernel
theorem dX8_kindBy_7 : decode cX8_kindBy 7 = .ok (.goto 44, 3) := by decide +kernel
theorem dX8_kindBy_10 : decode cX8_kindBy 10 = .ok (.iload_n 0, 1) := by decide +kernel
theorem dX8_kindBy_11 : decode cX8_kindBy 11 = .ok (.bipush 98, 2) := by decide +kernel
theorem dX8_kindBy_13 : decode cX8_kindBy 13 = .ok (.if_icmp .ne 7, 3) := by decide +kernel
theorem dX8_kindBy_16 : decode cX8_kindBy 16 = .ok (.iconst 2, 1) := by decide +kernel
theorem dX8_kindBy_17 : decode cX8_kindBy 17 = .ok (.goto 34, 3) := by decide +kernel
theorem dX8_kindBy_20 : decode cX8_kindBy 20 = .ok (.iload_n 0, 1) := by decide +kernel
theorem dX8_kindBy_21 : decode cX8_kindBy 21 = .ok (.bipush 115, 2) := by decide +kernel
theorem dX8_kindBy_23 : decode cX8_kindBy 23 = .ok (.if_icmp .ne 7, 3) := by decide +kernel
theorem dX8_kindBy_26 : decode cX8_kindBy 26 = .ok (.iconst 3, 1) := by decide +kernel
theorem dX8_kindBy_27 : decode cX8_kindBy 27 = .ok (.goto 24, 3) := by decide +kernel
theorem dX8_kindBy_30 : decode cX8_kindBy 30 = .ok (.iload_n 0, 1) := by decide +kernel
theorem dX8_kindBy_31 : decode cX8_kindBy 31 = .ok (.bipush 108, 2) := by decide +kernel
theorem dX8_kindBy_33 : decode cX8_kindBy 33 = .ok (.if_icmp .ne 7, 3) := by decide +kernel
theorem dX8_kindBy_36 : decode cX8_kindBy 36 = .ok (.iconst 4, 1) := by decide +kernel
theorem dX8_kindBy_37 : decode cX8_kindBy 37 = .ok (.goto 14, 3) := by decide +kernel
theorem dX8_kindBy_40 : decode cX8_kindBy 40 = .ok (.iload_n 0, 1) := by decide +kernel
theorem dX8_kindBy_41 : decode cX8_kindBy 41 = .ok (.bipush 102, 2) := by decide +kernel
theorem dX8_kindBy_43 : decode cX8_kindBy 43 = .ok (.if_icmp .ne 7, 3) := by decide +kernel
theorem dX8_kindBy_46 : decode cX8_kindBy 46 = .ok (.iconst 5, 1) := by decide +kernel
theorem dX8_kindBy_47 : decode cX8_kindBy 47 = .ok (.goto 4, 3) := by decide +kernel
theorem dX8_kindBy_50 : decode cX8_kindBy 50 = .ok (.iconst 0, 1) := by decide +kernel
theorem dX8_kindBy_51 : decode cX8_kindBy 51 = .ok (.ireturn, 1) := by decide +kernel
set_option maxRecDepth 20000 in
theorem ggX8_figure_X8_peek : GoodIn wsX8_figure wsX8_peek := goodIn_r _ [6, 1, 7, 8, 12, 13, 14, 15, 16, 17, 18, 19, 20, 21, 22, 23, 24, 25, 26, 27, 28, 29, 30, 31, 32, 33] (by decide +kernel) (by decide +kernel)
set_option maxRecDepth 20000 in
theorem gX8_figure_X8_peek : GoodIn wsX8_figure (wsV RX8 71 RX8 yX8_peek wsX8_peek) := goodIn_app (goodIn_of _ (by decide +kernel)) ggX8_figure_X8_peek
set_option maxRecDepth 20000 in
theorem ggX8_figure_X8_in : GoodIn wsX8_figure wsX8_in := goodIn_r _ [11] (by decide +kernel) (by decide +kernel)
set_option maxRecDepth 20000 in
theorem gX8_figure_X8_in : GoodIn wsX8_figure (va_wsS RX8 60 yX8_in wsX8_in) := goodIn_app (goodIn_of _ (by decide +kernel)) ggX8_figure_X8_in
theorem dX8_figure_0 : decode cX8_figure 0 = .ok (.aload_n 0, 1) := by decide +kernel
theorem dX8_figure_1 : decode cX8_figure 1 = .ok (.invokevirtual 71, 3) := by decide +kernel
theorem dX8_figure_4 : decode cX8_figure 4 = .ok (.bipush 48, 2) := by decide +kernel
theorem dX8_figure_6 : decode cX8_figure 6 = .ok (.isub, 1) := by decide +kernel
theorem dX8_figure_7 : decode cX8_figure 7 = .ok (.istore_n 2, 1) := by decide +kernel
theorem dX8_figure_8 : decode cX8_figure 8 = .ok (.iload_n 2, 1) := by decide +kernel
theorem dX8_figure_9 : decode cX8_figure 9 = .ok (.iconst 0, 1) := by decide +kernel
theorem dX8_figure_10 : decode cX8_figure 10 = .ok (.iload_n 1, 1) := by decide +kernel
theorem dX8_figure_11 : decode cX8_figure 11 = .ok (.invokestatic 60, 3) := by decide +kernel
theorem dX8_figure_14 : decode cX8_figure 14 = .ok (.ifCond .ne 5, 3) := by decide +kernel
theorem dX8_figure_17 : decode cX8_figure 17 = .ok (.iconst (-1), 1) := by decide +kernel
theorem dX8_figure_18 : decode cX8_figure 18 = .ok (.ireturn, 1) := by decide +kernel
theorem dX8_figure_19 : decode cX8_figure 19 = .ok (.aload_n 0, 1) := by decide +kernel
theorem dX8_figure_20 : decode cX8_figure 20 = .ok (.dup, 1) := by decide +kernel
theorem dX8_figure_21 : decode cX8_figure 21 = .ok (.getfield 68, 3) := by decide +kernel
theorem dX8_figure_24 : decode cX8_figure 24 = .ok (.iconst 1, 1) := by decide +kernel
theorem dX8_figure_25 : decode cX8_figure 25 = .ok (.iadd, 1) := by decide +kernel
theorem dX8_figure_26 : decode cX8_figure 26 = .ok (.putfield 68, 3) := by decide +kernel
theorem dX8_figure_29 : decode cX8_figure 29 = .ok (.iload_n 2, 1) := by decide +kernel
theorem dX8_figure_30 : decode cX8_figure 30 = .ok (.ireturn, 1) := by decide +kernel
set_option maxRecDepth 20000 in
theorem ggX8_isPartyItem_X8_peek : GoodIn wsX8_isPartyItem wsX8_peek := goodIn_r _ [7, 1, 8, 9, 20, 21, 22, 23, 24, 25, 26, 27, 28, 29, 30, 31, 32, 33, 34, 35, 36, 37, 38, 39, 40, 41] (by decide +kernel) (by decide +kernel)
set_option maxRecDepth 20000 in
theorem gX8_isPartyItem_X8_peek : GoodIn wsX8_isPartyItem (wsV RX8 71 RX8 yX8_peek wsX8_peek) := goodIn_app (goodIn_of _ (by decide +kernel)) ggX8_isPartyItem_X8_peek
set_option maxRecDepth 20000 in
theorem ggX8_isPartyItem_X8_kindBy : GoodIn wsX8_isPartyItem wsX8_kindBy := goodIn_r _ [12] (by decide +kernel) (by decide +kernel)
set_option maxRecDepth 20000 in
theorem gX8_isPartyItem_X8_kindBy : GoodIn wsX8_isPartyItem (va_wsS RX8 75 yX8_kindBy wsX8_kindBy) := goodIn_app (goodIn_of _ (by decide +kernel)) ggX8_isPartyItem_X8_kindBy
set_option maxRecDepth 20000 in
theorem ggX8_isPartyItem_X8_figure : GoodIn wsX8_isPartyItem wsX8_figure := goodIn_r _ [16, 1, 3, 4, 5, 6, 7, 8, 9, 17, 18, 19, 20, 21, 22, 23, 24, 25, 26, 27, 28, 29, 30, 31, 32, 33, 34, 35, 36, 37, 38, 39, 40, 41] (by decide +kernel) (by decide +kernel)
set_option maxRecDepth 20000 in
theorem gX8_isPartyItem_X8_figure : GoodIn wsX8_isPartyItem (wsV RX8 79 RX8 yX8_figure wsX8_figure) := goodIn_app (goodIn_of _ (by decide +kernel)) ggX8_isPartyItem_X8_figure
theorem dX8_isPartyItem_0 : decode cX8_isPartyItem 0 = .ok (.aload_n 0, 1) := by decide +kernel
theorem dX8_isPartyItem_1 : decode cX8_isPartyItem 1 = .ok (.invokevirtual 71, 3) := by decide +kernel
theorem dX8_isPartyItem_4 : decode cX8_isPartyItem 4 = .ok (.invokestatic 75, 3) := by decide +kernel
theorem dX8_isPartyItem_7 : decode cX8_isPartyItem 7 = .ok (.istore_n 1, 1) := by decide +kernel
theorem dX8_isPartyItem_8 : decode cX8_isPartyItem 8 = .ok (.iload_n 1, 1) := by decide +kernel
theorem dX8_isPartyItem_9 : decode cX8_isPartyItem 9 = .ok (.ifCond .ne 5, 3) := by decide +kernel
theorem dX8_isPartyItem_12 : decode cX8_isPartyItem 12 = .ok (.iconst 0, 1) := by decide +kernel
theorem dX8_isPartyItem_13 : decode cX8_isPartyItem 13 = .ok (.ireturn, 1) := by decide +kernel
theorem dX8_isPartyItem_14 : decode cX8_isPartyItem 14 = .ok (.aload_n 0, 1) := by decide +kernel
theorem dX8_isPartyItem_15 : decode cX8_isPartyItem 15 = .ok (.dup, 1) := by decide +kernel
theorem dX8_isPartyItem_16 : decode cX8_isPartyItem 16 = .ok (.getfield 68, 3) := by decide +kernel
theorem dX8_isPartyItem_19 : decode cX8_isPartyItem 19 = .ok (.iconst 1, 1) := by decide +kernel
theorem dX8_isPartyItem_20 : decode cX8_isPartyItem 20 = .ok (.iadd, 1) := by decide +kernel
theorem dX8_isPartyItem_21 : decode cX8_isPartyItem 21 = .ok (.putfield 68, 3) := by decide +kernel
theorem dX8_isPartyItem_24 : decode cX8_isPartyItem 24 = .ok (.aload_n 0, 1) := by decide +kernel
theorem dX8_isPartyItem_25 : decode cX8_isPartyItem 25 = .ok (.bipush 9, 2) := by decide +kernel
theorem dX8_isPartyItem_27 : decode cX8_isPartyItem 27 = .ok (.invokevirtual 79, 3) := by decide +kernel
theorem dX8_isPartyItem_30 : decode cX8_isPartyItem 30 = .ok (.istore_n 2, 1) := by decide +kernel
theorem dX8_isPartyItem_31 : decode cX8_isPartyItem 31 = .ok (.iload_n 2, 1) := by decide +kernel
theorem dX8_isPartyItem_32 : decode cX8_isPartyItem 32 = .ok (.ifCond .ge 5, 3) := by decide +kernel
theorem dX8_isPartyItem_35 : decode cX8_isPartyItem 35 = .ok (.iconst 0, 1) := by decide +kernel
theorem dX8_isPartyItem_36 : decode cX8_isPartyItem 36 = .ok (.ireturn, 1) := by decide +kernel
theorem dX8_isPartyItem_37 : decode cX8_isPartyItem 37 = .ok (.aload_n 0, 1) := by decide +kernel
theorem dX8_isPartyItem_38 : decode cX8_isPartyItem 38 = .ok (.getfield 26, 3) := by decide +kernel
theorem dX8_isPartyItem_41 : decode cX8_isPartyItem 41 = .ok (.iconst 5, 1) := by decide +kernel
theorem dX8_isPartyItem_42 : decode cX8_isPartyItem 42 = .ok (.aload_n 0, 1) := by decide +kernel
theorem dX8_isPartyItem_43 : decode cX8_isPartyItem 43 = .ok (.getfield 26, 3) := by decide +kernel
theorem dX8_isPartyItem_46 : decode cX8_isPartyItem 46 = .ok (.iconst 2, 1) := by decide +kernel
theorem dX8_isPartyItem_47 : decode cX8_isPartyItem 47 = .ok (.iaload, 1) := by decide +kernel
theorem dX8_isPartyItem_48 : decode cX8_isPartyItem 48 = .ok (.iadd, 1) := by decide +kernel
theorem dX8_isPartyItem_49 : decode cX8_isPartyItem 49 = .ok (.iload_n 1, 1) := by decide +kernel
theorem dX8_isPartyItem_50 : decode cX8_isPartyItem 50 = .ok (.iastore, 1) := by decide +kernel
theorem dX8_isPartyItem_51 : decode cX8_isPartyItem 51 = .ok (.aload_n 0, 1) := by decide +kernel
theorem dX8_isPartyItem_52 : decode cX8_isPartyItem 52 = .ok (.getfield 26, 3) := by decide +kernel
theorem dX8_isPartyItem_55 : decode cX8_isPartyItem 55 = .ok (.bipush 11, 2) := by decide +kernel
theorem dX8_isPartyItem_57 : decode cX8_isPartyItem 57 = .ok (.aload_n 0, 1) := by decide +kernel
theorem dX8_isPartyItem_58 : decode cX8_isPartyItem 58 = .ok (.getfield 26, 3) := by decide +kernel
theorem dX8_isPartyItem_61 : decode cX8_isPartyItem 61 = .ok (.iconst 2, 1) := by decide +kernel
theorem dX8_isPartyItem_62 : decode cX8_isPartyItem 62 = .ok (.iaload, 1) := by decide +kernel
theorem dX8_isPartyItem_63 : decode cX8_isPartyItem 63 = .ok (.iadd, 1) := by decide +kernel
theorem dX8_isPartyItem_64 : decode cX8_isPartyItem 64 = .ok (.iload_n 2, 1) := by decide +kernel
theorem dX8_isPartyItem_65 : decode cX8_isPartyItem 65 = .ok (.iastore, 1) := by decide +kernel
theorem dX8_isPartyItem_66 : decode cX8_isPartyItem 66 = .ok (.aload_n 0, 1) := by decide +kernel
theorem dX8_isPartyItem_67 : decode cX8_isPartyItem 67 = .ok (.getfield 26, 3) := by decide +kernel
theorem dX8_isPartyItem_70 : decode cX8_isPartyItem 70 = .ok (.iconst 2, 1) := by decide +kernel
theorem dX8_isPartyItem_71 : decode cX8_isPartyItem 71 = .ok (.dup2, 1) := by decide +kernel
theorem dX8_isPartyItem_72 : decode cX8_isPartyItem 72 = .ok (.iaload, 1) := by decide +kernel
theorem dX8_isPartyItem_73 : decode cX8_isPartyItem 73 = .ok (.iconst 1, 1) := by decide +kernel
theorem dX8_isPartyItem_74 : decode cX8_isPartyItem 74 = .ok (.iadd, 1) := by decide +kernel
theorem dX8_isPartyItem_75 : decode cX8_isPartyItem 75 = .ok (.iastore, 1) := by decide +kernel
theorem dX8_isPartyItem_76 : decode cX8_isPartyItem 76 = .ok (.iconst 1, 1) := by decide +kernel
theorem dX8_isPartyItem_77 : decode cX8_isPartyItem 77 = .ok (.ireturn, 1) := by decide +kernel
set_option maxRecDepth 20000 in
theorem ggX8_isJudgeItem_X8_figure : GoodIn wsX8_isJudgeItem wsX8_figure := goodIn_r _ [6, 7, 8, 9, 10, 5, 11, 12, 13, 14, 15, 16, 21, 22, 23, 24, 25, 26, 27, 28, 29, 30, 31, 32, 33, 34, 35, 36, 37, 38, 39, 40, 41, 42] (by decide +kernel) (by decide +kernel)
set_option maxRecDepth 20000 in
theorem gX8_isJudgeItem_X8_figure : GoodIn wsX8_isJudgeItem (wsV RX8 79 RX8 yX8_figure wsX8_figure) := goodIn_app (goodIn_of _ (by decide +kernel)) ggX8_isJudgeItem_X8_figure
set_option maxRecDepth 20000 in
theorem ggX8_isJudgeItem_X8_isSign : GoodIn wsX8_isJudgeItem wsX8_isSign := goodIn_r _ [20, 7, 8, 9, 10, 5, 11, 12, 13, 21, 22, 23, 24, 25, 26, 27, 28, 29, 30, 31, 32, 33, 34, 35, 36, 37, 38, 39, 40, 41, 42] (by decide +kernel) (by decide +kernel)
set_option maxRecDepth 20000 in
theorem gX8_isJudgeItem_X8_isSign : GoodIn wsX8_isJudgeItem (wsV RX8 82 RX8 yX8_isSign wsX8_isSign) := goodIn_app (goodIn_of _ (by decide +kernel)) ggX8_isJudgeItem_X8_isSign
theorem dX8_isJudgeItem_0 : decode cX8_isJudgeItem 0 = .ok (.aload_n 0, 1) := by decide +kernel
theorem dX8_isJudgeItem_1 : decode cX8_isJudgeItem 1 = .ok (.bipush 9, 2) := by decide +kernel
theorem dX8_isJudgeItem_3 : decode cX8_isJudgeItem 3 = .ok (.invokevirtual 79, 3) := by decide +kernel
theorem dX8_isJudgeItem_6 : decode cX8_isJudgeItem 6 = .ok (.istore_n 1, 1) := by decide +kernel
theorem dX8_isJudgeItem_7 : decode cX8_isJudgeItem 7 = .ok (.iload_n 1, 1) := by decide +kernel
theorem dX8_isJudgeItem_8 : decode cX8_isJudgeItem 8 = .ok (.ifCond .ge 5, 3) := by decide +kernel
theorem dX8_isJudgeItem_11 : decode cX8_isJudgeItem 11 = .ok (.iconst 0, 1) := by decide +kernel
theorem dX8_isJudgeItem_12 : decode cX8_isJudgeItem 12 = .ok (.ireturn, 1) := by decide +kernel
theorem dX8_isJudgeItem_13 : decode cX8_isJudgeItem 13 = .ok (.bipush (-4), 2) := by decide +kernel
theorem dX8_isJudgeItem_15 : decode cX8_isJudgeItem 15 = .ok (.istore_n 2, 1) := by decide +kernel
theorem dX8_isJudgeItem_16 : decode cX8_isJudgeItem 16 = .ok (.aload_n 0, 1) := by decide +kernel
theorem dX8_isJudgeItem_17 : decode cX8_isJudgeItem 17 = .ok (.bipush 45, 2) := by decide +kernel
theorem dX8_isJudgeItem_19 : decode cX8_isJudgeItem 19 = .ok (.invokevirtual 82, 3) := by decide +kernel
theorem dX8_isJudgeItem_22 : decode cX8_isJudgeItem 22 = .ok (.ifCond .ne 22, 3) := by decide +kernel
theorem dX8_isJudgeItem_25 : decode cX8_isJudgeItem 25 = .ok (.aload_n 0, 1) := by decide +kernel
theorem dX8_isJudgeItem_26 : decode cX8_isJudgeItem 26 = .ok (.aload_n 0, 1) := by decide +kernel
theorem dX8_isJudgeItem_27 : decode cX8_isJudgeItem 27 = .ok (.getfield 26, 3) := by decide +kernel
theorem dX8_isJudgeItem_30 : decode cX8_isJudgeItem 30 = .ok (.iconst 2, 1) := by decide +kernel
theorem dX8_isJudgeItem_31 : decode cX8_isJudgeItem 31 = .ok (.iaload, 1) := by decide +kernel
theorem dX8_isJudgeItem_32 : decode cX8_isJudgeItem 32 = .ok (.iconst 1, 1) := by decide +kernel
theorem dX8_isJudgeItem_33 : decode cX8_isJudgeItem 33 = .ok (.isub, 1) := by decide +kernel
theorem dX8_isJudgeItem_34 : decode cX8_isJudgeItem 34 = .ok (.invokevirtual 79, 3) := by decide +kernel
theorem dX8_isJudgeItem_37 : decode cX8_isJudgeItem 37 = .ok (.istore_n 2, 1) := by decide +kernel
theorem dX8_isJudgeItem_38 : decode cX8_isJudgeItem 38 = .ok (.iload_n 2, 1) := by decide +kernel
theorem dX8_isJudgeItem_39 : decode cX8_isJudgeItem 39 = .ok (.ifCond .ge 5, 3) := by decide +kernel
theorem dX8_isJudgeItem_42 : decode cX8_isJudgeItem 42 = .ok (.iconst 0, 1) := by decide +kernel
theorem dX8_isJudgeItem_43 : decode cX8_isJudgeItem 43 = .ok (.ireturn, 1) := by decide +kernel
theorem dX8_isJudgeItem_44 : decode cX8_isJudgeItem 44 = .ok (.aload_n 0, 1) := by decide +kernel
theorem dX8_isJudgeItem_45 : decode cX8_isJudgeItem 45 = .ok (.getfield 26, 3) := by decide +kernel
theorem dX8_isJudgeItem_48 : decode cX8_isJudgeItem 48 = .ok (.bipush 23, 2) := by decide +kernel
theorem dX8_isJudgeItem_50 : decode cX8_isJudgeItem 50 = .ok (.aload_n 0, 1) := by decide +kernel
theorem dX8_isJudgeItem_51 : decode cX8_isJudgeItem 51 = .ok (.getfield 26, 3) := by decide +kernel
theorem dX8_isJudgeItem_54 : decode cX8_isJudgeItem 54 = .ok (.iconst 3, 1) := by decide +kernel
theorem dX8_isJudgeItem_55 : decode cX8_isJudgeItem 55 = .ok (.iaload, 1) := by decide +kernel
theorem dX8_isJudgeItem_56 : decode cX8_isJudgeItem 56 = .ok (.iadd, 1) := by decide +kernel
theorem dX8_isJudgeItem_57 : decode cX8_isJudgeItem 57 = .ok (.iload_n 1, 1) := by decide +kernel
theorem dX8_isJudgeItem_58 : decode cX8_isJudgeItem 58 = .ok (.iastore, 1) := by decide +kernel
theorem dX8_isJudgeItem_59 : decode cX8_isJudgeItem 59 = .ok (.aload_n 0, 1) := by decide +kernel
theorem dX8_isJudgeItem_60 : decode cX8_isJudgeItem 60 = .ok (.getfield 26, 3) := by decide +kernel
theorem dX8_isJudgeItem_63 : decode cX8_isJudgeItem 63 = .ok (.bipush 29, 2) := by decide +kernel
theorem dX8_isJudgeItem_65 : decode cX8_isJudgeItem 65 = .ok (.aload_n 0, 1) := by decide +kernel
theorem dX8_isJudgeItem_66 : decode cX8_isJudgeItem 66 = .ok (.getfield 26, 3) := by decide +kernel
theorem dX8_isJudgeItem_69 : decode cX8_isJudgeItem 69 = .ok (.iconst 3, 1) := by decide +kernel
theorem dX8_isJudgeItem_70 : decode cX8_isJudgeItem 70 = .ok (.iaload, 1) := by decide +kernel
theorem dX8_isJudgeItem_71 : decode cX8_isJudgeItem 71 = .ok (.iadd, 1) := by decide +kernel
theorem dX8_isJudgeItem_72 : decode cX8_isJudgeItem 72 = .ok (.iload_n 2, 1) := by decide +kernel
theorem dX8_isJudgeItem_73 : decode cX8_isJudgeItem 73 = .ok (.iastore, 1) := by decide +kernel
theorem dX8_isJudgeItem_74 : decode cX8_isJudgeItem 74 = .ok (.aload_n 0, 1) := by decide +kernel
theorem dX8_isJudgeItem_75 : decode cX8_isJudgeItem 75 = .ok (.getfield 26, 3) := by decide +kernel
theorem dX8_isJudgeItem_78 : decode cX8_isJudgeItem 78 = .ok (.iconst 3, 1) := by decide +kernel
theorem dX8_isJudgeItem_79 : decode cX8_isJudgeItem 79 = .ok (.dup2, 1) := by decide +kernel
theorem dX8_isJudgeItem_80 : decode cX8_isJudgeItem 80 = .ok (.iaload, 1) := by decide +kernel
theorem dX8_isJudgeItem_81 : decode cX8_isJudgeItem 81 = .ok (.iconst 1, 1) := by decide +kernel
theorem dX8_isJudgeItem_82 : decode cX8_isJudgeItem 82 = .ok (.iadd, 1) := by decide +kernel
theorem dX8_isJudgeItem_83 : decode cX8_isJudgeItem 83 = .ok (.iastore, 1) := by decide +kernel
theorem dX8_isJudgeItem_84 : decode cX8_isJudgeItem 84 = .ok (.iconst 1, 1) := by decide +kernel
theorem dX8_isJudgeItem_85 : decode cX8_isJudgeItem 85 = .ok (.ireturn, 1) := by decide +kernel
set_option maxRecDepth 20000 in
theorem ggX8_isCaseItem_X8_figure : GoodIn wsX8_isCaseItem wsX8_figure := goodIn_r _ [6, 7, 8, 9, 10, 5, 11, 12, 13, 14, 15, 16, 17, 18, 19, 20, 21, 22, 23, 24, 25, 26, 27, 28, 29, 30, 31, 32, 33, 34, 35, 36, 37, 38] (by decide +kernel) (by decide +kernel)
set_option maxRecDepth 20000 in
theorem gX8_isCaseItem_X8_figure : GoodIn wsX8_isCaseItem (wsV RX8 79 RX8 yX8_figure wsX8_figure) := goodIn_app (goodIn_of _ (by decide +kernel)) ggX8_isCaseItem_X8_figure
set_option maxRecDepth 20000 in
theorem ggX8_isCaseItem_X8_peek : GoodIn wsX8_isCaseItem wsX8_peek := goodIn_r _ [11, 7, 12, 13, 17, 18, 19, 20, 21, 22, 23, 24, 25, 26, 27, 28, 29, 30, 31, 32, 33, 34, 35, 36, 37, 38] (by decide +kernel) (by decide +kernel)
set_option maxRecDepth 20000 in
theorem gX8_isCaseItem_X8_peek : GoodIn wsX8_isCaseItem (wsV RX8 71 RX8 yX8_peek wsX8_peek) := goodIn_app (goodIn_of _ (by decide +kernel)) ggX8_isCaseItem_X8_peek
theorem dX8_isCaseItem_0 : decode cX8_isCaseItem 0 = .ok (.aload_n 0, 1) := by decide +kernel
theorem dX8_isCaseItem_1 : decode cX8_isCaseItem 1 = .ok (.aload_n 0, 1) := by decide +kernel
theorem dX8_isCaseItem_2 : decode cX8_isCaseItem 2 = .ok (.getfield 26, 3) := by decide +kernel
theorem dX8_isCaseItem_5 : decode cX8_isCaseItem 5 = .ok (.iconst 2, 1) := by decide +kernel
theorem dX8_isCaseItem_6 : decode cX8_isCaseItem 6 = .ok (.iaload, 1) := by decide +kernel
theorem dX8_isCaseItem_7 : decode cX8_isCaseItem 7 = .ok (.iconst 1, 1) := by decide +kernel
theorem dX8_isCaseItem_8 : decode cX8_isCaseItem 8 = .ok (.isub, 1) := by decide +kernel
theorem dX8_isCaseItem_9 : decode cX8_isCaseItem 9 = .ok (.invokevirtual 79, 3) := by decide +kernel
theorem dX8_isCaseItem_12 : decode cX8_isCaseItem 12 = .ok (.istore_n 1, 1) := by decide +kernel
theorem dX8_isCaseItem_13 : decode cX8_isCaseItem 13 = .ok (.iload_n 1, 1) := by decide +kernel
theorem dX8_isCaseItem_14 : decode cX8_isCaseItem 14 = .ok (.ifCond .ge 5, 3) := by decide +kernel
theorem dX8_isCaseItem_17 : decode cX8_isCaseItem 17 = .ok (.iconst 0, 1) := by decide +kernel
theorem dX8_isCaseItem_18 : decode cX8_isCaseItem 18 = .ok (.ireturn, 1) := by decide +kernel
theorem dX8_isCaseItem_19 : decode cX8_isCaseItem 19 = .ok (.aload_n 0, 1) := by decide +kernel
theorem dX8_isCaseItem_20 : decode cX8_isCaseItem 20 = .ok (.invokevirtual 71, 3) := by decide +kernel
theorem dX8_isCaseItem_23 : decode cX8_isCaseItem 23 = .ok (.bipush 48, 2) := by decide +kernel
theorem dX8_isCaseItem_25 : decode cX8_isCaseItem 25 = .ok (.isub, 1) := by decide +kernel
theorem dX8_isCaseItem_26 : decode cX8_isCaseItem 26 = .ok (.iload_n 1, 1) := by decide +kernel
theorem dX8_isCaseItem_27 : decode cX8_isCaseItem 27 = .ok (.if_icmp .ne 7, 3) := by decide +kernel
theorem dX8_isCaseItem_30 : decode cX8_isCaseItem 30 = .ok (.iconst (-1), 1) := by decide +kernel
theorem dX8_isCaseItem_31 : decode cX8_isCaseItem 31 = .ok (.goto 15, 3) := by decide +kernel
theorem dX8_isCaseItem_34 : decode cX8_isCaseItem 34 = .ok (.aload_n 0, 1) := by decide +kernel
theorem dX8_isCaseItem_35 : decode cX8_isCaseItem 35 = .ok (.aload_n 0, 1) := by decide +kernel
theorem dX8_isCaseItem_36 : decode cX8_isCaseItem 36 = .ok (.getfield 26, 3) := by decide +kernel
theorem dX8_isCaseItem_39 : decode cX8_isCaseItem 39 = .ok (.iconst 2, 1) := by decide +kernel
theorem dX8_isCaseItem_40 : decode cX8_isCaseItem 40 = .ok (.iaload, 1) := by decide +kernel
theorem dX8_isCaseItem_41 : decode cX8_isCaseItem 41 = .ok (.iconst 1, 1) := by decide +kernel
theorem dX8_isCaseItem_42 : decode cX8_isCaseItem 42 = .ok (.isub, 1) := by decide +kernel
theorem dX8_isCaseItem_43 : decode cX8_isCaseItem 43 = .ok (.invokevirtual 79, 3) := by decide +kernel
theorem dX8_isCaseItem_46 : decode cX8_isCaseItem 46 = .ok (.istore_n 2, 1) := by decide +kernel
theorem dX8_isCaseItem_47 : decode cX8_isCaseItem 47 = .ok (.iload_n 2, 1) := by decide +kernel
theorem dX8_isCaseItem_48 : decode cX8_isCaseItem 48 = .ok (.ifCond .ge 5, 3) := by decide +kernel
theorem dX8_isCaseItem_51 : decode cX8_isCaseItem 51 = .ok (.iconst 0, 1) := by decide +kernel
theorem dX8_isCaseItem_52 : decode cX8_isCaseItem 52 = .ok (.ireturn, 1) := by decide +kernel
theorem dX8_isCaseItem_53 : decode cX8_isCaseItem 53 = .ok (.aload_n 0, 1) := by decide +kernel
theorem dX8_isCaseItem_54 : decode cX8_isCaseItem 54 = .ok (.bipush 9, 2) := by decide +kernel
theorem dX8_isCaseItem_56 : decode cX8_isCaseItem 56 = .ok (.invokevirtual 79, 3) := by decide +kernel
theorem dX8_isCaseItem_59 : decode cX8_isCaseItem 59 = .ok (.istore_n 3, 1) := by decide +kernel
theorem dX8_isCaseItem_60 : decode cX8_isCaseItem 60 = .ok (.iload_n 3, 1) := by decide +kernel
theorem dX8_isCaseItem_61 : decode cX8_isCaseItem 61 = .ok (.ifCond .ge 5, 3) := by decide +kernel
theorem dX8_isCaseItem_64 : decode cX8_isCaseItem 64 = .ok (.iconst 0, 1) := by decide +kernel
theorem dX8_isCaseItem_65 : decode cX8_isCaseItem 65 = .ok (.ireturn, 1) := by decide +kernel
theorem dX8_isCaseItem_66 : decode cX8_isCaseItem 66 = .ok (.aload_n 0, 1) := by decide +kernel
theorem dX8_isCaseItem_67 : decode cX8_isCaseItem 67 = .ok (.getfield 26, 3) := by decide +kernel
theorem dX8_isCaseItem_70 : decode cX8_isCaseItem 70 = .ok (.iconst 4, 1) := by decide +kernel
theorem dX8_isCaseItem_71 : decode cX8_isCaseItem 71 = .ok (.iaload, 1) := by decide +kernel
theorem dX8_isCaseItem_72 : decode cX8_isCaseItem 72 = .ok (.istore 4, 2) := by decide +kernel
theorem dX8_isCaseItem_74 : decode cX8_isCaseItem 74 = .ok (.aload_n 0, 1) := by decide +kernel
theorem dX8_isCaseItem_75 : decode cX8_isCaseItem 75 = .ok (.getfield 26, 3) := by decide +kernel
theorem dX8_isCaseItem_78 : decode cX8_isCaseItem 78 = .ok (.bipush 35, 2) := by decide +kernel
theorem dX8_isCaseItem_80 : decode cX8_isCaseItem 80 = .ok (.iload 4, 2) := by decide +kernel
theorem dX8_isCaseItem_82 : decode cX8_isCaseItem 82 = .ok (.iadd, 1) := by decide +kernel
theorem dX8_isCaseItem_83 : decode cX8_isCaseItem 83 = .ok (.iload_n 1, 1) := by decide +kernel
theorem dX8_isCaseItem_84 : decode cX8_isCaseItem 84 = .ok (.iastore, 1) := by decide +kernel
theorem dX8_isCaseItem_85 : decode cX8_isCaseItem 85 = .ok (.aload_n 0, 1) := by decide +kernel
theorem dX8_isCaseItem_86 : decode cX8_isCaseItem 86 = .ok (.getfield 26, 3) := by decide +kernel
theorem dX8_isCaseItem_89 : decode cX8_isCaseItem 89 = .ok (.bipush 47, 2) := by decide +kernel
theorem dX8_isCaseItem_91 : decode cX8_isCaseItem 91 = .ok (.iload 4, 2) := by decide +kernel
theorem dX8_isCaseItem_93 : decode cX8_isCaseItem 93 = .ok (.iadd, 1) := by decide +kernel
theorem dX8_isCaseItem_94 : decode cX8_isCaseItem 94 = .ok (.iload_n 2, 1) := by decide +kernel
theorem dX8_isCaseItem_95 : decode cX8_isCaseItem 95 = .ok (.iastore, 1) := by decide +kernel
theorem dX8_isCaseItem_96 : decode cX8_isCaseItem 96 = .ok (.aload_n 0, 1) := by decide +kernel
theorem dX8_isCaseItem_97 : decode cX8_isCaseItem 97 = .ok (.getfield 26, 3) := by decide +kernel
theorem dX8_isCaseItem_100 : decode cX8_isCaseItem 100 = .ok (.bipush 59, 2) := by decide +kernel
theorem dX8_isCaseItem_102 : decode cX8_isCaseItem 102 = .ok (.iload 4, 2) := by decide +kernel
theorem dX8_isCaseItem_104 : decode cX8_isCaseItem 104 = .ok (.iadd, 1) := by decide +kernel
theorem dX8_isCaseItem_105 : decode cX8_isCaseItem 105 = .ok (.iload_n 3, 1) := by decide +kernel
theorem dX8_isCaseItem_106 : decode cX8_isCaseItem 106 = .ok (.iastore, 1) := by decide +kernel
theorem dX8_isCaseItem_107 : decode cX8_isCaseItem 107 = .ok (.aload_n 0, 1) := by decide +kernel
theorem dX8_isCaseItem_108 : decode cX8_isCaseItem 108 = .ok (.getfield 26, 3) := by decide +kernel
theorem dX8_isCaseItem_111 : decode cX8_isCaseItem 111 = .ok (.bipush 71, 2) := by decide +kernel
theorem dX8_isCaseItem_113 : decode cX8_isCaseItem 113 = .ok (.iload 4, 2) := by decide +kernel
theorem dX8_isCaseItem_115 : decode cX8_isCaseItem 115 = .ok (.iadd, 1) := by decide +kernel
theorem dX8_isCaseItem_116 : decode cX8_isCaseItem 116 = .ok (.bipush (-4), 2) := by decide +kernel
theorem dX8_isCaseItem_118 : decode cX8_isCaseItem 118 = .ok (.iastore, 1) := by decide +kernel
theorem dX8_isCaseItem_119 : decode cX8_isCaseItem 119 = .ok (.aload_n 0, 1) := by decide +kernel
theorem dX8_isCaseItem_120 : decode cX8_isCaseItem 120 = .ok (.getfield 26, 3) := by decide +kernel
theorem dX8_isCaseItem_123 : decode cX8_isCaseItem 123 = .ok (.iconst 4, 1) := by decide +kernel
theorem dX8_isCaseItem_124 : decode cX8_isCaseItem 124 = .ok (.dup2, 1) := by decide +kernel
theorem dX8_isCaseItem_125 : decode cX8_isCaseItem 125 = .ok (.iaload, 1) := by decide +kernel
theorem dX8_isCaseItem_126 : decode cX8_isCaseItem 126 = .ok (.iconst 1, 1) := by decide +kernel
theorem dX8_isCaseItem_127 : decode cX8_isCaseItem 127 = .ok (.iadd, 1) := by decide +kernel
theorem dX8_isCaseItem_128 : decode cX8_isCaseItem 128 = .ok (.iastore, 1) := by decide +kernel
theorem dX8_isCaseItem_129 : decode cX8_isCaseItem 129 = .ok (.iconst 1, 1) := by decide +kernel
theorem dX8_isCaseItem_130 : decode cX8_isCaseItem 130 = .ok (.ireturn, 1) := by decide +kernel
set_option maxRecDepth 20000 in
theorem ggX8_isRead_X8_isSign : GoodIn wsX8_isRead wsX8_isSign := goodIn_r _ [8, 2, 9, 10, 11, 7, 12, 3, 13, 36, 37, 38, 39, 40, 41, 42, 43, 44, 45, 46, 47, 48, 49, 50, 51, 52, 53, 54, 55, 56, 57] (by decide +kernel) (by decide +kernel)
set_option maxRecDepth 20000 in
theorem gX8_isRead_X8_isSign : GoodIn wsX8_isRead (wsV RX8 82 RX8 yX8_isSign wsX8_isSign) := goodIn_app (goodIn_of _ (by decide +kernel)) ggX8_isRead_X8_isSign
set_option maxRecDepth 20000 in
theorem ggX8_isRead_X8_isPartyItem : GoodIn wsX8_isRead wsX8_isPartyItem := goodIn_r _ [17, 2, 1, 9, 10, 11, 7, 12, 3, 13, 18, 19, 20, 21, 22, 23, 24, 25, 26, 27, 36, 37, 38, 39, 40, 41, 42, 43, 44, 45, 46, 47, 48, 49, 50, 51, 52, 53, 54, 55, 56, 57] (by decide +kernel) (by decide +kernel)
set_option maxRecDepth 20000 in
theorem gX8_isRead_X8_isPartyItem : GoodIn wsX8_isRead (wsV RX8 86 RX8 yX8_isPartyItem wsX8_isPartyItem) := goodIn_app (goodIn_of _ (by decide +kernel)) ggX8_isRead_X8_isPartyItem
set_option maxRecDepth 20000 in
theorem ggX8_isRead_X8_isJudgeItem : GoodIn wsX8_isRead wsX8_isJudgeItem := goodIn_r _ [31, 1, 21, 22, 23, 7, 24, 2, 9, 10, 11, 12, 3, 13, 25, 26, 27, 4, 5, 6, 8, 36, 37, 38, 39, 40, 41, 42, 43, 44, 45, 46, 47, 48, 49, 50, 51, 52, 53, 54, 55, 56, 57] (by decide +kernel) (by decide +kernel)
set_option maxRecDepth 20000 in
theorem gX8_isRead_X8_isJudgeItem : GoodIn wsX8_isRead (wsV RX8 90 RX8 yX8_isJudgeItem wsX8_isJudgeItem) := goodIn_app (goodIn_of _ (by decide +kernel)) ggX8_isRead_X8_isJudgeItem
set_option maxRecDepth 20000 in
theorem ggX8_isRead_X8_isCaseItem : GoodIn wsX8_isRead wsX8_isCaseItem := goodIn_r _ [35, 1, 21, 22, 23, 7, 24, 2, 9, 10, 11, 12, 3, 13, 25, 26, 27, 36, 37, 38, 39, 40, 41, 42, 43, 44, 45, 46, 47, 48, 49, 50, 51, 52, 53, 54, 55, 56, 57] (by decide +kernel) (by decide +kernel)
set_option maxRecDepth 20000 in
theorem gX8_isRead_X8_isCaseItem : GoodIn wsX8_isRead (wsV RX8 93 RX8 yX8_isCaseItem wsX8_isCaseItem) := goodIn_app (goodIn_of _ (by decide +kernel)) ggX8_isRead_X8_isCaseItem
set_option maxRecDepth 20000 in
theorem ggX8_isRead_X8_figure : GoodIn wsX8_isRead wsX8_figure := goodIn_r _ [24, 2, 9, 10, 11, 7, 12, 3, 13, 25, 26, 27, 36, 37, 38, 39, 40, 41, 42, 43, 44, 45, 46, 47, 48, 49, 50, 51, 52, 53, 54, 55, 56, 57] (by decide +kernel) (by decide +kernel)
set_option maxRecDepth 20000 in
theorem gX8_isRead_X8_figure : GoodIn wsX8_isRead (wsV RX8 79 RX8 yX8_figure wsX8_figure) := goodIn_app (goodIn_of _ (by decide +kernel)) ggX8_isRead_X8_figure
theorem dX8_isRead_0 : decode cX8_isRead 0 = .ok (.iconst 0, 1) := by decide +kernel
