set_option maxRecDepth 20000 in
theorem ggX7_circleNow_X7_isVote : GoodIn wsX7_circleNow wsX7_isVote := goodIn_r _ [8, 1, 2, 9, 3, 10, 11, 12, 13, 14, 7, 15, 16, 17, 18, 19, 20, 21, 22, 23, 24, 25, 26, 27, 28, 29, 30, 31, 32, 33, 34, 35, 36, 37, 38, 39, 40, 41, 42, 43, 44, 45, 46, 47, 48, 49, 50, 51, 52, 53, 54, 55, 56, 57, 58, 59, 60, 61, 62, 63, 64, 65, 66, 67, 68, 69, 70, 71, 72, 73, 74, 75, 76, 77, 78, 79, 80, 81, 82, 83, 84, 85, 86, 87, 88, 89, 90, 91] (by decide +kernel) (by decide +kernel)
set_option maxRecDepth 20000 in
theorem gX7_circleNow_X7_isVote : GoodIn wsX7_circleNow (wsV RX7 249 RX7 yX7_isVote wsX7_isVote) := goodIn_app (goodIn_of _ (by decide +kernel)) ggX7_circleNow_X7_isVote
set_option maxRecDepth 20000 in
theorem ggX7_circleNow_X7_floor : GoodIn wsX7_circleNow wsX7_floor := goodIn_r _ [15] (by decide +kernel) (by decide +kernel)
set_option maxRecDepth 20000 in
theorem gX7_circleNow_X7_floor : GoodIn wsX7_circleNow (va_wsS RX7 229 yX7_floor wsX7_floor) := goodIn_app (goodIn_of _ (by decide +kernel)) ggX7_circleNow_X7_floor
set_option maxRecDepth 20000 in
theorem ggX7_circleNow_X7_radius : GoodIn wsX7_circleNow wsX7_radius := goodIn_r _ [45, 1, 34, 2, 3, 35, 46, 47, 48, 49, 50, 51, 52, 53, 54, 55, 56, 57, 58, 59, 60, 61, 62, 63, 64, 65, 66, 67, 68, 69, 70, 71, 72, 73, 74, 75, 76, 77, 78, 79, 80, 81, 82, 83, 84, 85, 86, 87, 88, 89, 90, 91] (by decide +kernel) (by decide +kernel)
set_option maxRecDepth 20000 in
theorem gX7_circleNow_X7_radius : GoodIn wsX7_circleNow (wsV RX7 243 RX7 yX7_radius wsX7_radius) := goodIn_app (goodIn_of _ (by decide +kernel)) ggX7_circleNow_X7_radius
set_option maxRecDepth 20000 in
theorem ggX7_circleNow_X7_agreeing : GoodIn wsX7_circleNow wsX7_agreeing := goodIn_r _ [28, 1, 3, 2, 29, 30, 31, 7, 32, 33, 34, 35, 36, 37, 38, 39, 40, 41, 48, 49, 50, 51, 52, 53, 54, 55, 56, 57, 58, 59, 60, 61, 62, 63, 64, 65, 66, 67, 68, 69, 70, 71, 72, 73, 74, 75, 76, 77, 78, 79, 80, 81, 82, 83, 84, 85, 86, 87, 88, 89, 90, 91] (by decide +kernel) (by decide +kernel)
set_option maxRecDepth 20000 in
theorem gX7_circleNow_X7_agreeing : GoodIn wsX7_circleNow (wsV RX7 239 RX7 yX7_agreeing wsX7_agreeing) := goodIn_app (goodIn_of _ (by decide +kernel)) ggX7_circleNow_X7_agreeing
theorem dX7_circleNow_0 : decode cX7_circleNow 0 = .ok (.iload 4, 2) := by decide +kernel
theorem dX7_circleNow_2 : decode cX7_circleNow 2 = .ok (.tableswitch 76 0 3 #[30, 46, 58, 70], 30) := by decide +kernel
theorem dX7_circleNow_32 : decode cX7_circleNow 32 = .ok (.aload_n 0, 1) := by decide +kernel
theorem dX7_circleNow_33 : decode cX7_circleNow 33 = .ok (.iload_n 1, 1) := by decide +kernel
theorem dX7_circleNow_34 : decode cX7_circleNow 34 = .ok (.iload_n 2, 1) := by decide +kernel
theorem dX7_circleNow_35 : decode cX7_circleNow 35 = .ok (.iload_n 3, 1) := by decide +kernel
theorem dX7_circleNow_36 : decode cX7_circleNow 36 = .ok (.invokevirtual 249, 3) := by decide +kernel
theorem dX7_circleNow_39 : decode cX7_circleNow 39 = .ok (.ifCond .eq 7, 3) := by decide +kernel
theorem dX7_circleNow_42 : decode cX7_circleNow 42 = .ok (.iconst 1, 1) := by decide +kernel
theorem dX7_circleNow_43 : decode cX7_circleNow 43 = .ok (.goto 4, 3) := by decide +kernel
theorem dX7_circleNow_46 : decode cX7_circleNow 46 = .ok (.iconst 0, 1) := by decide +kernel
theorem dX7_circleNow_47 : decode cX7_circleNow 47 = .ok (.ireturn, 1) := by decide +kernel
theorem dX7_circleNow_48 : decode cX7_circleNow 48 = .ok (.aload_n 0, 1) := by decide +kernel
theorem dX7_circleNow_49 : decode cX7_circleNow 49 = .ok (.getfield 217, 3) := by decide +kernel
theorem dX7_circleNow_52 : decode cX7_circleNow 52 = .ok (.aload_n 0, 1) := by decide +kernel
theorem dX7_circleNow_53 : decode cX7_circleNow 53 = .ok (.getfield 212, 3) := by decide +kernel
theorem dX7_circleNow_56 : decode cX7_circleNow 56 = .ok (.invokestatic 229, 3) := by decide +kernel
theorem dX7_circleNow_59 : decode cX7_circleNow 59 = .ok (.ireturn, 1) := by decide +kernel
theorem dX7_circleNow_60 : decode cX7_circleNow 60 = .ok (.aload_n 0, 1) := by decide +kernel
theorem dX7_circleNow_61 : decode cX7_circleNow 61 = .ok (.getfield 220, 3) := by decide +kernel
theorem dX7_circleNow_64 : decode cX7_circleNow 64 = .ok (.aload_n 0, 1) := by decide +kernel
theorem dX7_circleNow_65 : decode cX7_circleNow 65 = .ok (.getfield 212, 3) := by decide +kernel
theorem dX7_circleNow_68 : decode cX7_circleNow 68 = .ok (.invokestatic 229, 3) := by decide +kernel
theorem dX7_circleNow_71 : decode cX7_circleNow 71 = .ok (.ireturn, 1) := by decide +kernel
theorem dX7_circleNow_72 : decode cX7_circleNow 72 = .ok (.aload_n 0, 1) := by decide +kernel
theorem dX7_circleNow_73 : decode cX7_circleNow 73 = .ok (.iload_n 1, 1) := by decide +kernel
theorem dX7_circleNow_74 : decode cX7_circleNow 74 = .ok (.invokevirtual 243, 3) := by decide +kernel
theorem dX7_circleNow_77 : decode cX7_circleNow 77 = .ok (.ireturn, 1) := by decide +kernel
theorem dX7_circleNow_78 : decode cX7_circleNow 78 = .ok (.aload_n 0, 1) := by decide +kernel
theorem dX7_circleNow_79 : decode cX7_circleNow 79 = .ok (.iload_n 1, 1) := by decide +kernel
theorem dX7_circleNow_80 : decode cX7_circleNow 80 = .ok (.iload_n 2, 1) := by decide +kernel
theorem dX7_circleNow_81 : decode cX7_circleNow 81 = .ok (.iload_n 3, 1) := by decide +kernel
theorem dX7_circleNow_82 : decode cX7_circleNow 82 = .ok (.invokevirtual 239, 3) := by decide +kernel
theorem dX7_circleNow_85 : decode cX7_circleNow 85 = .ok (.ireturn, 1) := by decide +kernel
set_option maxRecDepth 20000 in
theorem ggX7_circle_X7_isDot : GoodIn wsX7_circle wsX7_isDot := goodIn_r _ [5, 6, 7, 8, 9, 4, 10, 11, 12, 13, 14, 66, 67, 68, 69, 70, 71, 72, 73, 74, 75, 76, 77, 78, 79, 80, 81, 82, 83, 84, 85, 86, 87, 88, 89, 90, 91, 92, 93, 94, 95, 96, 97, 98, 99, 100, 101, 102, 103, 104, 105, 106, 107, 108, 109] (by decide +kernel) (by decide +kernel)
set_option maxRecDepth 20000 in
theorem gX7_circle_X7_isDot : GoodIn wsX7_circle (wsV RX7 167 RX7 yX7_isDot wsX7_isDot) := goodIn_app (goodIn_of _ (by decide +kernel)) ggX7_circle_X7_isDot
set_option maxRecDepth 20000 in
theorem ggX7_circle_X7_within : GoodIn wsX7_circle wsX7_within := goodIn_r _ [14] (by decide +kernel) (by decide +kernel)
set_option maxRecDepth 20000 in
theorem gX7_circle_X7_within : GoodIn wsX7_circle (va_wsS RX7 58 yX7_within wsX7_within) := goodIn_app (goodIn_of _ (by decide +kernel)) ggX7_circle_X7_within
set_option maxRecDepth 20000 in
theorem ggX7_circle_X7_layMiddle : GoodIn wsX7_circle wsX7_layMiddle := goodIn_r _ [18, 19, 20, 21, 22, 23, 24, 25, 66, 67, 68, 69, 70, 71, 72, 73, 74, 75, 76, 77, 78, 79, 80, 81, 82, 83, 84, 85, 86, 87, 88, 89, 90, 91, 92, 93, 94, 95, 96, 97, 98, 99, 100, 101, 102, 103, 104, 105, 106, 107, 108, 109] (by decide +kernel) (by decide +kernel)
set_option maxRecDepth 20000 in
theorem gX7_circle_X7_layMiddle : GoodIn wsX7_circle (wsV RX7 252 RX7 yX7_layMiddle wsX7_layMiddle) := goodIn_app (goodIn_of _ (by decide +kernel)) ggX7_circle_X7_layMiddle
set_option maxRecDepth 20000 in
theorem ggX7_circle_X7_circleNow : GoodIn wsX7_circle wsX7_circleNow := goodIn_r _ [29, 24, 22, 25, 30, 31, 32, 4, 33, 34, 35, 36, 37, 38, 39, 40, 41, 42, 43, 44, 11, 45, 12, 13, 14, 46, 47, 48, 49, 50, 51, 52, 53, 54, 19, 20, 55, 56, 57, 58, 59, 60, 61, 62, 63, 64, 65, 21, 66, 67, 68, 69, 70, 71, 72, 73, 74, 75, 76, 77, 78, 79, 80, 81, 82, 83, 84, 85, 86, 87, 88, 89, 90, 91, 92, 93, 94, 95, 96, 97, 98, 99, 100, 101, 102, 103, 104, 105, 106, 107, 108, 109] (by decide +kernel) (by decide +kernel)
set_option maxRecDepth 20000 in
theorem gX7_circle_X7_circleNow : GoodIn wsX7_circle (wsV RX7 255 RX7 yX7_circleNow wsX7_circleNow) := goodIn_app (goodIn_of _ (by decide +kernel)) ggX7_circle_X7_circleNow
theorem dX7_circle_0 : decode cX7_circle 0 = .ok (.aload_n 0, 1) := by decide +kernel
theorem dX7_circle_1 : decode cX7_circle 1 = .ok (.iload_n 1, 1) := by decide +kernel
theorem dX7_circle_2 : decode cX7_circle 2 = .ok (.invokevirtual 167, 3) := by decide +kernel
theorem dX7_circle_5 : decode cX7_circle 5 = .ok (.ifCond .eq 34, 3) := by decide +kernel
theorem dX7_circle_8 : decode cX7_circle 8 = .ok (.aload_n 0, 1) := by decide +kernel
theorem dX7_circle_9 : decode cX7_circle 9 = .ok (.iload_n 2, 1) := by decide +kernel
theorem dX7_circle_10 : decode cX7_circle 10 = .ok (.invokevirtual 167, 3) := by decide +kernel
theorem dX7_circle_13 : decode cX7_circle 13 = .ok (.ifCond .eq 26, 3) := by decide +kernel
theorem dX7_circle_16 : decode cX7_circle 16 = .ok (.aload_n 0, 1) := by decide +kernel
theorem dX7_circle_17 : decode cX7_circle 17 = .ok (.iload_n 3, 1) := by decide +kernel
theorem dX7_circle_18 : decode cX7_circle 18 = .ok (.invokevirtual 167, 3) := by decide +kernel
theorem dX7_circle_21 : decode cX7_circle 21 = .ok (.ifCond .eq 18, 3) := by decide +kernel
theorem dX7_circle_24 : decode cX7_circle 24 = .ok (.iload_n 1, 1) := by decide +kernel
theorem dX7_circle_25 : decode cX7_circle 25 = .ok (.iload_n 2, 1) := by decide +kernel
theorem dX7_circle_26 : decode cX7_circle 26 = .ok (.if_icmp .eq 13, 3) := by decide +kernel
theorem dX7_circle_29 : decode cX7_circle 29 = .ok (.iload_n 2, 1) := by decide +kernel
theorem dX7_circle_30 : decode cX7_circle 30 = .ok (.iload_n 3, 1) := by decide +kernel
theorem dX7_circle_31 : decode cX7_circle 31 = .ok (.if_icmp .eq 8, 3) := by decide +kernel
theorem dX7_circle_34 : decode cX7_circle 34 = .ok (.iload_n 1, 1) := by decide +kernel
theorem dX7_circle_35 : decode cX7_circle 35 = .ok (.iload_n 3, 1) := by decide +kernel
theorem dX7_circle_36 : decode cX7_circle 36 = .ok (.if_icmp .ne 6, 3) := by decide +kernel
theorem dX7_circle_39 : decode cX7_circle 39 = .ok (.bipush (-101), 2) := by decide +kernel
theorem dX7_circle_41 : decode cX7_circle 41 = .ok (.ireturn, 1) := by decide +kernel
theorem dX7_circle_42 : decode cX7_circle 42 = .ok (.iload 4, 2) := by decide +kernel
theorem dX7_circle_44 : decode cX7_circle 44 = .ok (.iconst 0, 1) := by decide +kernel
theorem dX7_circle_45 : decode cX7_circle 45 = .ok (.iconst 4, 1) := by decide +kernel
theorem dX7_circle_46 : decode cX7_circle 46 = .ok (.invokestatic 58, 3) := by decide +kernel
theorem dX7_circle_49 : decode cX7_circle 49 = .ok (.ifCond .ne 6, 3) := by decide +kernel
theorem dX7_circle_52 : decode cX7_circle 52 = .ok (.bipush (-102), 2) := by decide +kernel
theorem dX7_circle_54 : decode cX7_circle 54 = .ok (.ireturn, 1) := by decide +kernel
theorem dX7_circle_55 : decode cX7_circle 55 = .ok (.aload_n 0, 1) := by decide +kernel
theorem dX7_circle_56 : decode cX7_circle 56 = .ok (.iload_n 1, 1) := by decide +kernel
theorem dX7_circle_57 : decode cX7_circle 57 = .ok (.iload_n 2, 1) := by decide +kernel
theorem dX7_circle_58 : decode cX7_circle 58 = .ok (.iload_n 3, 1) := by decide +kernel
theorem dX7_circle_59 : decode cX7_circle 59 = .ok (.invokevirtual 252, 3) := by decide +kernel
theorem dX7_circle_62 : decode cX7_circle 62 = .ok (.ifCond .eq 15, 3) := by decide +kernel
theorem dX7_circle_65 : decode cX7_circle 65 = .ok (.aload_n 0, 1) := by decide +kernel
theorem dX7_circle_66 : decode cX7_circle 66 = .ok (.iload_n 1, 1) := by decide +kernel
theorem dX7_circle_67 : decode cX7_circle 67 = .ok (.iload_n 2, 1) := by decide +kernel
theorem dX7_circle_68 : decode cX7_circle 68 = .ok (.iload_n 3, 1) := by decide +kernel
theorem dX7_circle_69 : decode cX7_circle 69 = .ok (.iload 4, 2) := by decide +kernel
theorem dX7_circle_71 : decode cX7_circle 71 = .ok (.invokevirtual 255, 3) := by decide +kernel
theorem dX7_circle_74 : decode cX7_circle 74 = .ok (.goto 5, 3) := by decide +kernel
theorem dX7_circle_77 : decode cX7_circle 77 = .ok (.bipush (-103), 2) := by decide +kernel
theorem dX7_circle_79 : decode cX7_circle 79 = .ok (.ireturn, 1) := by decide +kernel
theorem dX7_vote_0 : decode cX7_vote 0 = .ok (.iconst 0, 1) := by decide +kernel
theorem dX7_vote_1 : decode cX7_vote 1 = .ok (.istore_n 1, 1) := by decide +kernel
theorem dX7_vote_2 : decode cX7_vote 2 = .ok (.iload_n 1, 1) := by decide +kernel
theorem dX7_vote_3 : decode cX7_vote 3 = .ok (.aload_n 0, 1) := by decide +kernel
theorem dX7_vote_4 : decode cX7_vote 4 = .ok (.getfield 259, 3) := by decide +kernel
theorem dX7_vote_7 : decode cX7_vote 7 = .ok (.if_icmp .ge 48, 3) := by decide +kernel
theorem dX7_vote_10 : decode cX7_vote 10 = .ok (.aload_n 0, 1) := by decide +kernel
theorem dX7_vote_11 : decode cX7_vote 11 = .ok (.getfield 46, 3) := by decide +kernel
theorem dX7_vote_14 : decode cX7_vote 14 = .ok (.iload_n 1, 1) := by decide +kernel
theorem dX7_vote_15 : decode cX7_vote 15 = .ok (.iaload, 1) := by decide +kernel
theorem dX7_vote_16 : decode cX7_vote 16 = .ok (.aload_n 0, 1) := by decide +kernel
theorem dX7_vote_17 : decode cX7_vote 17 = .ok (.getfield 233, 3) := by decide +kernel
theorem dX7_vote_20 : decode cX7_vote 20 = .ok (.if_icmp .ne 29, 3) := by decide +kernel
theorem dX7_vote_23 : decode cX7_vote 23 = .ok (.aload_n 0, 1) := by decide +kernel
theorem dX7_vote_24 : decode cX7_vote 24 = .ok (.getfield 49, 3) := by decide +kernel
theorem dX7_vote_27 : decode cX7_vote 27 = .ok (.iload_n 1, 1) := by decide +kernel
theorem dX7_vote_28 : decode cX7_vote 28 = .ok (.iaload, 1) := by decide +kernel
theorem dX7_vote_29 : decode cX7_vote 29 = .ok (.aload_n 0, 1) := by decide +kernel
theorem dX7_vote_30 : decode cX7_vote 30 = .ok (.getfield 236, 3) := by decide +kernel
theorem dX7_vote_33 : decode cX7_vote 33 = .ok (.if_icmp .ne 16, 3) := by decide +kernel
theorem dX7_vote_36 : decode cX7_vote 36 = .ok (.aload_n 0, 1) := by decide +kernel
theorem dX7_vote_37 : decode cX7_vote 37 = .ok (.getfield 52, 3) := by decide +kernel
theorem dX7_vote_40 : decode cX7_vote 40 = .ok (.iload_n 1, 1) := by decide +kernel
theorem dX7_vote_41 : decode cX7_vote 41 = .ok (.iaload, 1) := by decide +kernel
theorem dX7_vote_42 : decode cX7_vote 42 = .ok (.aload_n 0, 1) := by decide +kernel
theorem dX7_vote_43 : decode cX7_vote 43 = .ok (.getfield 246, 3) := by decide +kernel
theorem dX7_vote_46 : decode cX7_vote 46 = .ok (.if_icmp .eq 9, 3) := by decide +kernel
theorem dX7_vote_49 : decode cX7_vote 49 = .ok (.iinc 1 1, 3) := by decide +kernel
theorem dX7_vote_52 : decode cX7_vote 52 = .ok (.goto (-50), 3) := by decide +kernel
theorem dX7_vote_55 : decode cX7_vote 55 = .ok (.iload_n 1, 1) := by decide +kernel
theorem dX7_vote_56 : decode cX7_vote 56 = .ok (.aload_n 0, 1) := by decide +kernel
theorem dX7_vote_57 : decode cX7_vote 57 = .ok (.getfield 259, 3) := by decide +kernel
theorem dX7_vote_60 : decode cX7_vote 60 = .ok (.if_icmp .ne 50, 3) := by decide +kernel
theorem dX7_vote_63 : decode cX7_vote 63 = .ok (.aload_n 0, 1) := by decide +kernel
theorem dX7_vote_64 : decode cX7_vote 64 = .ok (.getfield 46, 3) := by decide +kernel
theorem dX7_vote_67 : decode cX7_vote 67 = .ok (.iload_n 1, 1) := by decide +kernel
theorem dX7_vote_68 : decode cX7_vote 68 = .ok (.aload_n 0, 1) := by decide +kernel
theorem dX7_vote_69 : decode cX7_vote 69 = .ok (.getfield 233, 3) := by decide +kernel
theorem dX7_vote_72 : decode cX7_vote 72 = .ok (.iastore, 1) := by decide +kernel
theorem dX7_vote_73 : decode cX7_vote 73 = .ok (.aload_n 0, 1) := by decide +kernel
theorem dX7_vote_74 : decode cX7_vote 74 = .ok (.getfield 49, 3) := by decide +kernel
theorem dX7_vote_77 : decode cX7_vote 77 = .ok (.iload_n 1, 1) := by decide +kernel
theorem dX7_vote_78 : decode cX7_vote 78 = .ok (.aload_n 0, 1) := by decide +kernel
theorem dX7_vote_79 : decode cX7_vote 79 = .ok (.getfield 236, 3) := by decide +kernel
theorem dX7_vote_82 : decode cX7_vote 82 = .ok (.iastore, 1) := by decide +kernel
theorem dX7_vote_83 : decode cX7_vote 83 = .ok (.aload_n 0, 1) := by decide +kernel
theorem dX7_vote_84 : decode cX7_vote 84 = .ok (.getfield 52, 3) := by decide +kernel
theorem dX7_vote_87 : decode cX7_vote 87 = .ok (.iload_n 1, 1) := by decide +kernel
theorem dX7_vote_88 : decode cX7_vote 88 = .ok (.aload_n 0, 1) := by decide +kernel
theorem dX7_vote_89 : decode cX7_vote 89 = .ok (.getfield 246, 3) := by decide +kernel
theorem dX7_vote_92 : decode cX7_vote 92 = .ok (.iastore, 1) := by decide +kernel
theorem dX7_vote_93 : decode cX7_vote 93 = .ok (.aload_n 0, 1) := by decide +kernel
theorem dX7_vote_94 : decode cX7_vote 94 = .ok (.getfield 55, 3) := by decide +kernel
theorem dX7_vote_97 : decode cX7_vote 97 = .ok (.iload_n 1, 1) := by decide +kernel
theorem dX7_vote_98 : decode cX7_vote 98 = .ok (.iconst 0, 1) := by decide +kernel
theorem dX7_vote_99 : decode cX7_vote 99 = .ok (.iastore, 1) := by decide +kernel
theorem dX7_vote_100 : decode cX7_vote 100 = .ok (.aload_n 0, 1) := by decide +kernel
theorem dX7_vote_101 : decode cX7_vote 101 = .ok (.dup, 1) := by decide +kernel
theorem dX7_vote_102 : decode cX7_vote 102 = .ok (.getfield 259, 3) := by decide +kernel
theorem dX7_vote_105 : decode cX7_vote 105 = .ok (.iconst 1, 1) := by decide +kernel
theorem dX7_vote_106 : decode cX7_vote 106 = .ok (.iadd, 1) := by decide +kernel
theorem dX7_vote_107 : decode cX7_vote 107 = .ok (.putfield 259, 3) := by decide +kernel
theorem dX7_vote_110 : decode cX7_vote 110 = .ok (.aload_n 0, 1) := by decide +kernel
theorem dX7_vote_111 : decode cX7_vote 111 = .ok (.getfield 55, 3) := by decide +kernel
theorem dX7_vote_114 : decode cX7_vote 114 = .ok (.iload_n 1, 1) := by decide +kernel
theorem dX7_vote_115 : decode cX7_vote 115 = .ok (.dup2, 1) := by decide +kernel
theorem dX7_vote_116 : decode cX7_vote 116 = .ok (.iaload, 1) := by decide +kernel
theorem dX7_vote_117 : decode cX7_vote 117 = .ok (.iconst 1, 1) := by decide +kernel
theorem dX7_vote_118 : decode cX7_vote 118 = .ok (.iadd, 1) := by decide +kernel
theorem dX7_vote_119 : decode cX7_vote 119 = .ok (.iastore, 1) := by decide +kernel
theorem dX7_vote_120 : decode cX7_vote 120 = .ok (.return_, 1) := by decide +kernel
theorem dX7_isAhead_0 : decode cX7_isAhead 0 = .ok (.aload_n 0, 1) := by decide +kernel
theorem dX7_isAhead_1 : decode cX7_isAhead 1 = .ok (.getfield 55, 3) := by decide +kernel
theorem dX7_isAhead_4 : decode cX7_isAhead 4 = .ok (.iload_n 1, 1) := by decide +kernel
theorem dX7_isAhead_5 : decode cX7_isAhead 5 = .ok (.iaload, 1) := by decide +kernel
theorem dX7_isAhead_6 : decode cX7_isAhead 6 = .ok (.aload_n 0, 1) := by decide +kernel
theorem dX7_isAhead_7 : decode cX7_isAhead 7 = .ok (.getfield 55, 3) := by decide +kernel
theorem dX7_isAhead_10 : decode cX7_isAhead 10 = .ok (.iload_n 2, 1) := by decide +kernel
theorem dX7_isAhead_11 : decode cX7_isAhead 11 = .ok (.iaload, 1) := by decide +kernel
theorem dX7_isAhead_12 : decode cX7_isAhead 12 = .ok (.if_icmp .eq 24, 3) := by decide +kernel
theorem dX7_isAhead_15 : decode cX7_isAhead 15 = .ok (.aload_n 0, 1) := by decide +kernel
theorem dX7_isAhead_16 : decode cX7_isAhead 16 = .ok (.getfield 55, 3) := by decide +kernel
theorem dX7_isAhead_19 : decode cX7_isAhead 19 = .ok (.iload_n 1, 1) := by decide +kernel
theorem dX7_isAhead_20 : decode cX7_isAhead 20 = .ok (.iaload, 1) := by decide +kernel
theorem dX7_isAhead_21 : decode cX7_isAhead 21 = .ok (.aload_n 0, 1) := by decide +kernel
theorem dX7_isAhead_22 : decode cX7_isAhead 22 = .ok (.getfield 55, 3) := by decide +kernel
theorem dX7_isAhead_25 : decode cX7_isAhead 25 = .ok (.iload_n 2, 1) := by decide +kernel
theorem dX7_isAhead_26 : decode cX7_isAhead 26 = .ok (.iaload, 1) := by decide +kernel
theorem dX7_isAhead_27 : decode cX7_isAhead 27 = .ok (.if_icmp .le 7, 3) := by decide +kernel
theorem dX7_isAhead_30 : decode cX7_isAhead 30 = .ok (.iconst 1, 1) := by decide +kernel
theorem dX7_isAhead_31 : decode cX7_isAhead 31 = .ok (.goto 4, 3) := by decide +kernel
theorem dX7_isAhead_34 : decode cX7_isAhead 34 = .ok (.iconst 0, 1) := by decide +kernel
theorem dX7_isAhead_35 : decode cX7_isAhead 35 = .ok (.ireturn, 1) := by decide +kernel
theorem dX7_isAhead_36 : decode cX7_isAhead 36 = .ok (.aload_n 0, 1) := by decide +kernel
theorem dX7_isAhead_37 : decode cX7_isAhead 37 = .ok (.getfield 52, 3) := by decide +kernel
theorem dX7_isAhead_40 : decode cX7_isAhead 40 = .ok (.iload_n 1, 1) := by decide +kernel
theorem dX7_isAhead_41 : decode cX7_isAhead 41 = .ok (.iaload, 1) := by decide +kernel
theorem dX7_isAhead_42 : decode cX7_isAhead 42 = .ok (.aload_n 0, 1) := by decide +kernel
theorem dX7_isAhead_43 : decode cX7_isAhead 43 = .ok (.getfield 52, 3) := by decide +kernel
theorem dX7_isAhead_46 : decode cX7_isAhead 46 = .ok (.iload_n 2, 1) := by decide +kernel
theorem dX7_isAhead_47 : decode cX7_isAhead 47 = .ok (.iaload, 1) := by decide +kernel
theorem dX7_isAhead_48 : decode cX7_isAhead 48 = .ok (.if_icmp .eq 24, 3) := by decide +kernel
theorem dX7_isAhead_51 : decode cX7_isAhead 51 = .ok (.aload_n 0, 1) := by decide +kernel
theorem dX7_isAhead_52 : decode cX7_isAhead 52 = .ok (.getfield 52, 3) := by decide +kernel
theorem dX7_isAhead_55 : decode cX7_isAhead 55 = .ok (.iload_n 1, 1) := by decide +kernel
theorem dX7_isAhead_56 : decode cX7_isAhead 56 = .ok (.iaload, 1) := by decide +kernel
theorem dX7_isAhead_57 : decode cX7_isAhead 57 = .ok (.aload_n 0, 1) := by decide +kernel
theorem dX7_isAhead_58 : decode cX7_isAhead 58 = .ok (.getfield 52, 3) := by decide +kernel
theorem dX7_isAhead_61 : decode cX7_isAhead 61 = .ok (.iload_n 2, 1) := by decide +kernel
theorem dX7_isAhead_62 : decode cX7_isAhead 62 = .ok (.iaload, 1) := by decide +kernel
theorem dX7_isAhead_63 : decode cX7_isAhead 63 = .ok (.if_icmp .ge 7, 3) := by decide +kernel
theorem dX7_isAhead_66 : decode cX7_isAhead 66 = .ok (.iconst 1, 1) := by decide +kernel
theorem dX7_isAhead_67 : decode cX7_isAhead 67 = .ok (.goto 4, 3) := by decide +kernel
theorem dX7_isAhead_70 : decode cX7_isAhead 70 = .ok (.iconst 0, 1) := by decide +kernel
theorem dX7_isAhead_71 : decode cX7_isAhead 71 = .ok (.ireturn, 1) := by decide +kernel
theorem dX7_isAhead_72 : decode cX7_isAhead 72 = .ok (.aload_n 0, 1) := by decide +kernel
theorem dX7_isAhead_73 : decode cX7_isAhead 73 = .ok (.getfield 49, 3) := by decide +kernel
theorem dX7_isAhead_76 : decode cX7_isAhead 76 = .ok (.iload_n 1, 1) := by decide +kernel
theorem dX7_isAhead_77 : decode cX7_isAhead 77 = .ok (.iaload, 1) := by decide +kernel
theorem dX7_isAhead_78 : decode cX7_isAhead 78 = .ok (.aload_n 0, 1) := by decide +kernel
theorem dX7_isAhead_79 : decode cX7_isAhead 79 = .ok (.getfield 49, 3) := by decide +kernel
theorem dX7_isAhead_82 : decode cX7_isAhead 82 = .ok (.iload_n 2, 1) := by decide +kernel
theorem dX7_isAhead_83 : decode cX7_isAhead 83 = .ok (.iaload, 1) := by decide +kernel
theorem dX7_isAhead_84 : decode cX7_isAhead 84 = .ok (.if_icmp .lt 33, 3) := by decide +kernel
theorem dX7_isAhead_87 : decode cX7_isAhead 87 = .ok (.aload_n 0, 1) := by decide +kernel
theorem dX7_isAhead_88 : decode cX7_isAhead 88 = .ok (.getfield 49, 3) := by decide +kernel
theorem dX7_isAhead_91 : decode cX7_isAhead 91 = .ok (.iload_n 1, 1) := by decide +kernel
theorem dX7_isAhead_92 : decode cX7_isAhead 92 = .ok (.iaload, 1) := by decide +kernel
theorem dX7_isAhead_93 : decode cX7_isAhead 93 = .ok (.aload_n 0, 1) := by decide +kernel
theorem dX7_isAhead_94 : decode cX7_isAhead 94 = .ok (.getfield 49, 3) := by decide +kernel
theorem dX7_isAhead_97 : decode cX7_isAhead 97 = .ok (.iload_n 2, 1) := by decide +kernel
theorem dX7_isAhead_98 : decode cX7_isAhead 98 = .ok (.iaload, 1) := by decide +kernel
theorem dX7_isAhead_99 : decode cX7_isAhead 99 = .ok (.if_icmp .ne 22, 3) := by decide +kernel
theorem dX7_isAhead_102 : decode cX7_isAhead 102 = .ok (.aload_n 0, 1) := by decide +kernel
theorem dX7_isAhead_103 : decode cX7_isAhead 103 = .ok (.getfield 46, 3) := by decide +kernel
theorem dX7_isAhead_106 : decode cX7_isAhead 106 = .ok (.iload_n 1, 1) := by decide +kernel
theorem dX7_isAhead_107 : decode cX7_isAhead 107 = .ok (.iaload, 1) := by decide +kernel
theorem dX7_isAhead_108 : decode cX7_isAhead 108 = .ok (.aload_n 0, 1) := by decide +kernel
theorem dX7_isAhead_109 : decode cX7_isAhead 109 = .ok (.getfield 46, 3) := by decide +kernel
theorem dX7_isAhead_112 : decode cX7_isAhead 112 = .ok (.iload_n 2, 1) := by decide +kernel
theorem dX7_isAhead_113 : decode cX7_isAhead 113 = .ok (.iaload, 1) := by decide +kernel
theorem dX7_isAhead_114 : decode cX7_isAhead 114 = .ok (.if_icmp .ge 7, 3) := by decide +kernel
theorem dX7_isAhead_117 : decode cX7_isAhead 117 = .ok (.iconst 1, 1) := by decide +kernel
theorem dX7_isAhead_118 : decode cX7_isAhead 118 = .ok (.goto 4, 3) := by decide +kernel
theorem dX7_isAhead_121 : decode cX7_isAhead 121 = .ok (.iconst 0, 1) := by decide +kernel
theorem dX7_isAhead_122 : decode cX7_isAhead 122 = .ok (.ireturn, 1) := by decide +kernel
theorem dX7_swap_0 : decode cX7_swap 0 = .ok (.aload_n 0, 1) := by decide +kernel
theorem dX7_swap_1 : decode cX7_swap 1 = .ok (.iload_n 1, 1) := by decide +kernel
theorem dX7_swap_2 : decode cX7_swap 2 = .ok (.iaload, 1) := by decide +kernel
theorem dX7_swap_3 : decode cX7_swap 3 = .ok (.istore_n 3, 1) := by decide +kernel
theorem dX7_swap_4 : decode cX7_swap 4 = .ok (.aload_n 0, 1) := by decide +kernel
theorem dX7_swap_5 : decode cX7_swap 5 = .ok (.iload_n 1, 1) := by decide +kernel
theorem dX7_swap_6 : decode cX7_swap 6 = .ok (.aload_n 0, 1) := by decide +kernel
theorem dX7_swap_7 : decode cX7_swap 7 = .ok (.iload_n 2, 1) := by decide +kernel
theorem dX7_swap_8 : decode cX7_swap 8 = .ok (.iaload, 1) := by decide +kernel
theorem dX7_swap_9 : decode cX7_swap 9 = .ok (.iastore, 1) := by decide +kernel
theorem dX7_swap_10 : decode cX7_swap 10 = .ok (.aload_n 0, 1) := by decide +kernel
theorem dX7_swap_11 : decode cX7_swap 11 = .ok (.iload_n 2, 1) := by decide +kernel
theorem dX7_swap_12 : decode cX7_swap 12 = .ok (.iload_n 3, 1) := by decide +kernel
theorem dX7_swap_13 : decode cX7_swap 13 = .ok (.iastore, 1) := by decide +kernel
theorem dX7_swap_14 : decode cX7_swap 14 = .ok (.return_, 1) := by decide +kernel
set_option maxRecDepth 20000 in
theorem ggX7_swapSpots_X7_swap : GoodIn wsX7_swapSpots wsX7_swap := goodIn_r _ [8] (by decide +kernel) (by decide +kernel)
set_option maxRecDepth 20000 in
theorem gX7_swapSpots_X7_swap : GoodIn wsX7_swapSpots (va_wsS RX7 262 yX7_swap wsX7_swap) := goodIn_app (goodIn_of _ (by decide +kernel)) ggX7_swapSpots_X7_swap
theorem dX7_swapSpots_0 : decode cX7_swapSpots 0 = .ok (.aload_n 0, 1) := by decide +kernel
theorem dX7_swapSpots_1 : decode cX7_swapSpots 1 = .ok (.getfield 46, 3) := by decide +kernel
theorem dX7_swapSpots_4 : decode cX7_swapSpots 4 = .ok (.iload_n 1, 1) := by decide +kernel
theorem dX7_swapSpots_5 : decode cX7_swapSpots 5 = .ok (.iload_n 2, 1) := by decide +kernel
theorem dX7_swapSpots_6 : decode cX7_swapSpots 6 = .ok (.invokestatic 262, 3) := by decide +kernel
theorem dX7_swapSpots_9 : decode cX7_swapSpots 9 = .ok (.aload_n 0, 1) := by decide +kernel
theorem dX7_swapSpots_10 : decode cX7_swapSpots 10 = .ok (.getfield 49, 3) := by decide +kernel
theorem dX7_swapSpots_13 : decode cX7_swapSpots 13 = .ok (.iload_n 1, 1) := by decide +kernel
theorem dX7_swapSpots_14 : decode cX7_swapSpots 14 = .ok (.iload_n 2, 1) := by decide +kernel
theorem dX7_swapSpots_15 : decode cX7_swapSpots 15 = .ok (.invokestatic 262, 3) := by decide +kernel
theorem dX7_swapSpots_18 : decode cX7_swapSpots 18 = .ok (.aload_n 0, 1) := by decide +kernel
theorem dX7_swapSpots_19 : decode cX7_swapSpots 19 = .ok (.getfield 52, 3) := by decide +kernel
theorem dX7_swapSpots_22 : decode cX7_swapSpots 22 = .ok (.iload_n 1, 1) := by decide +kernel
theorem dX7_swapSpots_23 : decode cX7_swapSpots 23 = .ok (.iload_n 2, 1) := by decide +kernel
theorem dX7_swapSpots_24 : decode cX7_swapSpots 24 = .ok (.invokestatic 262, 3) := by decide +kernel
theorem dX7_swapSpots_27 : decode cX7_swapSpots 27 = .ok (.aload_n 0, 1) := by decide +kernel
theorem dX7_swapSpots_28 : decode cX7_swapSpots 28 = .ok (.getfield 55, 3) := by decide +kernel
theorem dX7_swapSpots_31 : decode cX7_swapSpots 31 = .ok (.iload_n 1, 1) := by decide +kernel
theorem dX7_swapSpots_32 : decode cX7_swapSpots 32 = .ok (.iload_n 2, 1) := by decide +kernel
theorem dX7_swapSpots_33 : decode cX7_swapSpots 33 = .ok (.invokestatic 262, 3) := by decide +kernel
theorem dX7_swapSpots_36 : decode cX7_swapSpots 36 = .ok (.return_, 1) := by decide +kernel
set_option maxRecDepth 20000 in
theorem ggX7_laySpots_X7_layVote : GoodIn wsX7_laySpots wsX7_layVote := goodIn_r _ [9, 3, 2, 10, 11, 12, 8, 13, 14, 15, 16, 17, 18, 19, 20, 21, 22, 23, 24, 25, 26, 27, 28, 29, 30, 31, 32, 33, 34, 35, 36, 37, 38, 39, 40, 41, 42, 43, 44, 45, 46, 47, 48, 49, 50, 51, 52, 53, 54, 55, 56, 57, 58, 59, 60, 61, 62, 63, 64, 1, 65, 66, 67, 68, 80, 81, 82, 83, 84, 85, 86, 87, 88, 89, 90, 91, 92, 93, 94, 95, 96, 97, 98, 99, 100, 101, 102, 103, 104, 105, 106, 107, 108, 109, 110, 111, 112, 113, 114, 115, 116, 117, 118, 119, 120, 121, 122, 123] (by decide +kernel) (by decide +kernel)
set_option maxRecDepth 20000 in
theorem gX7_laySpots_X7_layVote : GoodIn wsX7_laySpots (wsV RX7 272 RX7 yX7_layVote wsX7_layVote) := goodIn_app (goodIn_of _ (by decide +kernel)) ggX7_laySpots_X7_layVote
set_option maxRecDepth 20000 in
theorem ggX7_laySpots_X7_isAhead : GoodIn wsX7_laySpots wsX7_isAhead := goodIn_r _ [72, 68, 67, 66, 65, 80, 81, 82, 83, 84, 85, 86, 87, 88, 89, 90, 91, 92, 93, 94, 95, 96, 97, 98, 99, 100, 101, 102, 103, 104, 105, 106, 107, 108, 109, 110, 111, 112, 113, 114, 115, 116, 117, 118, 119, 120, 121, 122, 123] (by decide +kernel) (by decide +kernel)
set_option maxRecDepth 20000 in
theorem gX7_laySpots_X7_isAhead : GoodIn wsX7_laySpots (wsV RX7 275 RX7 yX7_isAhead wsX7_isAhead) := goodIn_app (goodIn_of _ (by decide +kernel)) ggX7_laySpots_X7_isAhead
set_option maxRecDepth 20000 in
theorem ggX7_laySpots_X7_swapSpots : GoodIn wsX7_laySpots wsX7_swapSpots := goodIn_r _ [76, 65, 66, 67, 68, 77, 78, 8, 79, 80, 81, 82, 83, 84, 85, 86, 87, 88, 89, 90, 91, 92, 93, 94, 95, 96, 97, 98, 99, 100, 101, 102, 103, 104, 105, 106, 107, 108, 109, 110, 111, 112, 113, 114, 115, 116, 117, 118, 119, 120, 121, 122, 123] (by decide +kernel) (by decide +kernel)
set_option maxRecDepth 20000 in
theorem gX7_laySpots_X7_swapSpots : GoodIn wsX7_laySpots (wsV RX7 278 RX7 yX7_swapSpots wsX7_swapSpots) := goodIn_app (goodIn_of _ (by decide +kernel)) ggX7_laySpots_X7_swapSpots
theorem dX7_laySpots_0 : decode cX7_laySpots 0 = .ok (.aload_n 0, 1) := by decide +kernel
theorem dX7_laySpots_1 : decode cX7_laySpots 1 = .ok (.iconst 0, 1) := by decide +kernel
theorem dX7_laySpots_2 : decode cX7_laySpots 2 = .ok (.putfield 259, 3) := by decide +kernel
theorem dX7_laySpots_5 : decode cX7_laySpots 5 = .ok (.aload_n 0, 1) := by decide +kernel
theorem dX7_laySpots_6 : decode cX7_laySpots 6 = .ok (.iconst 0, 1) := by decide +kernel
theorem dX7_laySpots_7 : decode cX7_laySpots 7 = .ok (.putfield 266, 3) := by decide +kernel
theorem dX7_laySpots_10 : decode cX7_laySpots 10 = .ok (.aload_n 0, 1) := by decide +kernel
theorem dX7_laySpots_11 : decode cX7_laySpots 11 = .ok (.iconst 0, 1) := by decide +kernel
theorem dX7_laySpots_12 : decode cX7_laySpots 12 = .ok (.putfield 269, 3) := by decide +kernel
theorem dX7_laySpots_15 : decode cX7_laySpots 15 = .ok (.iconst 0, 1) := by decide +kernel
theorem dX7_laySpots_16 : decode cX7_laySpots 16 = .ok (.istore_n 1, 1) := by decide +kernel
theorem dX7_laySpots_17 : decode cX7_laySpots 17 = .ok (.iload_n 1, 1) := by decide +kernel
theorem dX7_laySpots_18 : decode cX7_laySpots 18 = .ok (.aload_n 0, 1) := by decide +kernel
theorem dX7_laySpots_19 : decode cX7_laySpots 19 = .ok (.getfield 121, 3) := by decide +kernel
theorem dX7_laySpots_22 : decode cX7_laySpots 22 = .ok (.if_icmp .ge 52, 3) := by decide +kernel
theorem dX7_laySpots_25 : decode cX7_laySpots 25 = .ok (.iload_n 1, 1) := by decide +kernel
theorem dX7_laySpots_26 : decode cX7_laySpots 26 = .ok (.iconst 1, 1) := by decide +kernel
theorem dX7_laySpots_27 : decode cX7_laySpots 27 = .ok (.iadd, 1) := by decide +kernel
theorem dX7_laySpots_28 : decode cX7_laySpots 28 = .ok (.istore_n 2, 1) := by decide +kernel
theorem dX7_laySpots_29 : decode cX7_laySpots 29 = .ok (.iload_n 2, 1) := by decide +kernel
theorem dX7_laySpots_30 : decode cX7_laySpots 30 = .ok (.aload_n 0, 1) := by decide +kernel
theorem dX7_laySpots_31 : decode cX7_laySpots 31 = .ok (.getfield 121, 3) := by decide +kernel
theorem dX7_laySpots_34 : decode cX7_laySpots 34 = .ok (.if_icmp .ge 34, 3) := by decide +kernel
theorem dX7_laySpots_37 : decode cX7_laySpots 37 = .ok (.iload_n 2, 1) := by decide +kernel
theorem dX7_laySpots_38 : decode cX7_laySpots 38 = .ok (.iconst 1, 1) := by decide +kernel
theorem dX7_laySpots_39 : decode cX7_laySpots 39 = .ok (.iadd, 1) := by decide +kernel
theorem dX7_laySpots_40 : decode cX7_laySpots 40 = .ok (.istore_n 3, 1) := by decide +kernel
theorem dX7_laySpots_41 : decode cX7_laySpots 41 = .ok (.iload_n 3, 1) := by decide +kernel
theorem dX7_laySpots_42 : decode cX7_laySpots 42 = .ok (.aload_n 0, 1) := by decide +kernel
theorem dX7_laySpots_43 : decode cX7_laySpots 43 = .ok (.getfield 121, 3) := by decide +kernel
theorem dX7_laySpots_46 : decode cX7_laySpots 46 = .ok (.if_icmp .ge 16, 3) := by decide +kernel
theorem dX7_laySpots_49 : decode cX7_laySpots 49 = .ok (.aload_n 0, 1) := by decide +kernel
theorem dX7_laySpots_50 : decode cX7_laySpots 50 = .ok (.iload_n 1, 1) := by decide +kernel
theorem dX7_laySpots_51 : decode cX7_laySpots 51 = .ok (.iload_n 2, 1) := by decide +kernel
theorem dX7_laySpots_52 : decode cX7_laySpots 52 = .ok (.iload_n 3, 1) := by decide +kernel
theorem dX7_laySpots_53 : decode cX7_laySpots 53 = .ok (.invokevirtual 272, 3) := by decide +kernel
theorem dX7_laySpots_56 : decode cX7_laySpots 56 = .ok (.iinc 3 1, 3) := by decide +kernel
theorem dX7_laySpots_59 : decode cX7_laySpots 59 = .ok (.goto (-18), 3) := by decide +kernel
theorem dX7_laySpots_62 : decode cX7_laySpots 62 = .ok (.iinc 2 1, 3) := by decide +kernel
theorem dX7_laySpots_65 : decode cX7_laySpots 65 = .ok (.goto (-36), 3) := by decide +kernel
theorem dX7_laySpots_68 : decode cX7_laySpots 68 = .ok (.iinc 1 1, 3) := by decide +kernel
theorem dX7_laySpots_71 : decode cX7_laySpots 71 = .ok (.goto (-54), 3) := by decide +kernel
theorem dX7_laySpots_74 : decode cX7_laySpots 74 = .ok (.iconst 1, 1) := by decide +kernel
theorem dX7_laySpots_75 : decode cX7_laySpots 75 = .ok (.istore_n 1, 1) := by decide +kernel
theorem dX7_laySpots_76 : decode cX7_laySpots 76 = .ok (.iload_n 1, 1) := by decide +kernel
theorem dX7_laySpots_77 : decode cX7_laySpots 77 = .ok (.aload_n 0, 1) := by decide +kernel
theorem dX7_laySpots_78 : decode cX7_laySpots 78 = .ok (.getfield 259, 3) := by decide +kernel
theorem dX7_laySpots_81 : decode cX7_laySpots 81 = .ok (.if_icmp .ge 40, 3) := by decide +kernel
theorem dX7_laySpots_84 : decode cX7_laySpots 84 = .ok (.iload_n 1, 1) := by decide +kernel
theorem dX7_laySpots_85 : decode cX7_laySpots 85 = .ok (.istore_n 2, 1) := by decide +kernel
theorem dX7_laySpots_86 : decode cX7_laySpots 86 = .ok (.iload_n 2, 1) := by decide +kernel
theorem dX7_laySpots_87 : decode cX7_laySpots 87 = .ok (.ifCond .le 28, 3) := by decide +kernel
theorem dX7_laySpots_90 : decode cX7_laySpots 90 = .ok (.aload_n 0, 1) := by decide +kernel
theorem dX7_laySpots_91 : decode cX7_laySpots 91 = .ok (.iload_n 2, 1) := by decide +kernel
theorem dX7_laySpots_92 : decode cX7_laySpots 92 = .ok (.iload_n 2, 1) := by decide +kernel
theorem dX7_laySpots_93 : decode cX7_laySpots 93 = .ok (.iconst 1, 1) := by decide +kernel
theorem dX7_laySpots_94 : decode cX7_laySpots 94 = .ok (.isub, 1) := by decide +kernel
theorem dX7_laySpots_95 : decode cX7_laySpots 95 = .ok (.invokevirtual 275, 3) := by decide +kernel
theorem dX7_laySpots_98 : decode cX7_laySpots 98 = .ok (.ifCond .eq 17, 3) := by decide +kernel
theorem dX7_laySpots_101 : decode cX7_laySpots 101 = .ok (.aload_n 0, 1) := by decide +kernel
theorem dX7_laySpots_102 : decode cX7_laySpots 102 = .ok (.iload_n 2, 1) := by decide +kernel
theorem dX7_laySpots_103 : decode cX7_laySpots 103 = .ok (.iload_n 2, 1) := by decide +kernel
theorem dX7_laySpots_104 : decode cX7_laySpots 104 = .ok (.iconst 1, 1) := by decide +kernel
theorem dX7_laySpots_105 : decode cX7_laySpots 105 = .ok (.isub, 1) := by decide +kernel
theorem dX7_laySpots_106 : decode cX7_laySpots 106 = .ok (.invokevirtual 278, 3) := by decide +kernel
theorem dX7_laySpots_109 : decode cX7_laySpots 109 = .ok (.iinc 2 (-1), 3) := by decide +kernel
theorem dX7_laySpots_112 : decode cX7_laySpots 112 = .ok (.goto (-26), 3) := by decide +kernel
theorem dX7_laySpots_115 : decode cX7_laySpots 115 = .ok (.iinc 1 1, 3) := by decide +kernel
theorem dX7_laySpots_118 : decode cX7_laySpots 118 = .ok (.goto (-42), 3) := by decide +kernel
theorem dX7_laySpots_121 : decode cX7_laySpots 121 = .ok (.return_, 1) := by decide +kernel
set_option maxRecDepth 20000 in
theorem ggX7_layVote_X7_layMiddle : GoodIn wsX7_layVote wsX7_layMiddle := goodIn_r _ [7, 8, 9, 10, 11, 12, 13, 14, 64, 65, 66, 67, 68, 69, 70, 71, 72, 73, 74, 75, 76, 77, 78, 79, 80, 81, 82, 83, 84, 85, 86, 87, 88, 89, 90, 91, 92, 93, 94, 95, 96, 97, 98, 99, 100, 101, 102, 103, 104, 105, 106, 107] (by decide +kernel) (by decide +kernel)
set_option maxRecDepth 20000 in
theorem gX7_layVote_X7_layMiddle : GoodIn wsX7_layVote (wsV RX7 252 RX7 yX7_layMiddle wsX7_layMiddle) := goodIn_app (goodIn_of _ (by decide +kernel)) ggX7_layVote_X7_layMiddle
set_option maxRecDepth 20000 in
theorem ggX7_layVote_X7_isVote : GoodIn wsX7_layVote wsX7_isVote := goodIn_r _ [18, 13, 11, 19, 14, 20, 21, 22, 23, 24, 6, 25, 26, 27, 28, 29, 30, 31, 32, 33, 34, 35, 36, 37, 38, 39, 40, 41, 42, 43, 8, 9, 44, 45, 46, 47, 48, 49, 50, 51, 52, 53, 54, 10, 64, 65, 66, 67, 68, 69, 70, 71, 72, 73, 74, 75, 76, 77, 78, 79, 80, 81, 82, 83, 84, 85, 86, 87, 88, 89, 90, 91, 92, 93, 94, 95, 96, 97, 98, 99, 100, 101, 102, 103, 104, 105, 106, 107] (by decide +kernel) (by decide +kernel)
set_option maxRecDepth 20000 in
theorem gX7_layVote_X7_isVote : GoodIn wsX7_layVote (wsV RX7 249 RX7 yX7_isVote wsX7_isVote) := goodIn_app (goodIn_of _ (by decide +kernel)) ggX7_layVote_X7_isVote
set_option maxRecDepth 20000 in
theorem ggX7_layVote_X7_vote : GoodIn wsX7_layVote wsX7_vote := goodIn_r _ [58, 59, 60, 19, 61, 20, 62, 21, 63, 64, 65, 66, 67, 68, 69, 70, 71, 72, 73, 74, 75, 76, 77, 78, 79, 80, 81, 82, 83, 84, 85, 86, 87, 88, 89, 90, 91, 92, 93, 94, 95, 96, 97, 98, 99, 100, 101, 102, 103, 104, 105, 106, 107] (by decide +kernel) (by decide +kernel)
set_option maxRecDepth 20000 in
theorem gX7_layVote_X7_vote : GoodIn wsX7_layVote (wsV RX7 282 RX7 yX7_vote wsX7_vote) := goodIn_app (goodIn_of _ (by decide +kernel)) ggX7_layVote_X7_vote
theorem dX7_layVote_0 : decode cX7_layVote 0 = .ok (.aload_n 0, 1) := by decide +kernel
theorem dX7_layVote_1 : decode cX7_layVote 1 = .ok (.iload_n 1, 1) := by decide +kernel
theorem dX7_layVote_2 : decode cX7_layVote 2 = .ok (.iload_n 2, 1) := by decide +kernel
theorem dX7_layVote_3 : decode cX7_layVote 3 = .ok (.iload_n 3, 1) := by decide +kernel
theorem dX7_layVote_4 : decode cX7_layVote 4 = .ok (.invokevirtual 252, 3) := by decide +kernel
theorem dX7_layVote_7 : decode cX7_layVote 7 = .ok (.ifCond .eq 37, 3) := by decide +kernel
theorem dX7_layVote_10 : decode cX7_layVote 10 = .ok (.aload_n 0, 1) := by decide +kernel
theorem dX7_layVote_11 : decode cX7_layVote 11 = .ok (.dup, 1) := by decide +kernel
theorem dX7_layVote_12 : decode cX7_layVote 12 = .ok (.getfield 269, 3) := by decide +kernel
theorem dX7_layVote_15 : decode cX7_layVote 15 = .ok (.iconst 1, 1) := by decide +kernel
theorem dX7_layVote_16 : decode cX7_layVote 16 = .ok (.iadd, 1) := by decide +kernel
theorem dX7_layVote_17 : decode cX7_layVote 17 = .ok (.putfield 269, 3) := by decide +kernel
theorem dX7_layVote_20 : decode cX7_layVote 20 = .ok (.aload_n 0, 1) := by decide +kernel
theorem dX7_layVote_21 : decode cX7_layVote 21 = .ok (.iload_n 1, 1) := by decide +kernel
theorem dX7_layVote_22 : decode cX7_layVote 22 = .ok (.iload_n 2, 1) := by decide +kernel
theorem dX7_layVote_23 : decode cX7_layVote 23 = .ok (.iload_n 3, 1) := by decide +kernel
theorem dX7_layVote_24 : decode cX7_layVote 24 = .ok (.invokevirtual 249, 3) := by decide +kernel
theorem dX7_layVote_27 : decode cX7_layVote 27 = .ok (.ifCond .eq 17, 3) := by decide +kernel
theorem dX7_layVote_30 : decode cX7_layVote 30 = .ok (.aload_n 0, 1) := by decide +kernel
theorem dX7_layVote_31 : decode cX7_layVote 31 = .ok (.dup, 1) := by decide +kernel
theorem dX7_layVote_32 : decode cX7_layVote 32 = .ok (.getfield 266, 3) := by decide +kernel
theorem dX7_layVote_35 : decode cX7_layVote 35 = .ok (.iconst 1, 1) := by decide +kernel
theorem dX7_layVote_36 : decode cX7_layVote 36 = .ok (.iadd, 1) := by decide +kernel
theorem dX7_layVote_37 : decode cX7_layVote 37 = .ok (.putfield 266, 3) := by decide +kernel
theorem dX7_layVote_40 : decode cX7_layVote 40 = .ok (.aload_n 0, 1) := by decide +kernel
theorem dX7_layVote_41 : decode cX7_layVote 41 = .ok (.invokevirtual 282, 3) := by decide +kernel
theorem dX7_layVote_44 : decode cX7_layVote 44 = .ok (.return_, 1) := by decide +kernel
set_option maxRecDepth 20000 in
theorem ggX7_votes_X7_isSheet : GoodIn wsX7_votes wsX7_isSheet := goodIn_r _ [10, 11, 88, 89, 90, 91, 92, 93, 94, 95, 96, 97, 98, 99, 100, 101, 102, 103, 104, 105, 106, 107, 108, 109, 110, 111, 112, 113, 114, 115, 116, 117, 118, 119, 120, 121, 122, 123, 124, 125, 126, 127, 128, 129, 130, 131] (by decide +kernel) (by decide +kernel)
set_option maxRecDepth 20000 in
theorem gX7_votes_X7_isSheet : GoodIn wsX7_votes (wsV RX7 150 RX7 yX7_isSheet wsX7_isSheet) := goodIn_app (goodIn_of _ (by decide +kernel)) ggX7_votes_X7_isSheet
set_option maxRecDepth 20000 in
theorem ggX7_votes_X7_laySpots : GoodIn wsX7_votes wsX7_laySpots := goodIn_r _ [15, 1, 16, 17, 18, 19, 20, 21, 9, 22, 23, 24, 25, 26, 27, 28, 29, 30, 31, 32, 33, 34, 35, 36, 37, 38, 39, 40, 41, 42, 43, 44, 45, 46, 47, 48, 11, 49, 50, 51, 52, 53, 54, 55, 56, 57, 58, 59, 60, 61, 62, 63, 64, 65, 66, 67, 68, 69, 70, 71, 72, 73, 74, 75, 76, 2, 3, 4, 5, 77, 78, 79, 80, 81, 82, 83, 84, 85, 86, 87, 88, 89, 90, 91, 92, 93, 94, 95, 96, 97, 98, 99, 100, 101, 102, 103, 104, 105, 106, 107, 108, 109, 110, 111, 112, 113, 114, 115, 116, 117, 118, 119, 120, 121, 122, 123, 124, 125, 126, 127, 128, 129, 130, 131] (by decide +kernel) (by decide +kernel)
set_option maxRecDepth 20000 in
theorem gX7_votes_X7_laySpots : GoodIn wsX7_votes (wsV RX7 285 RX7 yX7_laySpots wsX7_laySpots) := goodIn_app (goodIn_of _ (by decide +kernel)) ggX7_votes_X7_laySpots
theorem dX7_votes_0 : decode cX7_votes 0 = .ok (.aload_n 0, 1) := by decide +kernel
theorem dX7_votes_1 : decode cX7_votes 1 = .ok (.invokevirtual 150, 3) := by decide +kernel
theorem dX7_votes_4 : decode cX7_votes 4 = .ok (.ifCond .ne 6, 3) := by decide +kernel
theorem dX7_votes_7 : decode cX7_votes 7 = .ok (.bipush (-103), 2) := by decide +kernel
theorem dX7_votes_9 : decode cX7_votes 9 = .ok (.ireturn, 1) := by decide +kernel
theorem dX7_votes_10 : decode cX7_votes 10 = .ok (.aload_n 0, 1) := by decide +kernel
theorem dX7_votes_11 : decode cX7_votes 11 = .ok (.invokevirtual 285, 3) := by decide +kernel
theorem dX7_votes_14 : decode cX7_votes 14 = .ok (.iconst 0, 1) := by decide +kernel
theorem dX7_votes_15 : decode cX7_votes 15 = .ok (.istore 4, 2) := by decide +kernel
theorem dX7_votes_17 : decode cX7_votes 17 = .ok (.iconst 0, 1) := by decide +kernel
theorem dX7_votes_18 : decode cX7_votes 18 = .ok (.istore 5, 2) := by decide +kernel
theorem dX7_votes_20 : decode cX7_votes 20 = .ok (.iload 5, 2) := by decide +kernel
theorem dX7_votes_22 : decode cX7_votes 22 = .ok (.aload_n 0, 1) := by decide +kernel
theorem dX7_votes_23 : decode cX7_votes 23 = .ok (.getfield 259, 3) := by decide +kernel
theorem dX7_votes_26 : decode cX7_votes 26 = .ok (.if_icmp .ge 56, 3) := by decide +kernel
theorem dX7_votes_29 : decode cX7_votes 29 = .ok (.aload_n 0, 1) := by decide +kernel
theorem dX7_votes_30 : decode cX7_votes 30 = .ok (.getfield 46, 3) := by decide +kernel
theorem dX7_votes_33 : decode cX7_votes 33 = .ok (.iload 5, 2) := by decide +kernel
theorem dX7_votes_35 : decode cX7_votes 35 = .ok (.iaload, 1) := by decide +kernel
theorem dX7_votes_36 : decode cX7_votes 36 = .ok (.iload_n 1, 1) := by decide +kernel
theorem dX7_votes_37 : decode cX7_votes 37 = .ok (.if_icmp .ne 35, 3) := by decide +kernel
theorem dX7_votes_40 : decode cX7_votes 40 = .ok (.aload_n 0, 1) := by decide +kernel
theorem dX7_votes_41 : decode cX7_votes 41 = .ok (.getfield 49, 3) := by decide +kernel
theorem dX7_votes_44 : decode cX7_votes 44 = .ok (.iload 5, 2) := by decide +kernel
theorem dX7_votes_46 : decode cX7_votes 46 = .ok (.iaload, 1) := by decide +kernel
theorem dX7_votes_47 : decode cX7_votes 47 = .ok (.iload_n 2, 1) := by decide +kernel
theorem dX7_votes_48 : decode cX7_votes 48 = .ok (.if_icmp .ne 24, 3) := by decide +kernel
theorem dX7_votes_51 : decode cX7_votes 51 = .ok (.aload_n 0, 1) := by decide +kernel
theorem dX7_votes_52 : decode cX7_votes 52 = .ok (.getfield 52, 3) := by decide +kernel
theorem dX7_votes_55 : decode cX7_votes 55 = .ok (.iload 5, 2) := by decide +kernel
theorem dX7_votes_57 : decode cX7_votes 57 = .ok (.iaload, 1) := by decide +kernel
theorem dX7_votes_58 : decode cX7_votes 58 = .ok (.iload_n 3, 1) := by decide +kernel
theorem dX7_votes_59 : decode cX7_votes 59 = .ok (.if_icmp .ne 13, 3) := by decide +kernel
theorem dX7_votes_62 : decode cX7_votes 62 = .ok (.aload_n 0, 1) := by decide +kernel
theorem dX7_votes_63 : decode cX7_votes 63 = .ok (.getfield 55, 3) := by decide +kernel
theorem dX7_votes_66 : decode cX7_votes 66 = .ok (.iload 5, 2) := by decide +kernel
theorem dX7_votes_68 : decode cX7_votes 68 = .ok (.iaload, 1) := by decide +kernel
theorem dX7_votes_69 : decode cX7_votes 69 = .ok (.goto 5, 3) := by decide +kernel
theorem dX7_votes_72 : decode cX7_votes 72 = .ok (.iload 4, 2) := by decide +kernel
theorem dX7_votes_74 : decode cX7_votes 74 = .ok (.istore 4, 2) := by decide +kernel
theorem dX7_votes_76 : decode cX7_votes 76 = .ok (.iinc 5 1, 3) := by decide +kernel
theorem dX7_votes_79 : decode cX7_votes 79 = .ok (.goto (-59), 3) := by decide +kernel
theorem dX7_votes_82 : decode cX7_votes 82 = .ok (.iload 4, 2) := by decide +kernel
theorem dX7_votes_84 : decode cX7_votes 84 = .ok (.ireturn, 1) := by decide +kernel
theorem dX7_farOf_0 : decode cX7_farOf 0 = .ok (.iconst 2, 1) := by decide +kernel
theorem dX7_farOf_1 : decode cX7_farOf 1 = .ok (.aload_n 0, 1) := by decide +kernel
theorem dX7_farOf_2 : decode cX7_farOf 2 = .ok (.getfield 13, 3) := by decide +kernel
theorem dX7_farOf_5 : decode cX7_farOf 5 = .ok (.iload_n 3, 1) := by decide +kernel
theorem dX7_farOf_6 : decode cX7_farOf 6 = .ok (.iaload, 1) := by decide +kernel
theorem dX7_farOf_7 : decode cX7_farOf 7 = .ok (.imul, 1) := by decide +kernel
theorem dX7_farOf_8 : decode cX7_farOf 8 = .ok (.iconst 2, 1) := by decide +kernel
theorem dX7_farOf_9 : decode cX7_farOf 9 = .ok (.iload_n 1, 1) := by decide +kernel
theorem dX7_farOf_10 : decode cX7_farOf 10 = .ok (.imul, 1) := by decide +kernel
theorem dX7_farOf_11 : decode cX7_farOf 11 = .ok (.isub, 1) := by decide +kernel
theorem dX7_farOf_12 : decode cX7_farOf 12 = .ok (.iconst 1, 1) := by decide +kernel
theorem dX7_farOf_13 : decode cX7_farOf 13 = .ok (.isub, 1) := by decide +kernel
theorem dX7_farOf_14 : decode cX7_farOf 14 = .ok (.istore 4, 2) := by decide +kernel
theorem dX7_farOf_16 : decode cX7_farOf 16 = .ok (.iconst 2, 1) := by decide +kernel
theorem dX7_farOf_17 : decode cX7_farOf 17 = .ok (.aload_n 0, 1) := by decide +kernel
theorem dX7_farOf_18 : decode cX7_farOf 18 = .ok (.getfield 16, 3) := by decide +kernel
theorem dX7_farOf_21 : decode cX7_farOf 21 = .ok (.iload_n 3, 1) := by decide +kernel
theorem dX7_farOf_22 : decode cX7_farOf 22 = .ok (.iaload, 1) := by decide +kernel
theorem dX7_farOf_23 : decode cX7_farOf 23 = .ok (.imul, 1) := by decide +kernel
theorem dX7_farOf_24 : decode cX7_farOf 24 = .ok (.iconst 2, 1) := by decide +kernel
theorem dX7_farOf_25 : decode cX7_farOf 25 = .ok (.iload_n 2, 1) := by decide +kernel
theorem dX7_farOf_26 : decode cX7_farOf 26 = .ok (.imul, 1) := by decide +kernel
theorem dX7_farOf_27 : decode cX7_farOf 27 = .ok (.isub, 1) := by decide +kernel
theorem dX7_farOf_28 : decode cX7_farOf 28 = .ok (.iconst 1, 1) := by decide +kernel
theorem dX7_farOf_29 : decode cX7_farOf 29 = .ok (.isub, 1) := by decide +kernel
theorem dX7_farOf_30 : decode cX7_farOf 30 = .ok (.istore 5, 2) := by decide +kernel
theorem dX7_farOf_32 : decode cX7_farOf 32 = .ok (.iload 4, 2) := by decide +kernel
theorem dX7_farOf_34 : decode cX7_farOf 34 = .ok (.iload 4, 2) := by decide +kernel
theorem dX7_farOf_36 : decode cX7_farOf 36 = .ok (.imul, 1) := by decide +kernel
theorem dX7_farOf_37 : decode cX7_farOf 37 = .ok (.iload 5, 2) := by decide +kernel
theorem dX7_farOf_39 : decode cX7_farOf 39 = .ok (.iload 5, 2) := by decide +kernel
theorem dX7_farOf_41 : decode cX7_farOf 41 = .ok (.imul, 1) := by decide +kernel
theorem dX7_farOf_42 : decode cX7_farOf 42 = .ok (.iadd, 1) := by decide +kernel
theorem dX7_farOf_43 : decode cX7_farOf 43 = .ok (.ireturn, 1) := by decide +kernel
set_option maxRecDepth 20000 in
theorem ggX7_supports_X7_farOf : GoodIn wsX7_supports wsX7_farOf := goodIn_r _ [7, 8, 9, 21, 22, 23, 24, 25, 26, 27, 28, 29, 30, 31, 32, 33, 34, 35, 36, 37, 38, 39, 40, 41, 42, 43, 44, 45, 46, 47, 48, 49, 50, 51, 52, 53, 54, 55, 56, 57, 58, 59, 60, 61, 62, 63, 64] (by decide +kernel) (by decide +kernel)
set_option maxRecDepth 20000 in
theorem gX7_supports_X7_farOf : GoodIn wsX7_supports (wsV RX7 288 RX7 yX7_farOf wsX7_farOf) := goodIn_app (goodIn_of _ (by decide +kernel)) ggX7_supports_X7_farOf
set_option maxRecDepth 20000 in
theorem ggX7_supports_X7_agrees : GoodIn wsX7_supports wsX7_agrees := goodIn_r _ [13, 14, 8, 9, 15, 16, 6, 17, 18, 19, 20, 21, 22, 23, 24, 25, 26, 27, 28, 29, 30, 31, 32, 33, 34, 35, 36, 37, 38, 39, 40, 41, 42, 43, 44, 45, 46, 47, 48, 49, 50, 51, 52, 53, 54, 55, 56, 57, 58, 59, 60, 61, 62, 63, 64] (by decide +kernel) (by decide +kernel)
set_option maxRecDepth 20000 in
theorem gX7_supports_X7_agrees : GoodIn wsX7_supports (wsV RX7 223 RX7 yX7_agrees wsX7_agrees) := goodIn_app (goodIn_of _ (by decide +kernel)) ggX7_supports_X7_agrees
theorem dX7_supports_0 : decode cX7_supports 0 = .ok (.aload_n 0, 1) := by decide +kernel
theorem dX7_supports_1 : decode cX7_supports 1 = .ok (.iload_n 1, 1) := by decide +kernel
theorem dX7_supports_2 : decode cX7_supports 2 = .ok (.iload_n 2, 1) := by decide +kernel
theorem dX7_supports_3 : decode cX7_supports 3 = .ok (.iload 4, 2) := by decide +kernel
theorem dX7_supports_5 : decode cX7_supports 5 = .ok (.invokevirtual 288, 3) := by decide +kernel
theorem dX7_supports_8 : decode cX7_supports 8 = .ok (.istore 5, 2) := by decide +kernel
theorem dX7_supports_10 : decode cX7_supports 10 = .ok (.iconst 2, 1) := by decide +kernel
theorem dX7_supports_11 : decode cX7_supports 11 = .ok (.iload_n 3, 1) := by decide +kernel
theorem dX7_supports_12 : decode cX7_supports 12 = .ok (.imul, 1) := by decide +kernel
theorem dX7_supports_13 : decode cX7_supports 13 = .ok (.aload_n 0, 1) := by decide +kernel
theorem dX7_supports_14 : decode cX7_supports 14 = .ok (.getfield 22, 3) := by decide +kernel
theorem dX7_supports_17 : decode cX7_supports 17 = .ok (.iconst 2, 1) := by decide +kernel
theorem dX7_supports_18 : decode cX7_supports 18 = .ok (.iaload, 1) := by decide +kernel
theorem dX7_supports_19 : decode cX7_supports 19 = .ok (.isub, 1) := by decide +kernel
theorem dX7_supports_20 : decode cX7_supports 20 = .ok (.istore 6, 2) := by decide +kernel
theorem dX7_supports_22 : decode cX7_supports 22 = .ok (.iconst 2, 1) := by decide +kernel
theorem dX7_supports_23 : decode cX7_supports 23 = .ok (.iload_n 3, 1) := by decide +kernel
theorem dX7_supports_24 : decode cX7_supports 24 = .ok (.imul, 1) := by decide +kernel
theorem dX7_supports_25 : decode cX7_supports 25 = .ok (.iconst 2, 1) := by decide +kernel
theorem dX7_supports_26 : decode cX7_supports 26 = .ok (.iadd, 1) := by decide +kernel
theorem dX7_supports_27 : decode cX7_supports 27 = .ok (.aload_n 0, 1) := by decide +kernel
theorem dX7_supports_28 : decode cX7_supports 28 = .ok (.getfield 22, 3) := by decide +kernel
theorem dX7_supports_31 : decode cX7_supports 31 = .ok (.iconst 2, 1) := by decide +kernel
theorem dX7_supports_32 : decode cX7_supports 32 = .ok (.iaload, 1) := by decide +kernel
theorem dX7_supports_33 : decode cX7_supports 33 = .ok (.iadd, 1) := by decide +kernel
theorem dX7_supports_34 : decode cX7_supports 34 = .ok (.istore 7, 2) := by decide +kernel
theorem dX7_supports_36 : decode cX7_supports 36 = .ok (.iload 6, 2) := by decide +kernel
theorem dX7_supports_38 : decode cX7_supports 38 = .ok (.ifCond .le 13, 3) := by decide +kernel
theorem dX7_supports_41 : decode cX7_supports 41 = .ok (.iload 5, 2) := by decide +kernel
theorem dX7_supports_43 : decode cX7_supports 43 = .ok (.iload 6, 2) := by decide +kernel
theorem dX7_supports_45 : decode cX7_supports 45 = .ok (.iload 6, 2) := by decide +kernel
theorem dX7_supports_47 : decode cX7_supports 47 = .ok (.imul, 1) := by decide +kernel
theorem dX7_supports_48 : decode cX7_supports 48 = .ok (.if_icmp .lt 45, 3) := by decide +kernel
theorem dX7_supports_51 : decode cX7_supports 51 = .ok (.iload 5, 2) := by decide +kernel
theorem dX7_supports_53 : decode cX7_supports 53 = .ok (.iload 7, 2) := by decide +kernel
theorem dX7_supports_55 : decode cX7_supports 55 = .ok (.iload 7, 2) := by decide +kernel
theorem dX7_supports_57 : decode cX7_supports 57 = .ok (.imul, 1) := by decide +kernel
theorem dX7_supports_58 : decode cX7_supports 58 = .ok (.if_icmp .gt 35, 3) := by decide +kernel
theorem dX7_supports_61 : decode cX7_supports 61 = .ok (.aload_n 0, 1) := by decide +kernel
theorem dX7_supports_62 : decode cX7_supports 62 = .ok (.ldc2_w 210, 3) := by decide +kernel
theorem dX7_supports_65 : decode cX7_supports 65 = .ok (.iload_n 1, 1) := by decide +kernel
theorem dX7_supports_66 : decode cX7_supports 66 = .ok (.i2l, 1) := by decide +kernel
theorem dX7_supports_67 : decode cX7_supports 67 = .ok (.lmul, 1) := by decide +kernel
theorem dX7_supports_68 : decode cX7_supports 68 = .ok (.lconst 1, 1) := by decide +kernel
theorem dX7_supports_69 : decode cX7_supports 69 = .ok (.ladd, 1) := by decide +kernel
theorem dX7_supports_70 : decode cX7_supports 70 = .ok (.ldc2_w 210, 3) := by decide +kernel
theorem dX7_supports_73 : decode cX7_supports 73 = .ok (.iload_n 2, 1) := by decide +kernel
theorem dX7_supports_74 : decode cX7_supports 74 = .ok (.i2l, 1) := by decide +kernel
theorem dX7_supports_75 : decode cX7_supports 75 = .ok (.lmul, 1) := by decide +kernel
theorem dX7_supports_76 : decode cX7_supports 76 = .ok (.lconst 1, 1) := by decide +kernel
theorem dX7_supports_77 : decode cX7_supports 77 = .ok (.ladd, 1) := by decide +kernel
theorem dX7_supports_78 : decode cX7_supports 78 = .ok (.ldc2_w 210, 3) := by decide +kernel
theorem dX7_supports_81 : decode cX7_supports 81 = .ok (.iload 4, 2) := by decide +kernel
theorem dX7_supports_83 : decode cX7_supports 83 = .ok (.invokevirtual 223, 3) := by decide +kernel
theorem dX7_supports_86 : decode cX7_supports 86 = .ok (.ifCond .eq 7, 3) := by decide +kernel
theorem dX7_supports_89 : decode cX7_supports 89 = .ok (.iconst 1, 1) := by decide +kernel
theorem dX7_supports_90 : decode cX7_supports 90 = .ok (.goto 4, 3) := by decide +kernel
theorem dX7_supports_93 : decode cX7_supports 93 = .ok (.iconst 0, 1) := by decide +kernel
theorem dX7_supports_94 : decode cX7_supports 94 = .ok (.ireturn, 1) := by decide +kernel
set_option maxRecDepth 20000 in
theorem ggX7_supporters_X7_supports : GoodIn wsX7_supporters wsX7_supports := goodIn_r _ [6, 7, 8, 9, 10, 11, 5, 12, 13, 14, 15, 16, 17, 18, 19, 20, 21, 22, 23, 24, 25, 26, 27, 28, 29, 30, 31, 32, 33, 34, 35, 36, 37, 38, 39, 40, 41, 42, 43, 44, 45, 46, 47, 48, 49, 50, 51, 52, 53, 54, 55, 56, 57, 58, 59, 60, 61, 62, 63, 64, 65, 66, 67, 68, 69] (by decide +kernel) (by decide +kernel)
set_option maxRecDepth 20000 in
theorem gX7_supporters_X7_supports : GoodIn wsX7_supporters (wsV RX7 291 RX7 yX7_supports wsX7_supports) := goodIn_app (goodIn_of _ (by decide +kernel)) ggX7_supporters_X7_supports
theorem dX7_supporters_0 : decode cX7_supporters 0 = .ok (.iconst 0, 1) := by decide +kernel
theorem dX7_supporters_1 : decode cX7_supporters 1 = .ok (.istore 4, 2) := by decide +kernel
theorem dX7_supporters_3 : decode cX7_supporters 3 = .ok (.iconst 0, 1) := by decide +kernel
theorem dX7_supporters_4 : decode cX7_supporters 4 = .ok (.istore 5, 2) := by decide +kernel
theorem dX7_supporters_6 : decode cX7_supporters 6 = .ok (.iload 5, 2) := by decide +kernel
theorem dX7_supporters_8 : decode cX7_supporters 8 = .ok (.aload_n 0, 1) := by decide +kernel
theorem dX7_supporters_9 : decode cX7_supporters 9 = .ok (.getfield 121, 3) := by decide +kernel
theorem dX7_supporters_12 : decode cX7_supporters 12 = .ok (.if_icmp .ge 34, 3) := by decide +kernel
theorem dX7_supporters_15 : decode cX7_supporters 15 = .ok (.iload 4, 2) := by decide +kernel
theorem dX7_supporters_17 : decode cX7_supporters 17 = .ok (.aload_n 0, 1) := by decide +kernel
theorem dX7_supporters_18 : decode cX7_supporters 18 = .ok (.iload_n 1, 1) := by decide +kernel
theorem dX7_supporters_19 : decode cX7_supporters 19 = .ok (.iload_n 2, 1) := by decide +kernel
theorem dX7_supporters_20 : decode cX7_supporters 20 = .ok (.iload_n 3, 1) := by decide +kernel
theorem dX7_supporters_21 : decode cX7_supporters 21 = .ok (.iload 5, 2) := by decide +kernel
theorem dX7_supporters_23 : decode cX7_supporters 23 = .ok (.invokevirtual 291, 3) := by decide +kernel
theorem dX7_supporters_26 : decode cX7_supporters 26 = .ok (.ifCond .eq 10, 3) := by decide +kernel
theorem dX7_supporters_29 : decode cX7_supporters 29 = .ok (.iconst 1, 1) := by decide +kernel
theorem dX7_supporters_30 : decode cX7_supporters 30 = .ok (.iload 5, 2) := by decide +kernel
theorem dX7_supporters_32 : decode cX7_supporters 32 = .ok (.ishl, 1) := by decide +kernel
theorem dX7_supporters_33 : decode cX7_supporters 33 = .ok (.goto 4, 3) := by decide +kernel
theorem dX7_supporters_36 : decode cX7_supporters 36 = .ok (.iconst 0, 1) := by decide +kernel
theorem dX7_supporters_37 : decode cX7_supporters 37 = .ok (.ior, 1) := by decide +kernel
theorem dX7_supporters_38 : decode cX7_supporters 38 = .ok (.istore 4, 2) := by decide +kernel
theorem dX7_supporters_40 : decode cX7_supporters 40 = .ok (.iinc 5 1, 3) := by decide +kernel
theorem dX7_supporters_43 : decode cX7_supporters 43 = .ok (.goto (-37), 3) := by decide +kernel
theorem dX7_supporters_46 : decode cX7_supporters 46 = .ok (.iload 4, 2) := by decide +kernel
theorem dX7_supporters_48 : decode cX7_supporters 48 = .ok (.ireturn, 1) := by decide +kernel
set_option maxRecDepth 20000 in
theorem ggX7_octantOf_X7_abs : GoodIn wsX7_octantOf wsX7_abs := goodIn_r _ [6] (by decide +kernel) (by decide +kernel)
set_option maxRecDepth 20000 in
theorem gX7_octantOf_X7_abs : GoodIn wsX7_octantOf (va_wsS RX7 295 yX7_abs wsX7_abs) := goodIn_app (goodIn_of _ (by decide +kernel)) ggX7_octantOf_X7_abs
theorem dX7_octantOf_0 : decode cX7_octantOf 0 = .ok (.iconst 2, 1) := by decide +kernel
theorem dX7_octantOf_1 : decode cX7_octantOf 1 = .ok (.aload_n 0, 1) := by decide +kernel
theorem dX7_octantOf_2 : decode cX7_octantOf 2 = .ok (.getfield 13, 3) := by decide +kernel
theorem dX7_octantOf_5 : decode cX7_octantOf 5 = .ok (.iload_n 3, 1) := by decide +kernel
theorem dX7_octantOf_6 : decode cX7_octantOf 6 = .ok (.iaload, 1) := by decide +kernel
theorem dX7_octantOf_7 : decode cX7_octantOf 7 = .ok (.imul, 1) := by decide +kernel
theorem dX7_octantOf_8 : decode cX7_octantOf 8 = .ok (.iconst 2, 1) := by decide +kernel
theorem dX7_octantOf_9 : decode cX7_octantOf 9 = .ok (.iload_n 1, 1) := by decide +kernel
theorem dX7_octantOf_10 : decode cX7_octantOf 10 = .ok (.imul, 1) := by decide +kernel
theorem dX7_octantOf_11 : decode cX7_octantOf 11 = .ok (.isub, 1) := by decide +kernel
theorem dX7_octantOf_12 : decode cX7_octantOf 12 = .ok (.iconst 1, 1) := by decide +kernel
theorem dX7_octantOf_13 : decode cX7_octantOf 13 = .ok (.isub, 1) := by decide +kernel
theorem dX7_octantOf_14 : decode cX7_octantOf 14 = .ok (.istore 4, 2) := by decide +kernel
theorem dX7_octantOf_16 : decode cX7_octantOf 16 = .ok (.iconst 2, 1) := by decide +kernel
theorem dX7_octantOf_17 : decode cX7_octantOf 17 = .ok (.aload_n 0, 1) := by decide +kernel
theorem dX7_octantOf_18 : decode cX7_octantOf 18 = .ok (.getfield 16, 3) := by decide +kernel
theorem dX7_octantOf_21 : decode cX7_octantOf 21 = .ok (.iload_n 3, 1) := by decide +kernel
theorem dX7_octantOf_22 : decode cX7_octantOf 22 = .ok (.iaload, 1) := by decide +kernel
theorem dX7_octantOf_23 : decode cX7_octantOf 23 = .ok (.imul, 1) := by decide +kernel
theorem dX7_octantOf_24 : decode cX7_octantOf 24 = .ok (.iconst 2, 1) := by decide +kernel
theorem dX7_octantOf_25 : decode cX7_octantOf 25 = .ok (.iload_n 2, 1) := by decide +kernel
theorem dX7_octantOf_26 : decode cX7_octantOf 26 = .ok (.imul, 1) := by decide +kernel
theorem dX7_octantOf_27 : decode cX7_octantOf 27 = .ok (.isub, 1) := by decide +kernel
theorem dX7_octantOf_28 : decode cX7_octantOf 28 = .ok (.iconst 1, 1) := by decide +kernel
theorem dX7_octantOf_29 : decode cX7_octantOf 29 = .ok (.isub, 1) := by decide +kernel
theorem dX7_octantOf_30 : decode cX7_octantOf 30 = .ok (.istore 5, 2) := by decide +kernel
theorem dX7_octantOf_32 : decode cX7_octantOf 32 = .ok (.iload 5, 2) := by decide +kernel
theorem dX7_octantOf_34 : decode cX7_octantOf 34 = .ok (.ifCond .le 16, 3) := by decide +kernel
theorem dX7_octantOf_37 : decode cX7_octantOf 37 = .ok (.iload 4, 2) := by decide +kernel
theorem dX7_octantOf_39 : decode cX7_octantOf 39 = .ok (.ifCond .le 7, 3) := by decide +kernel
theorem dX7_octantOf_42 : decode cX7_octantOf 42 = .ok (.iconst 0, 1) := by decide +kernel
theorem dX7_octantOf_43 : decode cX7_octantOf 43 = .ok (.goto 18, 3) := by decide +kernel
theorem dX7_octantOf_46 : decode cX7_octantOf 46 = .ok (.iconst 2, 1) := by decide +kernel
theorem dX7_octantOf_47 : decode cX7_octantOf 47 = .ok (.goto 14, 3) := by decide +kernel
theorem dX7_octantOf_50 : decode cX7_octantOf 50 = .ok (.iload 4, 2) := by decide +kernel
theorem dX7_octantOf_52 : decode cX7_octantOf 52 = .ok (.ifCond .ge 7, 3) := by decide +kernel
theorem dX7_octantOf_55 : decode cX7_octantOf 55 = .ok (.iconst 4, 1) := by decide +kernel
theorem dX7_octantOf_56 : decode cX7_octantOf 56 = .ok (.goto 5, 3) := by decide +kernel
theorem dX7_octantOf_59 : decode cX7_octantOf 59 = .ok (.bipush 6, 2) := by decide +kernel
theorem dX7_octantOf_61 : decode cX7_octantOf 61 = .ok (.istore 6, 2) := by decide +kernel
theorem dX7_octantOf_63 : decode cX7_octantOf 63 = .ok (.iload 6, 2) := by decide +kernel
theorem dX7_octantOf_65 : decode cX7_octantOf 65 = .ok (.iload 5, 2) := by decide +kernel
theorem dX7_octantOf_67 : decode cX7_octantOf 67 = .ok (.invokestatic 295, 3) := by decide +kernel
theorem dX7_octantOf_70 : decode cX7_octantOf 70 = .ok (.iload 4, 2) := by decide +kernel
theorem dX7_octantOf_72 : decode cX7_octantOf 72 = .ok (.invokestatic 295, 3) := by decide +kernel
theorem dX7_octantOf_75 : decode cX7_octantOf 75 = .ok (.if_icmp .le 7, 3) := by decide +kernel
theorem dX7_octantOf_78 : decode cX7_octantOf 78 = .ok (.iconst 1, 1) := by decide +kernel
theorem dX7_octantOf_79 : decode cX7_octantOf 79 = .ok (.goto 4, 3) := by decide +kernel
theorem dX7_octantOf_82 : decode cX7_octantOf 82 = .ok (.iconst 0, 1) := by decide +kernel
theorem dX7_octantOf_83 : decode cX7_octantOf 83 = .ok (.iadd, 1) := by decide +kernel
theorem dX7_octantOf_84 : decode cX7_octantOf 84 = .ok (.ireturn, 1) := by decide +kernel
set_option maxRecDepth 20000 in
theorem ggX7_spanOf_X7_octantOf : GoodIn wsX7_spanOf wsX7_octantOf := goodIn_r _ [6, 7, 8, 9, 10, 5, 11, 15, 16, 17, 18, 19, 20, 21, 22, 23, 24, 25, 26, 27, 28, 29, 30, 31, 32, 33, 34, 35, 36, 37, 38, 39, 40, 41, 42, 43, 44, 45, 46, 47, 48, 49, 50, 51, 52, 53, 54, 55, 56, 57, 58] (by decide +kernel) (by decide +kernel)
set_option maxRecDepth 20000 in
theorem gX7_spanOf_X7_octantOf : GoodIn wsX7_spanOf (wsV RX7 298 RX7 yX7_octantOf wsX7_octantOf) := goodIn_app (goodIn_of _ (by decide +kernel)) ggX7_spanOf_X7_octantOf
set_option maxRecDepth 20000 in
theorem ggX7_spanOf_X7_size : GoodIn wsX7_spanOf wsX7_size := goodIn_r _ [14] (by decide +kernel) (by decide +kernel)
set_option maxRecDepth 20000 in
theorem gX7_spanOf_X7_size : GoodIn wsX7_spanOf (va_wsS RX7 301 yX7_size wsX7_size) := goodIn_app (goodIn_of _ (by decide +kernel)) ggX7_spanOf_X7_size
theorem dX7_spanOf_0 : decode cX7_spanOf 0 = .ok (.iconst 0, 1) := by decide +kernel
theorem dX7_spanOf_1 : decode cX7_spanOf 1 = .ok (.istore 4, 2) := by decide +kernel
theorem dX7_spanOf_3 : decode cX7_spanOf 3 = .ok (.iconst 0, 1) := by decide +kernel
theorem dX7_spanOf_4 : decode cX7_spanOf 4 = .ok (.istore 5, 2) := by decide +kernel
theorem dX7_spanOf_6 : decode cX7_spanOf 6 = .ok (.iload 5, 2) := by decide +kernel
theorem dX7_spanOf_8 : decode cX7_spanOf 8 = .ok (.aload_n 0, 1) := by decide +kernel
theorem dX7_spanOf_9 : decode cX7_spanOf 9 = .ok (.getfield 121, 3) := by decide +kernel
theorem dX7_spanOf_12 : decode cX7_spanOf 12 = .ok (.if_icmp .ge 38, 3) := by decide +kernel
theorem dX7_spanOf_15 : decode cX7_spanOf 15 = .ok (.iload 4, 2) := by decide +kernel
theorem dX7_spanOf_17 : decode cX7_spanOf 17 = .ok (.iload_n 3, 1) := by decide +kernel
theorem dX7_spanOf_18 : decode cX7_spanOf 18 = .ok (.iload 5, 2) := by decide +kernel
theorem dX7_spanOf_20 : decode cX7_spanOf 20 = .ok (.ishr, 1) := by decide +kernel
theorem dX7_spanOf_21 : decode cX7_spanOf 21 = .ok (.iconst 1, 1) := by decide +kernel
theorem dX7_spanOf_22 : decode cX7_spanOf 22 = .ok (.iand, 1) := by decide +kernel
theorem dX7_spanOf_23 : decode cX7_spanOf 23 = .ok (.iconst 1, 1) := by decide +kernel
theorem dX7_spanOf_24 : decode cX7_spanOf 24 = .ok (.if_icmp .ne 16, 3) := by decide +kernel
theorem dX7_spanOf_27 : decode cX7_spanOf 27 = .ok (.iconst 1, 1) := by decide +kernel
theorem dX7_spanOf_28 : decode cX7_spanOf 28 = .ok (.aload_n 0, 1) := by decide +kernel
theorem dX7_spanOf_29 : decode cX7_spanOf 29 = .ok (.iload_n 1, 1) := by decide +kernel
theorem dX7_spanOf_30 : decode cX7_spanOf 30 = .ok (.iload_n 2, 1) := by decide +kernel
theorem dX7_spanOf_31 : decode cX7_spanOf 31 = .ok (.iload 5, 2) := by decide +kernel
theorem dX7_spanOf_33 : decode cX7_spanOf 33 = .ok (.invokevirtual 298, 3) := by decide +kernel
theorem dX7_spanOf_36 : decode cX7_spanOf 36 = .ok (.ishl, 1) := by decide +kernel
theorem dX7_spanOf_37 : decode cX7_spanOf 37 = .ok (.goto 4, 3) := by decide +kernel
theorem dX7_spanOf_40 : decode cX7_spanOf 40 = .ok (.iconst 0, 1) := by decide +kernel
theorem dX7_spanOf_41 : decode cX7_spanOf 41 = .ok (.ior, 1) := by decide +kernel
theorem dX7_spanOf_42 : decode cX7_spanOf 42 = .ok (.istore 4, 2) := by decide +kernel
theorem dX7_spanOf_44 : decode cX7_spanOf 44 = .ok (.iinc 5 1, 3) := by decide +kernel
theorem dX7_spanOf_47 : decode cX7_spanOf 47 = .ok (.goto (-41), 3) := by decide +kernel
theorem dX7_spanOf_50 : decode cX7_spanOf 50 = .ok (.iload 4, 2) := by decide +kernel
theorem dX7_spanOf_52 : decode cX7_spanOf 52 = .ok (.invokestatic 301, 3) := by decide +kernel
theorem dX7_spanOf_55 : decode cX7_spanOf 55 = .ok (.ireturn, 1) := by decide +kernel
set_option maxRecDepth 20000 in
theorem ggX7_spotNow_X7_supporters : GoodIn wsX7_spotNow wsX7_supporters := goodIn_r _ [9, 10, 11, 12, 13, 8, 14, 15, 16, 17, 18, 19, 20, 21, 22, 23, 24, 25, 26, 27, 28, 29, 30, 31, 32, 33, 48, 49, 50, 51, 52, 53, 54, 55, 56, 57, 58, 59, 60, 61, 62, 63, 64, 65, 66, 67, 68, 69, 70, 71, 72, 73, 74, 75, 76, 77, 78, 79, 80, 81, 82, 83, 84, 85, 86, 87, 88, 89, 90, 91] (by decide +kernel) (by decide +kernel)
set_option maxRecDepth 20000 in
theorem gX7_spotNow_X7_supporters : GoodIn wsX7_spotNow (wsV RX7 304 RX7 yX7_supporters wsX7_supporters) := goodIn_app (goodIn_of _ (by decide +kernel)) ggX7_spotNow_X7_supporters
set_option maxRecDepth 20000 in
theorem ggX7_spotNow_X7_size : GoodIn wsX7_spotNow wsX7_size := goodIn_r _ [36] (by decide +kernel) (by decide +kernel)
set_option maxRecDepth 20000 in
theorem gX7_spotNow_X7_size : GoodIn wsX7_spotNow (va_wsS RX7 301 yX7_size wsX7_size) := goodIn_app (goodIn_of _ (by decide +kernel)) ggX7_spotNow_X7_size
set_option maxRecDepth 20000 in
theorem ggX7_spotNow_X7_spanOf : GoodIn wsX7_spotNow wsX7_spanOf := goodIn_r _ [40, 10, 41, 42, 43, 8, 44, 21, 22, 45, 46, 47, 34, 35, 36, 48, 49, 50, 51, 52, 53, 54, 55, 56, 57, 58, 59, 60, 61, 62, 63, 64, 65, 66, 67, 68, 69, 70, 71, 72, 73, 74, 75, 76, 77, 78, 79, 80, 81, 82, 83, 84, 85, 86, 87, 88, 89, 90, 91] (by decide +kernel) (by decide +kernel)
set_option maxRecDepth 20000 in
theorem gX7_spotNow_X7_spanOf : GoodIn wsX7_spotNow (wsV RX7 307 RX7 yX7_spanOf wsX7_spanOf) := goodIn_app (goodIn_of _ (by decide +kernel)) ggX7_spotNow_X7_spanOf
theorem dX7_spotNow_0 : decode cX7_spotNow 0 = .ok (.aload_n 0, 1) := by decide +kernel
theorem dX7_spotNow_1 : decode cX7_spotNow 1 = .ok (.aload_n 0, 1) := by decide +kernel
theorem dX7_spotNow_2 : decode cX7_spotNow 2 = .ok (.getfield 46, 3) := by decide +kernel
theorem dX7_spotNow_5 : decode cX7_spotNow 5 = .ok (.iload_n 1, 1) := by decide +kernel
theorem dX7_spotNow_6 : decode cX7_spotNow 6 = .ok (.iaload, 1) := by decide +kernel
theorem dX7_spotNow_7 : decode cX7_spotNow 7 = .ok (.aload_n 0, 1) := by decide +kernel
theorem dX7_spotNow_8 : decode cX7_spotNow 8 = .ok (.getfield 49, 3) := by decide +kernel
theorem dX7_spotNow_11 : decode cX7_spotNow 11 = .ok (.iload_n 1, 1) := by decide +kernel
theorem dX7_spotNow_12 : decode cX7_spotNow 12 = .ok (.iaload, 1) := by decide +kernel
theorem dX7_spotNow_13 : decode cX7_spotNow 13 = .ok (.aload_n 0, 1) := by decide +kernel
theorem dX7_spotNow_14 : decode cX7_spotNow 14 = .ok (.getfield 52, 3) := by decide +kernel
theorem dX7_spotNow_17 : decode cX7_spotNow 17 = .ok (.iload_n 1, 1) := by decide +kernel
theorem dX7_spotNow_18 : decode cX7_spotNow 18 = .ok (.iaload, 1) := by decide +kernel
theorem dX7_spotNow_19 : decode cX7_spotNow 19 = .ok (.invokevirtual 304, 3) := by decide +kernel
theorem dX7_spotNow_22 : decode cX7_spotNow 22 = .ok (.istore_n 3, 1) := by decide +kernel
theorem dX7_spotNow_23 : decode cX7_spotNow 23 = .ok (.iload_n 2, 1) := by decide +kernel
theorem dX7_spotNow_24 : decode cX7_spotNow 24 = .ok (.tableswitch 91 0 5 #[40, 47, 54, 61, 68, 73], 40) := by decide +kernel
theorem dX7_spotNow_64 : decode cX7_spotNow 64 = .ok (.aload_n 0, 1) := by decide +kernel
theorem dX7_spotNow_65 : decode cX7_spotNow 65 = .ok (.getfield 46, 3) := by decide +kernel
theorem dX7_spotNow_68 : decode cX7_spotNow 68 = .ok (.iload_n 1, 1) := by decide +kernel
theorem dX7_spotNow_69 : decode cX7_spotNow 69 = .ok (.iaload, 1) := by decide +kernel
theorem dX7_spotNow_70 : decode cX7_spotNow 70 = .ok (.ireturn, 1) := by decide +kernel
theorem dX7_spotNow_71 : decode cX7_spotNow 71 = .ok (.aload_n 0, 1) := by decide +kernel
theorem dX7_spotNow_72 : decode cX7_spotNow 72 = .ok (.getfield 49, 3) := by decide +kernel
theorem dX7_spotNow_75 : decode cX7_spotNow 75 = .ok (.iload_n 1, 1) := by decide +kernel
theorem dX7_spotNow_76 : decode cX7_spotNow 76 = .ok (.iaload, 1) := by decide +kernel
theorem dX7_spotNow_77 : decode cX7_spotNow 77 = .ok (.ireturn, 1) := by decide +kernel
theorem dX7_spotNow_78 : decode cX7_spotNow 78 = .ok (.aload_n 0, 1) := by decide +kernel
theorem dX7_spotNow_79 : decode cX7_spotNow 79 = .ok (.getfield 52, 3) := by decide +kernel
theorem dX7_spotNow_82 : decode cX7_spotNow 82 = .ok (.iload_n 1, 1) := by decide +kernel
theorem dX7_spotNow_83 : decode cX7_spotNow 83 = .ok (.iaload, 1) := by decide +kernel
theorem dX7_spotNow_84 : decode cX7_spotNow 84 = .ok (.ireturn, 1) := by decide +kernel
theorem dX7_spotNow_85 : decode cX7_spotNow 85 = .ok (.aload_n 0, 1) := by decide +kernel
theorem dX7_spotNow_86 : decode cX7_spotNow 86 = .ok (.getfield 55, 3) := by decide +kernel
theorem dX7_spotNow_89 : decode cX7_spotNow 89 = .ok (.iload_n 1, 1) := by decide +kernel
theorem dX7_spotNow_90 : decode cX7_spotNow 90 = .ok (.iaload, 1) := by decide +kernel
theorem dX7_spotNow_91 : decode cX7_spotNow 91 = .ok (.ireturn, 1) := by decide +kernel
theorem dX7_spotNow_92 : decode cX7_spotNow 92 = .ok (.iload_n 3, 1) := by decide +kernel
theorem dX7_spotNow_93 : decode cX7_spotNow 93 = .ok (.invokestatic 301, 3) := by decide +kernel
theorem dX7_spotNow_96 : decode cX7_spotNow 96 = .ok (.ireturn, 1) := by decide +kernel
theorem dX7_spotNow_97 : decode cX7_spotNow 97 = .ok (.aload_n 0, 1) := by decide +kernel
theorem dX7_spotNow_98 : decode cX7_spotNow 98 = .ok (.aload_n 0, 1) := by decide +kernel
theorem dX7_spotNow_99 : decode cX7_spotNow 99 = .ok (.getfield 46, 3) := by decide +kernel
theorem dX7_spotNow_102 : decode cX7_spotNow 102 = .ok (.iload_n 1, 1) := by decide +kernel
theorem dX7_spotNow_103 : decode cX7_spotNow 103 = .ok (.iaload, 1) := by decide +kernel
theorem dX7_spotNow_104 : decode cX7_spotNow 104 = .ok (.aload_n 0, 1) := by decide +kernel
theorem dX7_spotNow_105 : decode cX7_spotNow 105 = .ok (.getfield 49, 3) := by decide +kernel
theorem dX7_spotNow_108 : decode cX7_spotNow 108 = .ok (.iload_n 1, 1) := by decide +kernel
theorem dX7_spotNow_109 : decode cX7_spotNow 109 = .ok (.iaload, 1) := by decide +kernel
theorem dX7_spotNow_110 : decode cX7_spotNow 110 = .ok (.iload_n 3, 1) := by decide +kernel
theorem dX7_spotNow_111 : decode cX7_spotNow 111 = .ok (.invokevirtual 307, 3) := by decide +kernel
theorem dX7_spotNow_114 : decode cX7_spotNow 114 = .ok (.ireturn, 1) := by decide +kernel
theorem dX7_spotNow_115 : decode cX7_spotNow 115 = .ok (.iload_n 3, 1) := by decide +kernel
theorem dX7_spotNow_116 : decode cX7_spotNow 116 = .ok (.ireturn, 1) := by decide +kernel
set_option maxRecDepth 20000 in
theorem ggX7_spot_X7_isSheet : GoodIn wsX7_spot wsX7_isSheet := goodIn_r _ [6, 7, 118, 119, 120, 121, 122, 123, 124, 125, 126, 127, 128, 129, 130, 131, 132, 133, 134, 135, 136, 137, 138, 139, 140, 141, 142, 143, 144, 145, 146, 147, 148, 149, 150, 151, 152, 153, 154, 155, 156, 157, 158, 159, 160, 161] (by decide +kernel) (by decide +kernel)
set_option maxRecDepth 20000 in
theorem gX7_spot_X7_isSheet : GoodIn wsX7_spot (wsV RX7 150 RX7 yX7_isSheet wsX7_isSheet) := goodIn_app (goodIn_of _ (by decide +kernel)) ggX7_spot_X7_isSheet
set_option maxRecDepth 20000 in
theorem ggX7_spot_X7_laySpots : GoodIn wsX7_spot wsX7_laySpots := goodIn_r _ [11, 1, 12, 13, 14, 15, 16, 17, 5, 18, 19, 20, 21, 22, 23, 24, 25, 26, 27, 28, 29, 30, 31, 32, 33, 34, 35, 36, 37, 38, 39, 40, 41, 42, 43, 44, 7, 45, 46, 47, 48, 49, 50, 51, 52, 53, 54, 55, 56, 57, 58, 59, 60, 61, 62, 63, 64, 65, 66, 67, 68, 69, 70, 71, 72, 73, 74, 75, 76, 77, 78, 79, 80, 81, 82, 83, 84, 85, 86, 87, 118, 119, 120, 121, 122, 123, 124, 125, 126, 127, 128, 129, 130, 131, 132, 133, 134, 135, 136, 137, 138, 139, 140, 141, 142, 143, 144, 145, 146, 147, 148, 149, 150, 151, 152, 153, 154, 155, 156, 157, 158, 159, 160, 161] (by decide +kernel) (by decide +kernel)
set_option maxRecDepth 20000 in
theorem gX7_spot_X7_laySpots : GoodIn wsX7_spot (wsV RX7 285 RX7 yX7_laySpots wsX7_laySpots) := goodIn_app (goodIn_of _ (by decide +kernel)) ggX7_spot_X7_laySpots
set_option maxRecDepth 20000 in
theorem ggX7_spot_X7_within : GoodIn wsX7_spot wsX7_within := goodIn_r _ [48] (by decide +kernel) (by decide +kernel)
set_option maxRecDepth 20000 in
theorem gX7_spot_X7_within : GoodIn wsX7_spot (va_wsS RX7 58 yX7_within wsX7_within) := goodIn_app (goodIn_of _ (by decide +kernel)) ggX7_spot_X7_within
set_option maxRecDepth 20000 in
theorem ggX7_spot_X7_spotNow : GoodIn wsX7_spot wsX7_spotNow := goodIn_r _ [91, 73, 74, 75, 76, 92, 93, 94, 5, 95, 14, 96, 97, 98, 99, 37, 25, 100, 101, 102, 103, 23, 24, 53, 54, 55, 56, 57, 58, 59, 60, 61, 62, 63, 104, 105, 106, 107, 108, 109, 110, 111, 112, 113, 114, 115, 116, 117, 118, 119, 120, 121, 122, 123, 124, 125, 126, 127, 128, 129, 130, 131, 132, 133, 134, 135, 136, 137, 138, 139, 140, 141, 142, 143, 144, 145, 146, 147, 148, 149, 150, 151, 152, 153, 154, 155, 156, 157, 158, 159, 160, 161] (by decide +kernel) (by decide +kernel)
set_option maxRecDepth 20000 in
theorem gX7_spot_X7_spotNow : GoodIn wsX7_spot (wsV RX7 310 RX7 yX7_spotNow wsX7_spotNow) := goodIn_app (goodIn_of _ (by decide +kernel)) ggX7_spot_X7_spotNow
theorem dX7_spot_0 : decode cX7_spot 0 = .ok (.aload_n 0, 1) := by decide +kernel
theorem dX7_spot_1 : decode cX7_spot 1 = .ok (.invokevirtual 150, 3) := by decide +kernel
theorem dX7_spot_4 : decode cX7_spot 4 = .ok (.ifCond .ne 6, 3) := by decide +kernel
theorem dX7_spot_7 : decode cX7_spot 7 = .ok (.bipush (-101), 2) := by decide +kernel
theorem dX7_spot_9 : decode cX7_spot 9 = .ok (.ireturn, 1) := by decide +kernel
theorem dX7_spot_10 : decode cX7_spot 10 = .ok (.aload_n 0, 1) := by decide +kernel
theorem dX7_spot_11 : decode cX7_spot 11 = .ok (.invokevirtual 285, 3) := by decide +kernel
theorem dX7_spot_14 : decode cX7_spot 14 = .ok (.iload_n 1, 1) := by decide +kernel
theorem dX7_spot_15 : decode cX7_spot 15 = .ok (.iconst 0, 1) := by decide +kernel
theorem dX7_spot_16 : decode cX7_spot 16 = .ok (.aload_n 0, 1) := by decide +kernel
theorem dX7_spot_17 : decode cX7_spot 17 = .ok (.getfield 259, 3) := by decide +kernel
theorem dX7_spot_20 : decode cX7_spot 20 = .ok (.iconst 1, 1) := by decide +kernel
theorem dX7_spot_21 : decode cX7_spot 21 = .ok (.isub, 1) := by decide +kernel
theorem dX7_spot_22 : decode cX7_spot 22 = .ok (.invokestatic 58, 3) := by decide +kernel
theorem dX7_spot_25 : decode cX7_spot 25 = .ok (.ifCond .ne 6, 3) := by decide +kernel
theorem dX7_spot_28 : decode cX7_spot 28 = .ok (.bipush (-101), 2) := by decide +kernel
theorem dX7_spot_30 : decode cX7_spot 30 = .ok (.ireturn, 1) := by decide +kernel
theorem dX7_spot_31 : decode cX7_spot 31 = .ok (.iload_n 2, 1) := by decide +kernel
theorem dX7_spot_32 : decode cX7_spot 32 = .ok (.iconst 0, 1) := by decide +kernel
theorem dX7_spot_33 : decode cX7_spot 33 = .ok (.bipush 6, 2) := by decide +kernel
theorem dX7_spot_35 : decode cX7_spot 35 = .ok (.invokestatic 58, 3) := by decide +kernel
theorem dX7_spot_38 : decode cX7_spot 38 = .ok (.ifCond .eq 12, 3) := by decide +kernel
theorem dX7_spot_41 : decode cX7_spot 41 = .ok (.aload_n 0, 1) := by decide +kernel
theorem dX7_spot_42 : decode cX7_spot 42 = .ok (.iload_n 1, 1) := by decide +kernel
theorem dX7_spot_43 : decode cX7_spot 43 = .ok (.iload_n 2, 1) := by decide +kernel
theorem dX7_spot_44 : decode cX7_spot 44 = .ok (.invokevirtual 310, 3) := by decide +kernel
theorem dX7_spot_47 : decode cX7_spot 47 = .ok (.goto 5, 3) := by decide +kernel
theorem dX7_spot_50 : decode cX7_spot 50 = .ok (.bipush (-102), 2) := by decide +kernel
theorem dX7_spot_52 : decode cX7_spot 52 = .ok (.ireturn, 1) := by decide +kernel
theorem dX7_bestMany_0 : decode cX7_bestMany 0 = .ok (.iconst 0, 1) := by decide +kernel
theorem dX7_bestMany_1 : decode cX7_bestMany 1 = .ok (.istore_n 1, 1) := by decide +kernel
theorem dX7_bestMany_2 : decode cX7_bestMany 2 = .ok (.iconst 0, 1) := by decide +kernel
theorem dX7_bestMany_3 : decode cX7_bestMany 3 = .ok (.istore_n 2, 1) := by decide +kernel
theorem dX7_bestMany_4 : decode cX7_bestMany 4 = .ok (.iload_n 2, 1) := by decide +kernel
theorem dX7_bestMany_5 : decode cX7_bestMany 5 = .ok (.aload_n 0, 1) := by decide +kernel
theorem dX7_bestMany_6 : decode cX7_bestMany 6 = .ok (.getfield 259, 3) := by decide +kernel
theorem dX7_bestMany_9 : decode cX7_bestMany 9 = .ok (.if_icmp .ge 32, 3) := by decide +kernel
theorem dX7_bestMany_12 : decode cX7_bestMany 12 = .ok (.iload_n 1, 1) := by decide +kernel
theorem dX7_bestMany_13 : decode cX7_bestMany 13 = .ok (.aload_n 0, 1) := by decide +kernel
theorem dX7_bestMany_14 : decode cX7_bestMany 14 = .ok (.getfield 55, 3) := by decide +kernel
theorem dX7_bestMany_17 : decode cX7_bestMany 17 = .ok (.iload_n 2, 1) := by decide +kernel
theorem dX7_bestMany_18 : decode cX7_bestMany 18 = .ok (.iaload, 1) := by decide +kernel
theorem dX7_bestMany_19 : decode cX7_bestMany 19 = .ok (.aload_n 0, 1) := by decide +kernel
theorem dX7_bestMany_20 : decode cX7_bestMany 20 = .ok (.getfield 55, 3) := by decide +kernel
theorem dX7_bestMany_23 : decode cX7_bestMany 23 = .ok (.iconst 0, 1) := by decide +kernel
theorem dX7_bestMany_24 : decode cX7_bestMany 24 = .ok (.iaload, 1) := by decide +kernel
theorem dX7_bestMany_25 : decode cX7_bestMany 25 = .ok (.if_icmp .ne 7, 3) := by decide +kernel
theorem dX7_bestMany_28 : decode cX7_bestMany 28 = .ok (.iconst 1, 1) := by decide +kernel
theorem dX7_bestMany_29 : decode cX7_bestMany 29 = .ok (.goto 4, 3) := by decide +kernel
theorem dX7_bestMany_32 : decode cX7_bestMany 32 = .ok (.iconst 0, 1) := by decide +kernel
theorem dX7_bestMany_33 : decode cX7_bestMany 33 = .ok (.iadd, 1) := by decide +kernel
theorem dX7_bestMany_34 : decode cX7_bestMany 34 = .ok (.istore_n 1, 1) := by decide +kernel
theorem dX7_bestMany_35 : decode cX7_bestMany 35 = .ok (.iinc 2 1, 3) := by decide +kernel
theorem dX7_bestMany_38 : decode cX7_bestMany 38 = .ok (.goto (-34), 3) := by decide +kernel
theorem dX7_bestMany_41 : decode cX7_bestMany 41 = .ok (.iload_n 1, 1) := by decide +kernel
theorem dX7_bestMany_42 : decode cX7_bestMany 42 = .ok (.ireturn, 1) := by decide +kernel
set_option maxRecDepth 20000 in
theorem ggX7_spotsNow_X7_laySpots : GoodIn wsX7_spotsNow wsX7_laySpots := goodIn_r _ [8, 1, 2, 3, 9, 10, 11, 12, 7, 13, 14, 15, 16, 17, 18, 19, 20, 21, 22, 23, 24, 25, 26, 27, 28, 29, 30, 31, 32, 33, 34, 35, 36, 37, 38, 39, 40, 41, 42, 43, 44, 45, 46, 47, 48, 49, 50, 51, 52, 53, 54, 55, 56, 57, 58, 59, 60, 61, 62, 63, 64, 65, 66, 67, 68, 69, 70, 71, 72, 73, 74, 75, 76, 77, 78, 79, 80, 81, 82, 83, 88, 89, 90, 91, 92, 93, 94, 95, 96, 97, 98, 99, 100, 101, 102, 103, 104, 105, 106, 107, 108, 109, 110, 111, 112, 113, 114, 115, 116, 117, 118, 119, 120, 121, 122, 123, 124, 125, 126, 127, 128, 129, 130, 131] (by decide +kernel) (by decide +kernel)
set_option maxRecDepth 20000 in
theorem gX7_spotsNow_X7_laySpots : GoodIn wsX7_spotsNow (wsV RX7 285 RX7 yX7_laySpots wsX7_laySpots) := goodIn_app (goodIn_of _ (by decide +kernel)) ggX7_spotsNow_X7_laySpots
set_option maxRecDepth 20000 in
theorem ggX7_spotsNow_X7_bestMany : GoodIn wsX7_spotsNow wsX7_bestMany := goodIn_r _ [87, 1, 72, 88, 89, 90, 91, 92, 93, 94, 95, 96, 97, 98, 99, 100, 101, 102, 103, 104, 105, 106, 107, 108, 109, 110, 111, 112, 113, 114, 115, 116, 117, 118, 119, 120, 121, 122, 123, 124, 125, 126, 127, 128, 129, 130, 131] (by decide +kernel) (by decide +kernel)
set_option maxRecDepth 20000 in
theorem gX7_spotsNow_X7_bestMany : GoodIn wsX7_spotsNow (wsV RX7 313 RX7 yX7_bestMany wsX7_bestMany) := goodIn_app (goodIn_of _ (by decide +kernel)) ggX7_spotsNow_X7_bestMany
theorem dX7_spotsNow_0 : decode cX7_spotsNow 0 = .ok (.aload_n 0, 1) := by decide +kernel
theorem dX7_spotsNow_1 : decode cX7_spotsNow 1 = .ok (.invokevirtual 285, 3) := by decide +kernel
theorem dX7_spotsNow_4 : decode cX7_spotsNow 4 = .ok (.iload_n 1, 1) := by decide +kernel
theorem dX7_spotsNow_5 : decode cX7_spotsNow 5 = .ok (.ifCond .ne 10, 3) := by decide +kernel
theorem dX7_spotsNow_8 : decode cX7_spotsNow 8 = .ok (.aload_n 0, 1) := by decide +kernel
theorem dX7_spotsNow_9 : decode cX7_spotsNow 9 = .ok (.getfield 259, 3) := by decide +kernel
theorem dX7_spotsNow_12 : decode cX7_spotsNow 12 = .ok (.goto 31, 3) := by decide +kernel
theorem dX7_spotsNow_15 : decode cX7_spotsNow 15 = .ok (.iload_n 1, 1) := by decide +kernel
theorem dX7_spotsNow_16 : decode cX7_spotsNow 16 = .ok (.iconst 1, 1) := by decide +kernel
theorem dX7_spotsNow_17 : decode cX7_spotsNow 17 = .ok (.if_icmp .ne 10, 3) := by decide +kernel
theorem dX7_spotsNow_20 : decode cX7_spotsNow 20 = .ok (.aload_n 0, 1) := by decide +kernel
theorem dX7_spotsNow_21 : decode cX7_spotsNow 21 = .ok (.getfield 266, 3) := by decide +kernel
theorem dX7_spotsNow_24 : decode cX7_spotsNow 24 = .ok (.goto 19, 3) := by decide +kernel
theorem dX7_spotsNow_27 : decode cX7_spotsNow 27 = .ok (.iload_n 1, 1) := by decide +kernel
theorem dX7_spotsNow_28 : decode cX7_spotsNow 28 = .ok (.iconst 2, 1) := by decide +kernel
theorem dX7_spotsNow_29 : decode cX7_spotsNow 29 = .ok (.if_icmp .ne 10, 3) := by decide +kernel
theorem dX7_spotsNow_32 : decode cX7_spotsNow 32 = .ok (.aload_n 0, 1) := by decide +kernel
theorem dX7_spotsNow_33 : decode cX7_spotsNow 33 = .ok (.getfield 269, 3) := by decide +kernel
theorem dX7_spotsNow_36 : decode cX7_spotsNow 36 = .ok (.goto 7, 3) := by decide +kernel
theorem dX7_spotsNow_39 : decode cX7_spotsNow 39 = .ok (.aload_n 0, 1) := by decide +kernel
theorem dX7_spotsNow_40 : decode cX7_spotsNow 40 = .ok (.invokevirtual 313, 3) := by decide +kernel
theorem dX7_spotsNow_43 : decode cX7_spotsNow 43 = .ok (.ireturn, 1) := by decide +kernel
set_option maxRecDepth 20000 in
theorem ggX7_spots_X7_within : GoodIn wsX7_spots wsX7_within := goodIn_r _ [4] (by decide +kernel) (by decide +kernel)
set_option maxRecDepth 20000 in
theorem gX7_spots_X7_within : GoodIn wsX7_spots (va_wsS RX7 58 yX7_within wsX7_within) := goodIn_app (goodIn_of _ (by decide +kernel)) ggX7_spots_X7_within
set_option maxRecDepth 20000 in
theorem ggX7_spots_X7_isSheet : GoodIn wsX7_spots wsX7_isSheet := goodIn_r _ [8, 9, 96, 97, 98, 99, 100, 101, 102, 103, 104, 105, 106, 107, 108, 109, 110, 111, 112, 113, 114, 115, 116, 117, 118, 119, 120, 121, 122, 123, 124, 125, 126, 127, 128, 129, 130, 131, 132, 133, 134, 135, 136, 137, 138, 139] (by decide +kernel) (by decide +kernel)
set_option maxRecDepth 20000 in
theorem gX7_spots_X7_isSheet : GoodIn wsX7_spots (wsV RX7 150 RX7 yX7_isSheet wsX7_isSheet) := goodIn_app (goodIn_of _ (by decide +kernel)) ggX7_spots_X7_isSheet
set_option maxRecDepth 20000 in
theorem ggX7_spots_X7_spotsNow : GoodIn wsX7_spots wsX7_spotsNow := goodIn_r _ [13, 14, 15, 16, 17, 18, 19, 3, 20, 21, 22, 23, 24, 25, 26, 27, 28, 29, 30, 31, 32, 33, 34, 35, 36, 37, 38, 39, 40, 41, 42, 43, 44, 45, 46, 47, 48, 49, 50, 51, 9, 52, 1, 2, 4, 53, 54, 55, 56, 57, 58, 59, 60, 61, 62, 63, 64, 65, 66, 67, 68, 69, 70, 71, 72, 73, 74, 75, 76, 77, 78, 79, 80, 81, 82, 83, 84, 85, 86, 87, 88, 89, 90, 91, 92, 93, 94, 95, 96, 97, 98, 99, 100, 101, 102, 103, 104, 105, 106, 107, 108, 109, 110, 111, 112, 113, 114, 115, 116, 117, 118, 119, 120, 121, 122, 123, 124, 125, 126, 127, 128, 129, 130, 131, 132, 133, 134, 135, 136, 137, 138, 139] (by decide +kernel) (by decide +kernel)
set_option maxRecDepth 20000 in
theorem gX7_spots_X7_spotsNow : GoodIn wsX7_spots (wsV RX7 316 RX7 yX7_spotsNow wsX7_spotsNow) := goodIn_app (goodIn_of _ (by decide +kernel)) ggX7_spots_X7_spotsNow
theorem dX7_spots_0 : decode cX7_spots 0 = .ok (.iload_n 1, 1) := by decide +kernel
theorem dX7_spots_1 : decode cX7_spots 1 = .ok (.iconst 0, 1) := by decide +kernel
theorem dX7_spots_2 : decode cX7_spots 2 = .ok (.iconst 3, 1) := by decide +kernel
theorem dX7_spots_3 : decode cX7_spots 3 = .ok (.invokestatic 58, 3) := by decide +kernel
theorem dX7_spots_6 : decode cX7_spots 6 = .ok (.ifCond .ne 6, 3) := by decide +kernel
theorem dX7_spots_9 : decode cX7_spots 9 = .ok (.bipush (-102), 2) := by decide +kernel
theorem dX7_spots_11 : decode cX7_spots 11 = .ok (.ireturn, 1) := by decide +kernel
theorem dX7_spots_12 : decode cX7_spots 12 = .ok (.aload_n 0, 1) := by decide +kernel
theorem dX7_spots_13 : decode cX7_spots 13 = .ok (.invokevirtual 150, 3) := by decide +kernel
theorem dX7_spots_16 : decode cX7_spots 16 = .ok (.ifCond .eq 11, 3) := by decide +kernel
theorem dX7_spots_19 : decode cX7_spots 19 = .ok (.aload_n 0, 1) := by decide +kernel
theorem dX7_spots_20 : decode cX7_spots 20 = .ok (.iload_n 1, 1) := by decide +kernel
theorem dX7_spots_21 : decode cX7_spots 21 = .ok (.invokevirtual 316, 3) := by decide +kernel
theorem dX7_spots_24 : decode cX7_spots 24 = .ok (.goto 5, 3) := by decide +kernel
theorem dX7_spots_27 : decode cX7_spots 27 = .ok (.bipush (-103), 2) := by decide +kernel
theorem dX7_spots_29 : decode cX7_spots 29 = .ok (.ireturn, 1) := by decide +kernel
set_option maxRecDepth 20000 in
theorem ggX7_bestSpot_X7_supporters : GoodIn wsX7_bestSpot wsX7_supporters := goodIn_r _ [10, 11, 12, 13, 14, 9, 15, 5, 16, 17, 18, 19, 20, 21, 22, 23, 24, 25, 26, 27, 28, 29, 30, 31, 32, 33, 48, 49, 50, 51, 52, 53, 54, 55, 56, 57, 58, 59, 60, 61, 62, 63, 64, 65, 66, 67, 68, 69, 70, 71, 72, 73, 74, 75, 76, 77, 78, 79, 80, 81, 82, 83, 84, 85, 86, 87, 88, 89, 90, 91] (by decide +kernel) (by decide +kernel)
set_option maxRecDepth 20000 in
theorem gX7_bestSpot_X7_supporters : GoodIn wsX7_bestSpot (wsV RX7 304 RX7 yX7_supporters wsX7_supporters) := goodIn_app (goodIn_of _ (by decide +kernel)) ggX7_bestSpot_X7_supporters
set_option maxRecDepth 20000 in
theorem ggX7_bestSpot_X7_spanOf : GoodIn wsX7_bestSpot wsX7_spanOf := goodIn_r _ [37, 11, 38, 39, 40, 9, 41, 21, 22, 42, 43, 44, 45, 46, 47, 48, 49, 50, 51, 52, 53, 54, 55, 56, 57, 58, 59, 60, 61, 62, 63, 64, 65, 66, 67, 68, 69, 70, 71, 72, 73, 74, 75, 76, 77, 78, 79, 80, 81, 82, 83, 84, 85, 86, 87, 88, 89, 90, 91] (by decide +kernel) (by decide +kernel)
set_option maxRecDepth 20000 in
theorem gX7_bestSpot_X7_spanOf : GoodIn wsX7_bestSpot (wsV RX7 307 RX7 yX7_spanOf wsX7_spanOf) := goodIn_app (goodIn_of _ (by decide +kernel)) ggX7_bestSpot_X7_spanOf
set_option maxRecDepth 20000 in
theorem ggX7_bestSpot_X7_size : GoodIn wsX7_bestSpot wsX7_size := goodIn_r _ [47] (by decide +kernel) (by decide +kernel)
set_option maxRecDepth 20000 in
theorem gX7_bestSpot_X7_size : GoodIn wsX7_bestSpot (va_wsS RX7 301 yX7_size wsX7_size) := goodIn_app (goodIn_of _ (by decide +kernel)) ggX7_bestSpot_X7_size
theorem dX7_bestSpot_0 : decode cX7_bestSpot 0 = .ok (.iconst (-1), 1) := by decide +kernel
theorem dX7_bestSpot_1 : decode cX7_bestSpot 1 = .ok (.istore_n 2, 1) := by decide +kernel
theorem dX7_bestSpot_2 : decode cX7_bestSpot 2 = .ok (.iconst 0, 1) := by decide +kernel
theorem dX7_bestSpot_3 : decode cX7_bestSpot 3 = .ok (.istore_n 3, 1) := by decide +kernel
theorem dX7_bestSpot_4 : decode cX7_bestSpot 4 = .ok (.iconst 0, 1) := by decide +kernel
theorem dX7_bestSpot_5 : decode cX7_bestSpot 5 = .ok (.istore 4, 2) := by decide +kernel
theorem dX7_bestSpot_7 : decode cX7_bestSpot 7 = .ok (.iload 4, 2) := by decide +kernel
theorem dX7_bestSpot_9 : decode cX7_bestSpot 9 = .ok (.aload_n 0, 1) := by decide +kernel
theorem dX7_bestSpot_10 : decode cX7_bestSpot 10 = .ok (.getfield 259, 3) := by decide +kernel
theorem dX7_bestSpot_13 : decode cX7_bestSpot 13 = .ok (.if_icmp .ge 134, 3) := by decide +kernel
theorem dX7_bestSpot_16 : decode cX7_bestSpot 16 = .ok (.aload_n 0, 1) := by decide +kernel
theorem dX7_bestSpot_17 : decode cX7_bestSpot 17 = .ok (.aload_n 0, 1) := by decide +kernel
theorem dX7_bestSpot_18 : decode cX7_bestSpot 18 = .ok (.getfield 46, 3) := by decide +kernel
theorem dX7_bestSpot_21 : decode cX7_bestSpot 21 = .ok (.iload 4, 2) := by decide +kernel
theorem dX7_bestSpot_23 : decode cX7_bestSpot 23 = .ok (.iaload, 1) := by decide +kernel
theorem dX7_bestSpot_24 : decode cX7_bestSpot 24 = .ok (.aload_n 0, 1) := by decide +kernel
theorem dX7_bestSpot_25 : decode cX7_bestSpot 25 = .ok (.getfield 49, 3) := by decide +kernel
theorem dX7_bestSpot_28 : decode cX7_bestSpot 28 = .ok (.iload 4, 2) := by decide +kernel
theorem dX7_bestSpot_30 : decode cX7_bestSpot 30 = .ok (.iaload, 1) := by decide +kernel
theorem dX7_bestSpot_31 : decode cX7_bestSpot 31 = .ok (.aload_n 0, 1) := by decide +kernel
theorem dX7_bestSpot_32 : decode cX7_bestSpot 32 = .ok (.getfield 52, 3) := by decide +kernel
theorem dX7_bestSpot_35 : decode cX7_bestSpot 35 = .ok (.iload 4, 2) := by decide +kernel
theorem dX7_bestSpot_37 : decode cX7_bestSpot 37 = .ok (.iaload, 1) := by decide +kernel
theorem dX7_bestSpot_38 : decode cX7_bestSpot 38 = .ok (.invokevirtual 304, 3) := by decide +kernel
theorem dX7_bestSpot_41 : decode cX7_bestSpot 41 = .ok (.iload_n 1, 1) := by decide +kernel
theorem dX7_bestSpot_42 : decode cX7_bestSpot 42 = .ok (.iand, 1) := by decide +kernel
theorem dX7_bestSpot_43 : decode cX7_bestSpot 43 = .ok (.istore 5, 2) := by decide +kernel
theorem dX7_bestSpot_45 : decode cX7_bestSpot 45 = .ok (.aload_n 0, 1) := by decide +kernel
theorem dX7_bestSpot_46 : decode cX7_bestSpot 46 = .ok (.aload_n 0, 1) := by decide +kernel
theorem dX7_bestSpot_47 : decode cX7_bestSpot 47 = .ok (.getfield 46, 3) := by decide +kernel
theorem dX7_bestSpot_50 : decode cX7_bestSpot 50 = .ok (.iload 4, 2) := by decide +kernel
theorem dX7_bestSpot_52 : decode cX7_bestSpot 52 = .ok (.iaload, 1) := by decide +kernel
theorem dX7_bestSpot_53 : decode cX7_bestSpot 53 = .ok (.aload_n 0, 1) := by decide +kernel
theorem dX7_bestSpot_54 : decode cX7_bestSpot 54 = .ok (.getfield 49, 3) := by decide +kernel
theorem dX7_bestSpot_57 : decode cX7_bestSpot 57 = .ok (.iload 4, 2) := by decide +kernel
theorem dX7_bestSpot_59 : decode cX7_bestSpot 59 = .ok (.iaload, 1) := by decide +kernel
theorem dX7_bestSpot_60 : decode cX7_bestSpot 60 = .ok (.iload 5, 2) := by decide +kernel
theorem dX7_bestSpot_62 : decode cX7_bestSpot 62 = .ok (.invokevirtual 307, 3) := by decide +kernel
theorem dX7_bestSpot_65 : decode cX7_bestSpot 65 = .ok (.istore 6, 2) := by decide +kernel
theorem dX7_bestSpot_67 : decode cX7_bestSpot 67 = .ok (.iload 5, 2) := by decide +kernel
theorem dX7_bestSpot_69 : decode cX7_bestSpot 69 = .ok (.invokestatic 301, 3) := by decide +kernel
theorem dX7_bestSpot_72 : decode cX7_bestSpot 72 = .ok (.aload_n 0, 1) := by decide +kernel
theorem dX7_bestSpot_73 : decode cX7_bestSpot 73 = .ok (.getfield 22, 3) := by decide +kernel
theorem dX7_bestSpot_76 : decode cX7_bestSpot 76 = .ok (.iconst 3, 1) := by decide +kernel
theorem dX7_bestSpot_77 : decode cX7_bestSpot 77 = .ok (.iaload, 1) := by decide +kernel
theorem dX7_bestSpot_78 : decode cX7_bestSpot 78 = .ok (.if_icmp .lt 30, 3) := by decide +kernel
theorem dX7_bestSpot_81 : decode cX7_bestSpot 81 = .ok (.iload 6, 2) := by decide +kernel
theorem dX7_bestSpot_83 : decode cX7_bestSpot 83 = .ok (.aload_n 0, 1) := by decide +kernel
theorem dX7_bestSpot_84 : decode cX7_bestSpot 84 = .ok (.getfield 22, 3) := by decide +kernel
theorem dX7_bestSpot_87 : decode cX7_bestSpot 87 = .ok (.iconst 4, 1) := by decide +kernel
theorem dX7_bestSpot_88 : decode cX7_bestSpot 88 = .ok (.iaload, 1) := by decide +kernel
theorem dX7_bestSpot_89 : decode cX7_bestSpot 89 = .ok (.if_icmp .lt 19, 3) := by decide +kernel
theorem dX7_bestSpot_92 : decode cX7_bestSpot 92 = .ok (.iload 5, 2) := by decide +kernel
theorem dX7_bestSpot_94 : decode cX7_bestSpot 94 = .ok (.invokestatic 301, 3) := by decide +kernel
theorem dX7_bestSpot_97 : decode cX7_bestSpot 97 = .ok (.iload 6, 2) := by decide +kernel
theorem dX7_bestSpot_99 : decode cX7_bestSpot 99 = .ok (.imul, 1) := by decide +kernel
theorem dX7_bestSpot_100 : decode cX7_bestSpot 100 = .ok (.iload_n 3, 1) := by decide +kernel
theorem dX7_bestSpot_101 : decode cX7_bestSpot 101 = .ok (.if_icmp .le 7, 3) := by decide +kernel
theorem dX7_bestSpot_104 : decode cX7_bestSpot 104 = .ok (.iconst 1, 1) := by decide +kernel
theorem dX7_bestSpot_105 : decode cX7_bestSpot 105 = .ok (.goto 4, 3) := by decide +kernel
theorem dX7_bestSpot_108 : decode cX7_bestSpot 108 = .ok (.iconst 0, 1) := by decide +kernel
theorem dX7_bestSpot_109 : decode cX7_bestSpot 109 = .ok (.istore 7, 2) := by decide +kernel
theorem dX7_bestSpot_111 : decode cX7_bestSpot 111 = .ok (.iload 7, 2) := by decide +kernel
theorem dX7_bestSpot_113 : decode cX7_bestSpot 113 = .ok (.ifCond .eq 8, 3) := by decide +kernel
theorem dX7_bestSpot_116 : decode cX7_bestSpot 116 = .ok (.iload 4, 2) := by decide +kernel
theorem dX7_bestSpot_118 : decode cX7_bestSpot 118 = .ok (.goto 4, 3) := by decide +kernel
theorem dX7_bestSpot_121 : decode cX7_bestSpot 121 = .ok (.iload_n 2, 1) := by decide +kernel
theorem dX7_bestSpot_122 : decode cX7_bestSpot 122 = .ok (.istore_n 2, 1) := by decide +kernel
theorem dX7_bestSpot_123 : decode cX7_bestSpot 123 = .ok (.iload 7, 2) := by decide +kernel
theorem dX7_bestSpot_125 : decode cX7_bestSpot 125 = .ok (.ifCond .eq 14, 3) := by decide +kernel
theorem dX7_bestSpot_128 : decode cX7_bestSpot 128 = .ok (.iload 5, 2) := by decide +kernel
theorem dX7_bestSpot_130 : decode cX7_bestSpot 130 = .ok (.invokestatic 301, 3) := by decide +kernel
theorem dX7_bestSpot_133 : decode cX7_bestSpot 133 = .ok (.iload 6, 2) := by decide +kernel
theorem dX7_bestSpot_135 : decode cX7_bestSpot 135 = .ok (.imul, 1) := by decide +kernel
theorem dX7_bestSpot_136 : decode cX7_bestSpot 136 = .ok (.goto 4, 3) := by decide +kernel
theorem dX7_bestSpot_139 : decode cX7_bestSpot 139 = .ok (.iload_n 3, 1) := by decide +kernel
theorem dX7_bestSpot_140 : decode cX7_bestSpot 140 = .ok (.istore_n 3, 1) := by decide +kernel
theorem dX7_bestSpot_141 : decode cX7_bestSpot 141 = .ok (.iinc 4 1, 3) := by decide +kernel
theorem dX7_bestSpot_144 : decode cX7_bestSpot 144 = .ok (.goto (-137), 3) := by decide +kernel
theorem dX7_bestSpot_147 : decode cX7_bestSpot 147 = .ok (.iload_n 2, 1) := by decide +kernel
theorem dX7_bestSpot_148 : decode cX7_bestSpot 148 = .ok (.ireturn, 1) := by decide +kernel
set_option maxRecDepth 20000 in
theorem ggX7_huntNow_X7_laySpots : GoodIn wsX7_huntNow wsX7_laySpots := goodIn_r _ [16, 17, 18, 19, 4, 20, 21, 22, 15, 23, 24, 25, 26, 27, 28, 29, 30, 31, 32, 33, 34, 35, 36, 37, 38, 39, 40, 41, 42, 43, 44, 45, 46, 47, 48, 49, 50, 51, 52, 53, 54, 55, 56, 57, 58, 59, 60, 61, 62, 63, 64, 65, 66, 67, 68, 69, 70, 71, 72, 73, 74, 75, 76, 77, 78, 6, 7, 8, 79, 80, 81, 82, 83, 84, 85, 86, 87, 88, 89, 90, 121, 122, 123, 124, 125, 126, 127, 128, 129, 130, 131, 132, 133, 134, 135, 136, 137, 138, 139, 140, 141, 142, 143, 144, 145, 146, 147, 148, 149, 150, 151, 152, 153, 154, 155, 156, 157, 158, 159, 160, 161, 162, 163, 164] (by decide +kernel) (by decide +kernel)
set_option maxRecDepth 20000 in
theorem gX7_huntNow_X7_laySpots : GoodIn wsX7_huntNow (wsV RX7 285 RX7 yX7_laySpots wsX7_laySpots) := goodIn_app (goodIn_of _ (by decide +kernel)) ggX7_huntNow_X7_laySpots
set_option maxRecDepth 20000 in
theorem ggX7_huntNow_X7_bestSpot : GoodIn wsX7_huntNow wsX7_bestSpot := goodIn_r _ [94, 17, 6, 7, 8, 42, 95, 96, 97, 15, 98, 4, 99, 100, 101, 102, 30, 103, 104, 105, 106, 28, 29, 59, 60, 61, 62, 63, 64, 65, 66, 67, 68, 69, 107, 108, 109, 110, 111, 112, 113, 114, 115, 116, 117, 118, 119, 120, 121, 122, 123, 124, 125, 126, 127, 128, 129, 130, 131, 132, 133, 134, 135, 136, 137, 138, 139, 140, 141, 142, 143, 144, 145, 146, 147, 148, 149, 150, 151, 152, 153, 154, 155, 156, 157, 158, 159, 160, 161, 162, 163, 164] (by decide +kernel) (by decide +kernel)
set_option maxRecDepth 20000 in
theorem gX7_huntNow_X7_bestSpot : GoodIn wsX7_huntNow (wsV RX7 325 RX7 yX7_bestSpot wsX7_bestSpot) := goodIn_app (goodIn_of _ (by decide +kernel)) ggX7_huntNow_X7_bestSpot
set_option maxRecDepth 20000 in
theorem ggX7_huntNow_X7_supporters : GoodIn wsX7_huntNow wsX7_supporters := goodIn_r _ [98, 4, 99, 100, 101, 15, 102, 42, 30, 103, 104, 105, 106, 28, 29, 59, 60, 61, 62, 63, 64, 65, 66, 67, 68, 69, 121, 122, 123, 124, 125, 126, 127, 128, 129, 130, 131, 132, 133, 134, 135, 136, 137, 138, 139, 140, 141, 142, 143, 144, 145, 146, 147, 148, 149, 150, 151, 152, 153, 154, 155, 156, 157, 158, 159, 160, 161, 162, 163, 164] (by decide +kernel) (by decide +kernel)
set_option maxRecDepth 20000 in
theorem gX7_huntNow_X7_supporters : GoodIn wsX7_huntNow (wsV RX7 304 RX7 yX7_supporters wsX7_supporters) := goodIn_app (goodIn_of _ (by decide +kernel)) ggX7_huntNow_X7_supporters
theorem dX7_huntNow_0 : decode cX7_huntNow 0 = .ok (.aload_n 0, 1) := by decide +kernel
theorem dX7_huntNow_1 : decode cX7_huntNow 1 = .ok (.invokevirtual 285, 3) := by decide +kernel
theorem dX7_huntNow_4 : decode cX7_huntNow 4 = .ok (.aload_n 0, 1) := by decide +kernel
theorem dX7_huntNow_5 : decode cX7_huntNow 5 = .ok (.iconst 0, 1) := by decide +kernel
theorem dX7_huntNow_6 : decode cX7_huntNow 6 = .ok (.putfield 319, 3) := by decide +kernel
theorem dX7_huntNow_9 : decode cX7_huntNow 9 = .ok (.aload_n 0, 1) := by decide +kernel
theorem dX7_huntNow_10 : decode cX7_huntNow 10 = .ok (.dup, 1) := by decide +kernel
theorem dX7_huntNow_11 : decode cX7_huntNow 11 = .ok (.getfield 322, 3) := by decide +kernel
theorem dX7_huntNow_14 : decode cX7_huntNow 14 = .ok (.iconst 1, 1) := by decide +kernel
theorem dX7_huntNow_15 : decode cX7_huntNow 15 = .ok (.iadd, 1) := by decide +kernel
theorem dX7_huntNow_16 : decode cX7_huntNow 16 = .ok (.putfield 322, 3) := by decide +kernel
theorem dX7_huntNow_19 : decode cX7_huntNow 19 = .ok (.aload_n 0, 1) := by decide +kernel
theorem dX7_huntNow_20 : decode cX7_huntNow 20 = .ok (.iconst 1, 1) := by decide +kernel
theorem dX7_huntNow_21 : decode cX7_huntNow 21 = .ok (.putfield 124, 3) := by decide +kernel
theorem dX7_huntNow_24 : decode cX7_huntNow 24 = .ok (.iconst 1, 1) := by decide +kernel
theorem dX7_huntNow_25 : decode cX7_huntNow 25 = .ok (.aload_n 0, 1) := by decide +kernel
theorem dX7_huntNow_26 : decode cX7_huntNow 26 = .ok (.getfield 121, 3) := by decide +kernel
theorem dX7_huntNow_29 : decode cX7_huntNow 29 = .ok (.ishl, 1) := by decide +kernel
theorem dX7_huntNow_30 : decode cX7_huntNow 30 = .ok (.iconst 1, 1) := by decide +kernel
theorem dX7_huntNow_31 : decode cX7_huntNow 31 = .ok (.isub, 1) := by decide +kernel
theorem dX7_huntNow_32 : decode cX7_huntNow 32 = .ok (.istore_n 1, 1) := by decide +kernel
theorem dX7_huntNow_33 : decode cX7_huntNow 33 = .ok (.iconst 0, 1) := by decide +kernel
theorem dX7_huntNow_34 : decode cX7_huntNow 34 = .ok (.istore_n 2, 1) := by decide +kernel
theorem dX7_huntNow_35 : decode cX7_huntNow 35 = .ok (.iload_n 2, 1) := by decide +kernel
theorem dX7_huntNow_36 : decode cX7_huntNow 36 = .ok (.aload_n 0, 1) := by decide +kernel
theorem dX7_huntNow_37 : decode cX7_huntNow 37 = .ok (.getfield 121, 3) := by decide +kernel
theorem dX7_huntNow_40 : decode cX7_huntNow 40 = .ok (.if_icmp .ge 16, 3) := by decide +kernel
theorem dX7_huntNow_43 : decode cX7_huntNow 43 = .ok (.aload_n 0, 1) := by decide +kernel
theorem dX7_huntNow_44 : decode cX7_huntNow 44 = .ok (.getfield 34, 3) := by decide +kernel
theorem dX7_huntNow_47 : decode cX7_huntNow 47 = .ok (.iload_n 2, 1) := by decide +kernel
theorem dX7_huntNow_48 : decode cX7_huntNow 48 = .ok (.iconst (-1), 1) := by decide +kernel
theorem dX7_huntNow_49 : decode cX7_huntNow 49 = .ok (.iastore, 1) := by decide +kernel
theorem dX7_huntNow_50 : decode cX7_huntNow 50 = .ok (.iinc 2 1, 3) := by decide +kernel
theorem dX7_huntNow_53 : decode cX7_huntNow 53 = .ok (.goto (-18), 3) := by decide +kernel
theorem dX7_huntNow_56 : decode cX7_huntNow 56 = .ok (.aload_n 0, 1) := by decide +kernel
theorem dX7_huntNow_57 : decode cX7_huntNow 57 = .ok (.iload_n 1, 1) := by decide +kernel
theorem dX7_huntNow_58 : decode cX7_huntNow 58 = .ok (.invokevirtual 325, 3) := by decide +kernel
theorem dX7_huntNow_61 : decode cX7_huntNow 61 = .ok (.istore_n 2, 1) := by decide +kernel
theorem dX7_huntNow_62 : decode cX7_huntNow 62 = .ok (.iload_n 2, 1) := by decide +kernel
theorem dX7_huntNow_63 : decode cX7_huntNow 63 = .ok (.iconst (-1), 1) := by decide +kernel
theorem dX7_huntNow_64 : decode cX7_huntNow 64 = .ok (.if_icmp .eq 147, 3) := by decide +kernel
theorem dX7_huntNow_67 : decode cX7_huntNow 67 = .ok (.aload_n 0, 1) := by decide +kernel
theorem dX7_huntNow_68 : decode cX7_huntNow 68 = .ok (.aload_n 0, 1) := by decide +kernel
theorem dX7_huntNow_69 : decode cX7_huntNow 69 = .ok (.getfield 46, 3) := by decide +kernel
theorem dX7_huntNow_72 : decode cX7_huntNow 72 = .ok (.iload_n 2, 1) := by decide +kernel
theorem dX7_huntNow_73 : decode cX7_huntNow 73 = .ok (.iaload, 1) := by decide +kernel
theorem dX7_huntNow_74 : decode cX7_huntNow 74 = .ok (.aload_n 0, 1) := by decide +kernel
theorem dX7_huntNow_75 : decode cX7_huntNow 75 = .ok (.getfield 49, 3) := by decide +kernel
theorem dX7_huntNow_78 : decode cX7_huntNow 78 = .ok (.iload_n 2, 1) := by decide +kernel
theorem dX7_huntNow_79 : decode cX7_huntNow 79 = .ok (.iaload, 1) := by decide +kernel
theorem dX7_huntNow_80 : decode cX7_huntNow 80 = .ok (.aload_n 0, 1) := by decide +kernel
theorem dX7_huntNow_81 : decode cX7_huntNow 81 = .ok (.getfield 52, 3) := by decide +kernel
theorem dX7_huntNow_84 : decode cX7_huntNow 84 = .ok (.iload_n 2, 1) := by decide +kernel
theorem dX7_huntNow_85 : decode cX7_huntNow 85 = .ok (.iaload, 1) := by decide +kernel
theorem dX7_huntNow_86 : decode cX7_huntNow 86 = .ok (.invokevirtual 304, 3) := by decide +kernel
theorem dX7_huntNow_89 : decode cX7_huntNow 89 = .ok (.iload_n 1, 1) := by decide +kernel
theorem dX7_huntNow_90 : decode cX7_huntNow 90 = .ok (.iand, 1) := by decide +kernel
theorem dX7_huntNow_91 : decode cX7_huntNow 91 = .ok (.istore_n 3, 1) := by decide +kernel
theorem dX7_huntNow_92 : decode cX7_huntNow 92 = .ok (.aload_n 0, 1) := by decide +kernel
theorem dX7_huntNow_93 : decode cX7_huntNow 93 = .ok (.getfield 25, 3) := by decide +kernel
theorem dX7_huntNow_96 : decode cX7_huntNow 96 = .ok (.aload_n 0, 1) := by decide +kernel
theorem dX7_huntNow_97 : decode cX7_huntNow 97 = .ok (.getfield 319, 3) := by decide +kernel
theorem dX7_huntNow_100 : decode cX7_huntNow 100 = .ok (.aload_n 0, 1) := by decide +kernel
theorem dX7_huntNow_101 : decode cX7_huntNow 101 = .ok (.getfield 46, 3) := by decide +kernel
theorem dX7_huntNow_104 : decode cX7_huntNow 104 = .ok (.iload_n 2, 1) := by decide +kernel
theorem dX7_huntNow_105 : decode cX7_huntNow 105 = .ok (.iaload, 1) := by decide +kernel
theorem dX7_huntNow_106 : decode cX7_huntNow 106 = .ok (.iastore, 1) := by decide +kernel
theorem dX7_huntNow_107 : decode cX7_huntNow 107 = .ok (.aload_n 0, 1) := by decide +kernel
theorem dX7_huntNow_108 : decode cX7_huntNow 108 = .ok (.getfield 28, 3) := by decide +kernel
theorem dX7_huntNow_111 : decode cX7_huntNow 111 = .ok (.aload_n 0, 1) := by decide +kernel
theorem dX7_huntNow_112 : decode cX7_huntNow 112 = .ok (.getfield 319, 3) := by decide +kernel
theorem dX7_huntNow_115 : decode cX7_huntNow 115 = .ok (.aload_n 0, 1) := by decide +kernel
theorem dX7_huntNow_116 : decode cX7_huntNow 116 = .ok (.getfield 49, 3) := by decide +kernel
theorem dX7_huntNow_119 : decode cX7_huntNow 119 = .ok (.iload_n 2, 1) := by decide +kernel
theorem dX7_huntNow_120 : decode cX7_huntNow 120 = .ok (.iaload, 1) := by decide +kernel
theorem dX7_huntNow_121 : decode cX7_huntNow 121 = .ok (.iastore, 1) := by decide +kernel
theorem dX7_huntNow_122 : decode cX7_huntNow 122 = .ok (.aload_n 0, 1) := by decide +kernel
theorem dX7_huntNow_123 : decode cX7_huntNow 123 = .ok (.getfield 31, 3) := by decide +kernel
theorem dX7_huntNow_126 : decode cX7_huntNow 126 = .ok (.aload_n 0, 1) := by decide +kernel
theorem dX7_huntNow_127 : decode cX7_huntNow 127 = .ok (.getfield 319, 3) := by decide +kernel
theorem dX7_huntNow_130 : decode cX7_huntNow 130 = .ok (.aload_n 0, 1) := by decide +kernel
theorem dX7_huntNow_131 : decode cX7_huntNow 131 = .ok (.getfield 52, 3) := by decide +kernel
theorem dX7_huntNow_134 : decode cX7_huntNow 134 = .ok (.iload_n 2, 1) := by decide +kernel
theorem dX7_huntNow_135 : decode cX7_huntNow 135 = .ok (.iaload, 1) := by decide +kernel
theorem dX7_huntNow_136 : decode cX7_huntNow 136 = .ok (.iastore, 1) := by decide +kernel
theorem dX7_huntNow_137 : decode cX7_huntNow 137 = .ok (.iconst 0, 1) := by decide +kernel
theorem dX7_huntNow_138 : decode cX7_huntNow 138 = .ok (.istore 4, 2) := by decide +kernel
theorem dX7_huntNow_140 : decode cX7_huntNow 140 = .ok (.iload 4, 2) := by decide +kernel
theorem dX7_huntNow_142 : decode cX7_huntNow 142 = .ok (.aload_n 0, 1) := by decide +kernel
theorem dX7_huntNow_143 : decode cX7_huntNow 143 = .ok (.getfield 121, 3) := by decide +kernel
theorem dX7_huntNow_146 : decode cX7_huntNow 146 = .ok (.if_icmp .ge 40, 3) := by decide +kernel
theorem dX7_huntNow_149 : decode cX7_huntNow 149 = .ok (.aload_n 0, 1) := by decide +kernel
theorem dX7_huntNow_150 : decode cX7_huntNow 150 = .ok (.getfield 34, 3) := by decide +kernel
theorem dX7_huntNow_153 : decode cX7_huntNow 153 = .ok (.iload 4, 2) := by decide +kernel
theorem dX7_huntNow_155 : decode cX7_huntNow 155 = .ok (.iload_n 3, 1) := by decide +kernel
theorem dX7_huntNow_156 : decode cX7_huntNow 156 = .ok (.iload 4, 2) := by decide +kernel
theorem dX7_huntNow_158 : decode cX7_huntNow 158 = .ok (.ishr, 1) := by decide +kernel
theorem dX7_huntNow_159 : decode cX7_huntNow 159 = .ok (.iconst 1, 1) := by decide +kernel
theorem dX7_huntNow_160 : decode cX7_huntNow 160 = .ok (.iand, 1) := by decide +kernel
theorem dX7_huntNow_161 : decode cX7_huntNow 161 = .ok (.iconst 1, 1) := by decide +kernel
theorem dX7_huntNow_162 : decode cX7_huntNow 162 = .ok (.if_icmp .ne 10, 3) := by decide +kernel
theorem dX7_huntNow_165 : decode cX7_huntNow 165 = .ok (.aload_n 0, 1) := by decide +kernel
theorem dX7_huntNow_166 : decode cX7_huntNow 166 = .ok (.getfield 319, 3) := by decide +kernel
theorem dX7_huntNow_169 : decode cX7_huntNow 169 = .ok (.goto 10, 3) := by decide +kernel
theorem dX7_huntNow_172 : decode cX7_huntNow 172 = .ok (.aload_n 0, 1) := by decide +kernel
theorem dX7_huntNow_173 : decode cX7_huntNow 173 = .ok (.getfield 34, 3) := by decide +kernel
theorem dX7_huntNow_176 : decode cX7_huntNow 176 = .ok (.iload 4, 2) := by decide +kernel
theorem dX7_huntNow_178 : decode cX7_huntNow 178 = .ok (.iaload, 1) := by decide +kernel
theorem dX7_huntNow_179 : decode cX7_huntNow 179 = .ok (.iastore, 1) := by decide +kernel
theorem dX7_huntNow_180 : decode cX7_huntNow 180 = .ok (.iinc 4 1, 3) := by decide +kernel
theorem dX7_huntNow_183 : decode cX7_huntNow 183 = .ok (.goto (-43), 3) := by decide +kernel
theorem dX7_huntNow_186 : decode cX7_huntNow 186 = .ok (.aload_n 0, 1) := by decide +kernel
theorem dX7_huntNow_187 : decode cX7_huntNow 187 = .ok (.dup, 1) := by decide +kernel
theorem dX7_huntNow_188 : decode cX7_huntNow 188 = .ok (.getfield 319, 3) := by decide +kernel
theorem dX7_huntNow_191 : decode cX7_huntNow 191 = .ok (.iconst 1, 1) := by decide +kernel
theorem dX7_huntNow_192 : decode cX7_huntNow 192 = .ok (.iadd, 1) := by decide +kernel
theorem dX7_huntNow_193 : decode cX7_huntNow 193 = .ok (.putfield 319, 3) := by decide +kernel
theorem dX7_huntNow_196 : decode cX7_huntNow 196 = .ok (.iload_n 1, 1) := by decide +kernel
theorem dX7_huntNow_197 : decode cX7_huntNow 197 = .ok (.iload_n 3, 1) := by decide +kernel
theorem dX7_huntNow_198 : decode cX7_huntNow 198 = .ok (.iconst (-1), 1) := by decide +kernel
theorem dX7_huntNow_199 : decode cX7_huntNow 199 = .ok (.ixor, 1) := by decide +kernel
theorem dX7_huntNow_200 : decode cX7_huntNow 200 = .ok (.iand, 1) := by decide +kernel
theorem dX7_huntNow_201 : decode cX7_huntNow 201 = .ok (.istore_n 1, 1) := by decide +kernel
theorem dX7_huntNow_202 : decode cX7_huntNow 202 = .ok (.aload_n 0, 1) := by decide +kernel
theorem dX7_huntNow_203 : decode cX7_huntNow 203 = .ok (.iload_n 1, 1) := by decide +kernel
theorem dX7_huntNow_204 : decode cX7_huntNow 204 = .ok (.invokevirtual 325, 3) := by decide +kernel
theorem dX7_huntNow_207 : decode cX7_huntNow 207 = .ok (.istore_n 2, 1) := by decide +kernel
theorem dX7_huntNow_208 : decode cX7_huntNow 208 = .ok (.goto (-146), 3) := by decide +kernel
theorem dX7_huntNow_211 : decode cX7_huntNow 211 = .ok (.aload_n 0, 1) := by decide +kernel
theorem dX7_huntNow_212 : decode cX7_huntNow 212 = .ok (.getfield 319, 3) := by decide +kernel
theorem dX7_huntNow_215 : decode cX7_huntNow 215 = .ok (.ireturn, 1) := by decide +kernel
set_option maxRecDepth 20000 in
theorem ggX7_hunt_X7_isSheet : GoodIn wsX7_hunt wsX7_isSheet := goodIn_r _ [5, 6, 129, 130, 131, 132, 133, 134, 135, 136, 137, 138, 139, 140, 141, 142, 143, 144, 145, 146, 147, 148, 149, 150, 151, 152, 153, 154, 155, 156, 157, 158, 159, 160, 161, 162, 163, 164, 165, 166, 167, 168, 169, 170, 171, 172] (by decide +kernel) (by decide +kernel)
set_option maxRecDepth 20000 in
theorem gX7_hunt_X7_isSheet : GoodIn wsX7_hunt (wsV RX7 150 RX7 yX7_isSheet wsX7_isSheet) := goodIn_app (goodIn_of _ (by decide +kernel)) ggX7_hunt_X7_isSheet
set_option maxRecDepth 20000 in
theorem ggX7_hunt_X7_huntNow : GoodIn wsX7_hunt wsX7_huntNow := goodIn_r _ [10, 11, 12, 13, 14, 15, 16, 17, 18, 19, 20, 21, 22, 23, 24, 4, 25, 26, 27, 28, 29, 30, 31, 32, 33, 34, 35, 36, 37, 38, 39, 40, 41, 42, 43, 44, 45, 46, 47, 48, 49, 50, 51, 52, 53, 54, 55, 56, 57, 58, 6, 59, 60, 61, 62, 63, 64, 65, 66, 67, 68, 69, 70, 71, 72, 73, 74, 75, 76, 77, 78, 79, 80, 81, 82, 83, 84, 85, 86, 87, 88, 89, 90, 91, 92, 93, 94, 95, 96, 97, 98, 99, 100, 101, 102, 103, 104, 105, 106, 107, 108, 109, 110, 111, 112, 113, 114, 115, 116, 117, 118, 119, 120, 121, 122, 123, 124, 125, 126, 127, 128, 129, 130, 131, 132, 133, 134, 135, 136, 137, 138, 139, 140, 141, 142, 143, 144, 145, 146, 147, 148, 149, 150, 151, 152, 153, 154, 155, 156, 157, 158, 159, 160, 161, 162, 163, 164, 165, 166, 167, 168, 169, 170, 171, 172] (by decide +kernel) (by decide +kernel)
set_option maxRecDepth 20000 in
theorem gX7_hunt_X7_huntNow : GoodIn wsX7_hunt (wsV RX7 328 RX7 yX7_huntNow wsX7_huntNow) := goodIn_app (goodIn_of _ (by decide +kernel)) ggX7_hunt_X7_huntNow
theorem dX7_hunt_0 : decode cX7_hunt 0 = .ok (.aload_n 0, 1) := by decide +kernel
theorem dX7_hunt_1 : decode cX7_hunt 1 = .ok (.invokevirtual 150, 3) := by decide +kernel
theorem dX7_hunt_4 : decode cX7_hunt 4 = .ok (.ifCond .eq 10, 3) := by decide +kernel
theorem dX7_hunt_7 : decode cX7_hunt 7 = .ok (.aload_n 0, 1) := by decide +kernel
theorem dX7_hunt_8 : decode cX7_hunt 8 = .ok (.invokevirtual 328, 3) := by decide +kernel
theorem dX7_hunt_11 : decode cX7_hunt 11 = .ok (.goto 5, 3) := by decide +kernel
theorem dX7_hunt_14 : decode cX7_hunt 14 = .ok (.bipush (-103), 2) := by decide +kernel
theorem dX7_hunt_16 : decode cX7_hunt 16 = .ok (.ireturn, 1) := by decide +kernel
set_option maxRecDepth 20000 in
theorem ggX7_farFrom_X7_farOf : GoodIn wsX7_farFrom wsX7_farOf := goodIn_r _ [8, 9, 10, 14, 15, 16, 17, 18, 19, 20, 21, 22, 23, 24, 25, 26, 27, 28, 29, 30, 31, 32, 33, 34, 35, 36, 37, 38, 39, 40, 41, 42, 43, 44, 45, 46, 47, 48, 49, 50, 51, 52, 53, 54, 55, 56, 57] (by decide +kernel) (by decide +kernel)
set_option maxRecDepth 20000 in
theorem gX7_farFrom_X7_farOf : GoodIn wsX7_farFrom (wsV RX7 288 RX7 yX7_farOf wsX7_farOf) := goodIn_app (goodIn_of _ (by decide +kernel)) ggX7_farFrom_X7_farOf
set_option maxRecDepth 20000 in
theorem ggX7_farFrom_X7_abs : GoodIn wsX7_farFrom wsX7_abs := goodIn_r _ [13] (by decide +kernel) (by decide +kernel)
set_option maxRecDepth 20000 in
theorem gX7_farFrom_X7_abs : GoodIn wsX7_farFrom (va_wsS RX7 295 yX7_abs wsX7_abs) := goodIn_app (goodIn_of _ (by decide +kernel)) ggX7_farFrom_X7_abs
theorem dX7_farFrom_0 : decode cX7_farFrom 0 = .ok (.iconst 2, 1) := by decide +kernel
theorem dX7_farFrom_1 : decode cX7_farFrom 1 = .ok (.aload_n 0, 1) := by decide +kernel
theorem dX7_farFrom_2 : decode cX7_farFrom 2 = .ok (.getfield 31, 3) := by decide +kernel
theorem dX7_farFrom_5 : decode cX7_farFrom 5 = .ok (.iload_n 1, 1) := by decide +kernel
theorem dX7_farFrom_6 : decode cX7_farFrom 6 = .ok (.iaload, 1) := by decide +kernel
theorem dX7_farFrom_7 : decode cX7_farFrom 7 = .ok (.imul, 1) := by decide +kernel
theorem dX7_farFrom_8 : decode cX7_farFrom 8 = .ok (.iconst 1, 1) := by decide +kernel
theorem dX7_farFrom_9 : decode cX7_farFrom 9 = .ok (.iadd, 1) := by decide +kernel
theorem dX7_farFrom_10 : decode cX7_farFrom 10 = .ok (.istore_n 3, 1) := by decide +kernel
theorem dX7_farFrom_11 : decode cX7_farFrom 11 = .ok (.aload_n 0, 1) := by decide +kernel
theorem dX7_farFrom_12 : decode cX7_farFrom 12 = .ok (.aload_n 0, 1) := by decide +kernel
theorem dX7_farFrom_13 : decode cX7_farFrom 13 = .ok (.getfield 25, 3) := by decide +kernel
theorem dX7_farFrom_16 : decode cX7_farFrom 16 = .ok (.iload_n 1, 1) := by decide +kernel
theorem dX7_farFrom_17 : decode cX7_farFrom 17 = .ok (.iaload, 1) := by decide +kernel
theorem dX7_farFrom_18 : decode cX7_farFrom 18 = .ok (.aload_n 0, 1) := by decide +kernel
theorem dX7_farFrom_19 : decode cX7_farFrom 19 = .ok (.getfield 28, 3) := by decide +kernel
theorem dX7_farFrom_22 : decode cX7_farFrom 22 = .ok (.iload_n 1, 1) := by decide +kernel
theorem dX7_farFrom_23 : decode cX7_farFrom 23 = .ok (.iaload, 1) := by decide +kernel
theorem dX7_farFrom_24 : decode cX7_farFrom 24 = .ok (.iload_n 2, 1) := by decide +kernel
theorem dX7_farFrom_25 : decode cX7_farFrom 25 = .ok (.invokevirtual 288, 3) := by decide +kernel
theorem dX7_farFrom_28 : decode cX7_farFrom 28 = .ok (.iload_n 3, 1) := by decide +kernel
theorem dX7_farFrom_29 : decode cX7_farFrom 29 = .ok (.iload_n 3, 1) := by decide +kernel
theorem dX7_farFrom_30 : decode cX7_farFrom 30 = .ok (.imul, 1) := by decide +kernel
theorem dX7_farFrom_31 : decode cX7_farFrom 31 = .ok (.isub, 1) := by decide +kernel
theorem dX7_farFrom_32 : decode cX7_farFrom 32 = .ok (.invokestatic 295, 3) := by decide +kernel
theorem dX7_farFrom_35 : decode cX7_farFrom 35 = .ok (.ireturn, 1) := by decide +kernel
set_option maxRecDepth 20000 in
theorem ggX7_nearestRing_X7_supports : GoodIn wsX7_nearestRing wsX7_supports := goodIn_r _ [9, 10, 11, 12, 13, 14, 8, 15, 16, 17, 18, 19, 20, 21, 22, 23, 24, 25, 26, 27, 28, 36, 37, 38, 39, 40, 41, 42, 43, 44, 45, 46, 47, 48, 49, 50, 51, 52, 53, 54, 55, 56, 57, 58, 59, 60, 61, 62, 63, 64, 65, 66, 67, 68, 69, 70, 71, 72, 73, 74, 75, 76, 77, 78, 79] (by decide +kernel) (by decide +kernel)
set_option maxRecDepth 20000 in
theorem gX7_nearestRing_X7_supports : GoodIn wsX7_nearestRing (wsV RX7 291 RX7 yX7_supports wsX7_supports) := goodIn_app (goodIn_of _ (by decide +kernel)) ggX7_nearestRing_X7_supports
set_option maxRecDepth 20000 in
theorem ggX7_nearestRing_X7_farFrom : GoodIn wsX7_nearestRing wsX7_farFrom := goodIn_r _ [32, 4, 2, 3, 12, 13, 14, 8, 15, 16, 17, 33, 34, 35, 36, 37, 38, 39, 40, 41, 42, 43, 44, 45, 46, 47, 48, 49, 50, 51, 52, 53, 54, 55, 56, 57, 58, 59, 60, 61, 62, 63, 64, 65, 66, 67, 68, 69, 70, 71, 72, 73, 74, 75, 76, 77, 78, 79] (by decide +kernel) (by decide +kernel)
set_option maxRecDepth 20000 in
theorem gX7_nearestRing_X7_farFrom : GoodIn wsX7_nearestRing (wsV RX7 331 RX7 yX7_farFrom wsX7_farFrom) := goodIn_app (goodIn_of _ (by decide +kernel)) ggX7_nearestRing_X7_farFrom
theorem dX7_nearestRing_0 : decode cX7_nearestRing 0 = .ok (.iconst (-1), 1) := by decide +kernel
theorem dX7_nearestRing_1 : decode cX7_nearestRing 1 = .ok (.istore_n 2, 1) := by decide +kernel
theorem dX7_nearestRing_2 : decode cX7_nearestRing 2 = .ok (.iconst 0, 1) := by decide +kernel
theorem dX7_nearestRing_3 : decode cX7_nearestRing 3 = .ok (.istore_n 3, 1) := by decide +kernel
theorem dX7_nearestRing_4 : decode cX7_nearestRing 4 = .ok (.iload_n 3, 1) := by decide +kernel
theorem dX7_nearestRing_5 : decode cX7_nearestRing 5 = .ok (.aload_n 0, 1) := by decide +kernel
theorem dX7_nearestRing_6 : decode cX7_nearestRing 6 = .ok (.getfield 319, 3) := by decide +kernel
theorem dX7_nearestRing_9 : decode cX7_nearestRing 9 = .ok (.if_icmp .ge 73, 3) := by decide +kernel
theorem dX7_nearestRing_12 : decode cX7_nearestRing 12 = .ok (.aload_n 0, 1) := by decide +kernel
theorem dX7_nearestRing_13 : decode cX7_nearestRing 13 = .ok (.aload_n 0, 1) := by decide +kernel
theorem dX7_nearestRing_14 : decode cX7_nearestRing 14 = .ok (.getfield 25, 3) := by decide +kernel
theorem dX7_nearestRing_17 : decode cX7_nearestRing 17 = .ok (.iload_n 3, 1) := by decide +kernel
theorem dX7_nearestRing_18 : decode cX7_nearestRing 18 = .ok (.iaload, 1) := by decide +kernel
theorem dX7_nearestRing_19 : decode cX7_nearestRing 19 = .ok (.aload_n 0, 1) := by decide +kernel
theorem dX7_nearestRing_20 : decode cX7_nearestRing 20 = .ok (.getfield 28, 3) := by decide +kernel
theorem dX7_nearestRing_23 : decode cX7_nearestRing 23 = .ok (.iload_n 3, 1) := by decide +kernel
theorem dX7_nearestRing_24 : decode cX7_nearestRing 24 = .ok (.iaload, 1) := by decide +kernel
theorem dX7_nearestRing_25 : decode cX7_nearestRing 25 = .ok (.aload_n 0, 1) := by decide +kernel
theorem dX7_nearestRing_26 : decode cX7_nearestRing 26 = .ok (.getfield 31, 3) := by decide +kernel
theorem dX7_nearestRing_29 : decode cX7_nearestRing 29 = .ok (.iload_n 3, 1) := by decide +kernel
theorem dX7_nearestRing_30 : decode cX7_nearestRing 30 = .ok (.iaload, 1) := by decide +kernel
theorem dX7_nearestRing_31 : decode cX7_nearestRing 31 = .ok (.iload_n 1, 1) := by decide +kernel
theorem dX7_nearestRing_32 : decode cX7_nearestRing 32 = .ok (.invokevirtual 291, 3) := by decide +kernel
theorem dX7_nearestRing_35 : decode cX7_nearestRing 35 = .ok (.ifCond .eq 27, 3) := by decide +kernel
theorem dX7_nearestRing_38 : decode cX7_nearestRing 38 = .ok (.iload_n 2, 1) := by decide +kernel
theorem dX7_nearestRing_39 : decode cX7_nearestRing 39 = .ok (.iconst (-1), 1) := by decide +kernel
theorem dX7_nearestRing_40 : decode cX7_nearestRing 40 = .ok (.if_icmp .eq 18, 3) := by decide +kernel
theorem dX7_nearestRing_43 : decode cX7_nearestRing 43 = .ok (.aload_n 0, 1) := by decide +kernel
theorem dX7_nearestRing_44 : decode cX7_nearestRing 44 = .ok (.iload_n 3, 1) := by decide +kernel
theorem dX7_nearestRing_45 : decode cX7_nearestRing 45 = .ok (.iload_n 1, 1) := by decide +kernel
theorem dX7_nearestRing_46 : decode cX7_nearestRing 46 = .ok (.invokevirtual 331, 3) := by decide +kernel
theorem dX7_nearestRing_49 : decode cX7_nearestRing 49 = .ok (.aload_n 0, 1) := by decide +kernel
theorem dX7_nearestRing_50 : decode cX7_nearestRing 50 = .ok (.iload_n 2, 1) := by decide +kernel
theorem dX7_nearestRing_51 : decode cX7_nearestRing 51 = .ok (.iload_n 1, 1) := by decide +kernel
theorem dX7_nearestRing_52 : decode cX7_nearestRing 52 = .ok (.invokevirtual 331, 3) := by decide +kernel
theorem dX7_nearestRing_55 : decode cX7_nearestRing 55 = .ok (.if_icmp .ge 7, 3) := by decide +kernel
theorem dX7_nearestRing_58 : decode cX7_nearestRing 58 = .ok (.iconst 1, 1) := by decide +kernel
theorem dX7_nearestRing_59 : decode cX7_nearestRing 59 = .ok (.goto 4, 3) := by decide +kernel
theorem dX7_nearestRing_62 : decode cX7_nearestRing 62 = .ok (.iconst 0, 1) := by decide +kernel
theorem dX7_nearestRing_63 : decode cX7_nearestRing 63 = .ok (.istore 4, 2) := by decide +kernel
theorem dX7_nearestRing_65 : decode cX7_nearestRing 65 = .ok (.iload 4, 2) := by decide +kernel
theorem dX7_nearestRing_67 : decode cX7_nearestRing 67 = .ok (.ifCond .eq 7, 3) := by decide +kernel
theorem dX7_nearestRing_70 : decode cX7_nearestRing 70 = .ok (.iload_n 3, 1) := by decide +kernel
theorem dX7_nearestRing_71 : decode cX7_nearestRing 71 = .ok (.goto 4, 3) := by decide +kernel
theorem dX7_nearestRing_74 : decode cX7_nearestRing 74 = .ok (.iload_n 2, 1) := by decide +kernel
theorem dX7_nearestRing_75 : decode cX7_nearestRing 75 = .ok (.istore_n 2, 1) := by decide +kernel
theorem dX7_nearestRing_76 : decode cX7_nearestRing 76 = .ok (.iinc 3 1, 3) := by decide +kernel
theorem dX7_nearestRing_79 : decode cX7_nearestRing 79 = .ok (.goto (-75), 3) := by decide +kernel
theorem dX7_nearestRing_82 : decode cX7_nearestRing 82 = .ok (.iload_n 2, 1) := by decide +kernel
theorem dX7_nearestRing_83 : decode cX7_nearestRing 83 = .ok (.ireturn, 1) := by decide +kernel
theorem dX7_ownOf_0 : decode cX7_ownOf 0 = .ok (.iconst 0, 1) := by decide +kernel
theorem dX7_ownOf_1 : decode cX7_ownOf 1 = .ok (.istore_n 2, 1) := by decide +kernel
theorem dX7_ownOf_2 : decode cX7_ownOf 2 = .ok (.iconst 0, 1) := by decide +kernel
theorem dX7_ownOf_3 : decode cX7_ownOf 3 = .ok (.istore_n 3, 1) := by decide +kernel
theorem dX7_ownOf_4 : decode cX7_ownOf 4 = .ok (.iload_n 3, 1) := by decide +kernel
theorem dX7_ownOf_5 : decode cX7_ownOf 5 = .ok (.aload_n 0, 1) := by decide +kernel
theorem dX7_ownOf_6 : decode cX7_ownOf 6 = .ok (.getfield 121, 3) := by decide +kernel
theorem dX7_ownOf_9 : decode cX7_ownOf 9 = .ok (.if_icmp .ge 29, 3) := by decide +kernel
theorem dX7_ownOf_12 : decode cX7_ownOf 12 = .ok (.iload_n 2, 1) := by decide +kernel
theorem dX7_ownOf_13 : decode cX7_ownOf 13 = .ok (.aload_n 0, 1) := by decide +kernel
theorem dX7_ownOf_14 : decode cX7_ownOf 14 = .ok (.getfield 34, 3) := by decide +kernel
theorem dX7_ownOf_17 : decode cX7_ownOf 17 = .ok (.iload_n 3, 1) := by decide +kernel
theorem dX7_ownOf_18 : decode cX7_ownOf 18 = .ok (.iaload, 1) := by decide +kernel
theorem dX7_ownOf_19 : decode cX7_ownOf 19 = .ok (.iload_n 1, 1) := by decide +kernel
theorem dX7_ownOf_20 : decode cX7_ownOf 20 = .ok (.if_icmp .ne 9, 3) := by decide +kernel
theorem dX7_ownOf_23 : decode cX7_ownOf 23 = .ok (.iconst 1, 1) := by decide +kernel
theorem dX7_ownOf_24 : decode cX7_ownOf 24 = .ok (.iload_n 3, 1) := by decide +kernel
theorem dX7_ownOf_25 : decode cX7_ownOf 25 = .ok (.ishl, 1) := by decide +kernel
theorem dX7_ownOf_26 : decode cX7_ownOf 26 = .ok (.goto 4, 3) := by decide +kernel
theorem dX7_ownOf_29 : decode cX7_ownOf 29 = .ok (.iconst 0, 1) := by decide +kernel
theorem dX7_ownOf_30 : decode cX7_ownOf 30 = .ok (.ior, 1) := by decide +kernel
theorem dX7_ownOf_31 : decode cX7_ownOf 31 = .ok (.istore_n 2, 1) := by decide +kernel
theorem dX7_ownOf_32 : decode cX7_ownOf 32 = .ok (.iinc 3 1, 3) := by decide +kernel
theorem dX7_ownOf_35 : decode cX7_ownOf 35 = .ok (.goto (-31), 3) := by decide +kernel
theorem dX7_ownOf_38 : decode cX7_ownOf 38 = .ok (.iload_n 2, 1) := by decide +kernel
theorem dX7_ownOf_39 : decode cX7_ownOf 39 = .ok (.ireturn, 1) := by decide +kernel
set_option maxRecDepth 20000 in
theorem ggX7_poorest_X7_ownOf : GoodIn wsX7_poorest wsX7_ownOf := goodIn_r _ [7, 8, 9, 13, 14, 15, 16, 17, 18, 19, 20, 21, 22, 23, 24, 25, 26, 27, 28, 29, 30, 31, 32, 33, 34, 35, 36, 37, 38, 39, 40, 41, 42, 43, 44, 45, 46, 47, 48, 49, 50, 51, 52, 53, 54, 55, 56] (by decide +kernel) (by decide +kernel)
set_option maxRecDepth 20000 in
theorem gX7_poorest_X7_ownOf : GoodIn wsX7_poorest (wsV RX7 334 RX7 yX7_ownOf wsX7_ownOf) := goodIn_app (goodIn_of _ (by decide +kernel)) ggX7_poorest_X7_ownOf
set_option maxRecDepth 20000 in
theorem ggX7_poorest_X7_size : GoodIn wsX7_poorest wsX7_size := goodIn_r _ [12] (by decide +kernel) (by decide +kernel)
set_option maxRecDepth 20000 in
theorem gX7_poorest_X7_size : GoodIn wsX7_poorest (va_wsS RX7 301 yX7_size wsX7_size) := goodIn_app (goodIn_of _ (by decide +kernel)) ggX7_poorest_X7_size
theorem dX7_poorest_0 : decode cX7_poorest 0 = .ok (.iconst (-1), 1) := by decide +kernel
theorem dX7_poorest_1 : decode cX7_poorest 1 = .ok (.istore_n 1, 1) := by decide +kernel
theorem dX7_poorest_2 : decode cX7_poorest 2 = .ok (.iconst 0, 1) := by decide +kernel
theorem dX7_poorest_3 : decode cX7_poorest 3 = .ok (.istore_n 2, 1) := by decide +kernel
theorem dX7_poorest_4 : decode cX7_poorest 4 = .ok (.iload_n 2, 1) := by decide +kernel
theorem dX7_poorest_5 : decode cX7_poorest 5 = .ok (.aload_n 0, 1) := by decide +kernel
theorem dX7_poorest_6 : decode cX7_poorest 6 = .ok (.getfield 319, 3) := by decide +kernel
theorem dX7_poorest_9 : decode cX7_poorest 9 = .ok (.if_icmp .ge 63, 3) := by decide +kernel
theorem dX7_poorest_12 : decode cX7_poorest 12 = .ok (.aload_n 0, 1) := by decide +kernel
theorem dX7_poorest_13 : decode cX7_poorest 13 = .ok (.iload_n 2, 1) := by decide +kernel
theorem dX7_poorest_14 : decode cX7_poorest 14 = .ok (.invokevirtual 334, 3) := by decide +kernel
theorem dX7_poorest_17 : decode cX7_poorest 17 = .ok (.invokestatic 301, 3) := by decide +kernel
theorem dX7_poorest_20 : decode cX7_poorest 20 = .ok (.istore_n 3, 1) := by decide +kernel
theorem dX7_poorest_21 : decode cX7_poorest 21 = .ok (.iload_n 3, 1) := by decide +kernel
theorem dX7_poorest_22 : decode cX7_poorest 22 = .ok (.aload_n 0, 1) := by decide +kernel
theorem dX7_poorest_23 : decode cX7_poorest 23 = .ok (.getfield 22, 3) := by decide +kernel
theorem dX7_poorest_26 : decode cX7_poorest 26 = .ok (.iconst 3, 1) := by decide +kernel
theorem dX7_poorest_27 : decode cX7_poorest 27 = .ok (.iaload, 1) := by decide +kernel
theorem dX7_poorest_28 : decode cX7_poorest 28 = .ok (.if_icmp .ge 24, 3) := by decide +kernel
theorem dX7_poorest_31 : decode cX7_poorest 31 = .ok (.iload_n 1, 1) := by decide +kernel
theorem dX7_poorest_32 : decode cX7_poorest 32 = .ok (.iconst (-1), 1) := by decide +kernel
theorem dX7_poorest_33 : decode cX7_poorest 33 = .ok (.if_icmp .eq 15, 3) := by decide +kernel
theorem dX7_poorest_36 : decode cX7_poorest 36 = .ok (.iload_n 3, 1) := by decide +kernel
theorem dX7_poorest_37 : decode cX7_poorest 37 = .ok (.aload_n 0, 1) := by decide +kernel
theorem dX7_poorest_38 : decode cX7_poorest 38 = .ok (.iload_n 1, 1) := by decide +kernel
theorem dX7_poorest_39 : decode cX7_poorest 39 = .ok (.invokevirtual 334, 3) := by decide +kernel
theorem dX7_poorest_42 : decode cX7_poorest 42 = .ok (.invokestatic 301, 3) := by decide +kernel
theorem dX7_poorest_45 : decode cX7_poorest 45 = .ok (.if_icmp .gt 7, 3) := by decide +kernel
theorem dX7_poorest_48 : decode cX7_poorest 48 = .ok (.iconst 1, 1) := by decide +kernel
theorem dX7_poorest_49 : decode cX7_poorest 49 = .ok (.goto 4, 3) := by decide +kernel
theorem dX7_poorest_52 : decode cX7_poorest 52 = .ok (.iconst 0, 1) := by decide +kernel
theorem dX7_poorest_53 : decode cX7_poorest 53 = .ok (.istore 4, 2) := by decide +kernel
theorem dX7_poorest_55 : decode cX7_poorest 55 = .ok (.iload 4, 2) := by decide +kernel
theorem dX7_poorest_57 : decode cX7_poorest 57 = .ok (.ifCond .eq 7, 3) := by decide +kernel
theorem dX7_poorest_60 : decode cX7_poorest 60 = .ok (.iload_n 2, 1) := by decide +kernel
theorem dX7_poorest_61 : decode cX7_poorest 61 = .ok (.goto 4, 3) := by decide +kernel
theorem dX7_poorest_64 : decode cX7_poorest 64 = .ok (.iload_n 1, 1) := by decide +kernel
theorem dX7_poorest_65 : decode cX7_poorest 65 = .ok (.istore_n 1, 1) := by decide +kernel
theorem dX7_poorest_66 : decode cX7_poorest 66 = .ok (.iinc 2 1, 3) := by decide +kernel
theorem dX7_poorest_69 : decode cX7_poorest 69 = .ok (.goto (-65), 3) := by decide +kernel
theorem dX7_poorest_72 : decode cX7_poorest 72 = .ok (.iload_n 1, 1) := by decide +kernel
theorem dX7_poorest_73 : decode cX7_poorest 73 = .ok (.ireturn, 1) := by decide +kernel
set_option maxRecDepth 20000 in
theorem ggX7_tellOff_X7_nearestRing : GoodIn wsX7_tellOff wsX7_nearestRing := goodIn_r _ [7, 8, 9, 10, 11, 12, 13, 14, 6, 15, 16, 17, 18, 19, 20, 21, 22, 23, 24, 25, 26, 27, 28, 29, 30, 31, 32, 33, 34, 35, 36, 37, 38, 39, 40, 41, 42, 43, 44, 45, 46, 47, 48, 49, 50, 51, 52, 53, 54, 55, 56, 57, 58, 59, 60, 61, 62, 63, 64, 65, 66, 67, 68, 69, 70, 71, 72, 73, 74, 75, 76, 77, 78, 79, 80, 81, 82, 83, 84, 85] (by decide +kernel) (by decide +kernel)
set_option maxRecDepth 20000 in
theorem gX7_tellOff_X7_nearestRing : GoodIn wsX7_tellOff (wsV RX7 337 RX7 yX7_nearestRing wsX7_nearestRing) := goodIn_app (goodIn_of _ (by decide +kernel)) ggX7_tellOff_X7_nearestRing
theorem dX7_tellOff_0 : decode cX7_tellOff 0 = .ok (.iconst 0, 1) := by decide +kernel
theorem dX7_tellOff_1 : decode cX7_tellOff 1 = .ok (.istore_n 1, 1) := by decide +kernel
theorem dX7_tellOff_2 : decode cX7_tellOff 2 = .ok (.iload_n 1, 1) := by decide +kernel
theorem dX7_tellOff_3 : decode cX7_tellOff 3 = .ok (.aload_n 0, 1) := by decide +kernel
theorem dX7_tellOff_4 : decode cX7_tellOff 4 = .ok (.getfield 121, 3) := by decide +kernel
theorem dX7_tellOff_7 : decode cX7_tellOff 7 = .ok (.if_icmp .ge 20, 3) := by decide +kernel
theorem dX7_tellOff_10 : decode cX7_tellOff 10 = .ok (.aload_n 0, 1) := by decide +kernel
theorem dX7_tellOff_11 : decode cX7_tellOff 11 = .ok (.getfield 34, 3) := by decide +kernel
theorem dX7_tellOff_14 : decode cX7_tellOff 14 = .ok (.iload_n 1, 1) := by decide +kernel
theorem dX7_tellOff_15 : decode cX7_tellOff 15 = .ok (.aload_n 0, 1) := by decide +kernel
theorem dX7_tellOff_16 : decode cX7_tellOff 16 = .ok (.iload_n 1, 1) := by decide +kernel
theorem dX7_tellOff_17 : decode cX7_tellOff 17 = .ok (.invokevirtual 337, 3) := by decide +kernel
theorem dX7_tellOff_20 : decode cX7_tellOff 20 = .ok (.iastore, 1) := by decide +kernel
theorem dX7_tellOff_21 : decode cX7_tellOff 21 = .ok (.iinc 1 1, 3) := by decide +kernel
theorem dX7_tellOff_24 : decode cX7_tellOff 24 = .ok (.goto (-22), 3) := by decide +kernel
theorem dX7_tellOff_27 : decode cX7_tellOff 27 = .ok (.return_, 1) := by decide +kernel
set_option maxRecDepth 20000 in
theorem ggX7_splitNow_X7_tellOff : GoodIn wsX7_splitNow wsX7_tellOff := goodIn_r _ [10, 11, 12, 13, 14, 15, 9, 16, 1, 2, 3, 4, 17, 18, 19, 20, 21, 22, 23, 24, 25, 26, 27, 28, 29, 30, 31, 32, 33, 34, 35, 36, 37, 38, 39, 40, 41, 42, 43, 44, 45, 46, 58, 59, 60, 61, 62, 63, 64, 65, 66, 67, 68, 69, 70, 71, 72, 73, 74, 75, 76, 77, 78, 79, 80, 81, 82, 83, 84, 85, 86, 87, 88, 89, 90, 91, 92, 93, 94, 95, 96, 97, 98, 99, 100, 101] (by decide +kernel) (by decide +kernel)
set_option maxRecDepth 20000 in
theorem gX7_splitNow_X7_tellOff : GoodIn wsX7_splitNow (wsV RX7 340 RX7 yX7_tellOff wsX7_tellOff) := goodIn_app (goodIn_of _ (by decide +kernel)) ggX7_splitNow_X7_tellOff
set_option maxRecDepth 20000 in
theorem ggX7_splitNow_X7_poorest : GoodIn wsX7_splitNow wsX7_poorest := goodIn_r _ [50, 1, 21, 51, 52, 53, 9, 54, 11, 12, 55, 56, 57, 58, 59, 60, 61, 62, 63, 64, 65, 66, 67, 68, 69, 70, 71, 72, 73, 74, 75, 76, 77, 78, 79, 80, 81, 82, 83, 84, 85, 86, 87, 88, 89, 90, 91, 92, 93, 94, 95, 96, 97, 98, 99, 100, 101] (by decide +kernel) (by decide +kernel)
set_option maxRecDepth 20000 in
theorem gX7_splitNow_X7_poorest : GoodIn wsX7_splitNow (wsV RX7 343 RX7 yX7_poorest wsX7_poorest) := goodIn_app (goodIn_of _ (by decide +kernel)) ggX7_splitNow_X7_poorest
theorem dX7_splitNow_0 : decode cX7_splitNow 0 = .ok (.aload_n 0, 1) := by decide +kernel
theorem dX7_splitNow_1 : decode cX7_splitNow 1 = .ok (.invokevirtual 340, 3) := by decide +kernel
theorem dX7_splitNow_4 : decode cX7_splitNow 4 = .ok (.aload_n 0, 1) := by decide +kernel
theorem dX7_splitNow_5 : decode cX7_splitNow 5 = .ok (.invokevirtual 343, 3) := by decide +kernel
theorem dX7_splitNow_8 : decode cX7_splitNow 8 = .ok (.istore_n 1, 1) := by decide +kernel
theorem dX7_splitNow_9 : decode cX7_splitNow 9 = .ok (.iload_n 1, 1) := by decide +kernel
theorem dX7_splitNow_10 : decode cX7_splitNow 10 = .ok (.iconst (-1), 1) := by decide +kernel
theorem dX7_splitNow_11 : decode cX7_splitNow 11 = .ok (.if_icmp .eq 93, 3) := by decide +kernel
theorem dX7_splitNow_14 : decode cX7_splitNow 14 = .ok (.aload_n 0, 1) := by decide +kernel
theorem dX7_splitNow_15 : decode cX7_splitNow 15 = .ok (.dup, 1) := by decide +kernel
theorem dX7_splitNow_16 : decode cX7_splitNow 16 = .ok (.getfield 319, 3) := by decide +kernel
theorem dX7_splitNow_19 : decode cX7_splitNow 19 = .ok (.iconst 1, 1) := by decide +kernel
theorem dX7_splitNow_20 : decode cX7_splitNow 20 = .ok (.isub, 1) := by decide +kernel
theorem dX7_splitNow_21 : decode cX7_splitNow 21 = .ok (.putfield 319, 3) := by decide +kernel
theorem dX7_splitNow_24 : decode cX7_splitNow 24 = .ok (.iload_n 1, 1) := by decide +kernel
theorem dX7_splitNow_25 : decode cX7_splitNow 25 = .ok (.istore_n 2, 1) := by decide +kernel
theorem dX7_splitNow_26 : decode cX7_splitNow 26 = .ok (.iload_n 2, 1) := by decide +kernel
theorem dX7_splitNow_27 : decode cX7_splitNow 27 = .ok (.aload_n 0, 1) := by decide +kernel
theorem dX7_splitNow_28 : decode cX7_splitNow 28 = .ok (.getfield 319, 3) := by decide +kernel
theorem dX7_splitNow_31 : decode cX7_splitNow 31 = .ok (.if_icmp .ge 51, 3) := by decide +kernel
theorem dX7_splitNow_34 : decode cX7_splitNow 34 = .ok (.aload_n 0, 1) := by decide +kernel
theorem dX7_splitNow_35 : decode cX7_splitNow 35 = .ok (.getfield 25, 3) := by decide +kernel
theorem dX7_splitNow_38 : decode cX7_splitNow 38 = .ok (.iload_n 2, 1) := by decide +kernel
theorem dX7_splitNow_39 : decode cX7_splitNow 39 = .ok (.aload_n 0, 1) := by decide +kernel
theorem dX7_splitNow_40 : decode cX7_splitNow 40 = .ok (.getfield 25, 3) := by decide +kernel
theorem dX7_splitNow_43 : decode cX7_splitNow 43 = .ok (.iload_n 2, 1) := by decide +kernel
theorem dX7_splitNow_44 : decode cX7_splitNow 44 = .ok (.iconst 1, 1) := by decide +kernel
theorem dX7_splitNow_45 : decode cX7_splitNow 45 = .ok (.iadd, 1) := by decide +kernel
theorem dX7_splitNow_46 : decode cX7_splitNow 46 = .ok (.iaload, 1) := by decide +kernel
theorem dX7_splitNow_47 : decode cX7_splitNow 47 = .ok (.iastore, 1) := by decide +kernel
theorem dX7_splitNow_48 : decode cX7_splitNow 48 = .ok (.aload_n 0, 1) := by decide +kernel
theorem dX7_splitNow_49 : decode cX7_splitNow 49 = .ok (.getfield 28, 3) := by decide +kernel
theorem dX7_splitNow_52 : decode cX7_splitNow 52 = .ok (.iload_n 2, 1) := by decide +kernel
theorem dX7_splitNow_53 : decode cX7_splitNow 53 = .ok (.aload_n 0, 1) := by decide +kernel
theorem dX7_splitNow_54 : decode cX7_splitNow 54 = .ok (.getfield 28, 3) := by decide +kernel
theorem dX7_splitNow_57 : decode cX7_splitNow 57 = .ok (.iload_n 2, 1) := by decide +kernel
theorem dX7_splitNow_58 : decode cX7_splitNow 58 = .ok (.iconst 1, 1) := by decide +kernel
theorem dX7_splitNow_59 : decode cX7_splitNow 59 = .ok (.iadd, 1) := by decide +kernel
theorem dX7_splitNow_60 : decode cX7_splitNow 60 = .ok (.iaload, 1) := by decide +kernel
theorem dX7_splitNow_61 : decode cX7_splitNow 61 = .ok (.iastore, 1) := by decide +kernel
theorem dX7_splitNow_62 : decode cX7_splitNow 62 = .ok (.aload_n 0, 1) := by decide +kernel
theorem dX7_splitNow_63 : decode cX7_splitNow 63 = .ok (.getfield 31, 3) := by decide +kernel
theorem dX7_splitNow_66 : decode cX7_splitNow 66 = .ok (.iload_n 2, 1) := by decide +kernel
theorem dX7_splitNow_67 : decode cX7_splitNow 67 = .ok (.aload_n 0, 1) := by decide +kernel
theorem dX7_splitNow_68 : decode cX7_splitNow 68 = .ok (.getfield 31, 3) := by decide +kernel
theorem dX7_splitNow_71 : decode cX7_splitNow 71 = .ok (.iload_n 2, 1) := by decide +kernel
theorem dX7_splitNow_72 : decode cX7_splitNow 72 = .ok (.iconst 1, 1) := by decide +kernel
theorem dX7_splitNow_73 : decode cX7_splitNow 73 = .ok (.iadd, 1) := by decide +kernel
theorem dX7_splitNow_74 : decode cX7_splitNow 74 = .ok (.iaload, 1) := by decide +kernel
theorem dX7_splitNow_75 : decode cX7_splitNow 75 = .ok (.iastore, 1) := by decide +kernel
theorem dX7_splitNow_76 : decode cX7_splitNow 76 = .ok (.iinc 2 1, 3) := by decide +kernel
theorem dX7_splitNow_79 : decode cX7_splitNow 79 = .ok (.goto (-53), 3) := by decide +kernel
theorem dX7_splitNow_82 : decode cX7_splitNow 82 = .ok (.aload_n 0, 1) := by decide +kernel
theorem dX7_splitNow_83 : decode cX7_splitNow 83 = .ok (.dup, 1) := by decide +kernel
theorem dX7_splitNow_84 : decode cX7_splitNow 84 = .ok (.getfield 346, 3) := by decide +kernel
theorem dX7_splitNow_87 : decode cX7_splitNow 87 = .ok (.iconst 1, 1) := by decide +kernel
theorem dX7_splitNow_88 : decode cX7_splitNow 88 = .ok (.iadd, 1) := by decide +kernel
theorem dX7_splitNow_89 : decode cX7_splitNow 89 = .ok (.putfield 346, 3) := by decide +kernel
theorem dX7_splitNow_92 : decode cX7_splitNow 92 = .ok (.aload_n 0, 1) := by decide +kernel
theorem dX7_splitNow_93 : decode cX7_splitNow 93 = .ok (.invokevirtual 340, 3) := by decide +kernel
theorem dX7_splitNow_96 : decode cX7_splitNow 96 = .ok (.aload_n 0, 1) := by decide +kernel
theorem dX7_splitNow_97 : decode cX7_splitNow 97 = .ok (.invokevirtual 343, 3) := by decide +kernel
theorem dX7_splitNow_100 : decode cX7_splitNow 100 = .ok (.istore_n 1, 1) := by decide +kernel
theorem dX7_splitNow_101 : decode cX7_splitNow 101 = .ok (.goto (-92), 3) := by decide +kernel
theorem dX7_splitNow_104 : decode cX7_splitNow 104 = .ok (.aload_n 0, 1) := by decide +kernel
theorem dX7_splitNow_105 : decode cX7_splitNow 105 = .ok (.getfield 319, 3) := by decide +kernel
theorem dX7_splitNow_108 : decode cX7_splitNow 108 = .ok (.ireturn, 1) := by decide +kernel
set_option maxRecDepth 20000 in
theorem ggX7_split_X7_splitNow : GoodIn wsX7_split wsX7_splitNow := goodIn_r _ [6, 7, 8, 9, 10, 11, 12, 13, 14, 5, 15, 16, 17, 18, 19, 20, 21, 22, 23, 24, 25, 26, 27, 28, 29, 30, 31, 32, 33, 34, 35, 36, 37, 38, 39, 40, 41, 42, 43, 44, 45, 46, 47, 48, 49, 50, 51, 52, 53, 54, 55, 56, 57, 58, 59, 60, 61, 62, 63, 64, 65, 66, 67, 68, 69, 70, 71, 72, 73, 74, 75, 76, 77, 78, 79, 80, 81, 82, 83, 84, 85, 86, 87, 88, 89, 90, 91, 92, 93, 94, 95, 96, 97, 98, 99, 100, 101, 102, 103, 104, 105, 106] (by decide +kernel) (by decide +kernel)
set_option maxRecDepth 20000 in
theorem gX7_split_X7_splitNow : GoodIn wsX7_split (wsV RX7 349 RX7 yX7_splitNow wsX7_splitNow) := goodIn_app (goodIn_of _ (by decide +kernel)) ggX7_split_X7_splitNow
theorem dX7_split_0 : decode cX7_split 0 = .ok (.aload_n 0, 1) := by decide +kernel
theorem dX7_split_1 : decode cX7_split 1 = .ok (.getfield 124, 3) := by decide +kernel
theorem dX7_split_4 : decode cX7_split 4 = .ok (.ifCond .eq 10, 3) := by decide +kernel
theorem dX7_split_7 : decode cX7_split 7 = .ok (.aload_n 0, 1) := by decide +kernel
theorem dX7_split_8 : decode cX7_split 8 = .ok (.invokevirtual 349, 3) := by decide +kernel
theorem dX7_split_11 : decode cX7_split 11 = .ok (.goto 5, 3) := by decide +kernel
theorem dX7_split_14 : decode cX7_split 14 = .ok (.bipush (-103), 2) := by decide +kernel
theorem dX7_split_16 : decode cX7_split 16 = .ok (.ireturn, 1) := by decide +kernel
set_option maxRecDepth 20000 in
theorem ggX7_isRing_X7_within : GoodIn wsX7_isRing wsX7_within := goodIn_r _ [6] (by decide +kernel) (by decide +kernel)
set_option maxRecDepth 20000 in
theorem gX7_isRing_X7_within : GoodIn wsX7_isRing (va_wsS RX7 58 yX7_within wsX7_within) := goodIn_app (goodIn_of _ (by decide +kernel)) ggX7_isRing_X7_within
theorem dX7_isRing_0 : decode cX7_isRing 0 = .ok (.aload_n 0, 1) := by decide +kernel
theorem dX7_isRing_1 : decode cX7_isRing 1 = .ok (.getfield 124, 3) := by decide +kernel
theorem dX7_isRing_4 : decode cX7_isRing 4 = .ok (.ifCond .eq 21, 3) := by decide +kernel
theorem dX7_isRing_7 : decode cX7_isRing 7 = .ok (.iload_n 1, 1) := by decide +kernel
theorem dX7_isRing_8 : decode cX7_isRing 8 = .ok (.iconst 0, 1) := by decide +kernel
theorem dX7_isRing_9 : decode cX7_isRing 9 = .ok (.aload_n 0, 1) := by decide +kernel
theorem dX7_isRing_10 : decode cX7_isRing 10 = .ok (.getfield 319, 3) := by decide +kernel
theorem dX7_isRing_13 : decode cX7_isRing 13 = .ok (.iconst 1, 1) := by decide +kernel
theorem dX7_isRing_14 : decode cX7_isRing 14 = .ok (.isub, 1) := by decide +kernel
theorem dX7_isRing_15 : decode cX7_isRing 15 = .ok (.invokestatic 58, 3) := by decide +kernel
theorem dX7_isRing_18 : decode cX7_isRing 18 = .ok (.ifCond .eq 7, 3) := by decide +kernel
theorem dX7_isRing_21 : decode cX7_isRing 21 = .ok (.iconst 1, 1) := by decide +kernel
theorem dX7_isRing_22 : decode cX7_isRing 22 = .ok (.goto 4, 3) := by decide +kernel
theorem dX7_isRing_25 : decode cX7_isRing 25 = .ok (.iconst 0, 1) := by decide +kernel
theorem dX7_isRing_26 : decode cX7_isRing 26 = .ok (.ireturn, 1) := by decide +kernel
set_option maxRecDepth 20000 in
theorem ggX7_kindOf_X7_ownOf : GoodIn wsX7_kindOf wsX7_ownOf := goodIn_r _ [7, 8, 9, 26, 27, 28, 29, 30, 31, 32, 33, 34, 35, 36, 37, 38, 39, 40, 41, 42, 43, 44, 45, 46, 47, 48, 49, 50, 51, 52, 53, 54, 55, 56, 57, 58, 59, 60, 61, 62, 63, 64, 65, 66, 67, 68, 69] (by decide +kernel) (by decide +kernel)
set_option maxRecDepth 20000 in
theorem gX7_kindOf_X7_ownOf : GoodIn wsX7_kindOf (wsV RX7 334 RX7 yX7_ownOf wsX7_ownOf) := goodIn_app (goodIn_of _ (by decide +kernel)) ggX7_kindOf_X7_ownOf
set_option maxRecDepth 20000 in
theorem ggX7_kindOf_X7_spanOf : GoodIn wsX7_kindOf wsX7_spanOf := goodIn_r _ [13, 8, 14, 15, 16, 6, 17, 18, 19, 20, 21, 22, 23, 24, 25, 26, 27, 28, 29, 30, 31, 32, 33, 34, 35, 36, 37, 38, 39, 40, 41, 42, 43, 44, 45, 46, 47, 48, 49, 50, 51, 52, 53, 54, 55, 56, 57, 58, 59, 60, 61, 62, 63, 64, 65, 66, 67, 68, 69] (by decide +kernel) (by decide +kernel)
set_option maxRecDepth 20000 in
theorem gX7_kindOf_X7_spanOf : GoodIn wsX7_kindOf (wsV RX7 307 RX7 yX7_spanOf wsX7_spanOf) := goodIn_app (goodIn_of _ (by decide +kernel)) ggX7_kindOf_X7_spanOf
theorem dX7_kindOf_0 : decode cX7_kindOf 0 = .ok (.aload_n 0, 1) := by decide +kernel
theorem dX7_kindOf_1 : decode cX7_kindOf 1 = .ok (.aload_n 0, 1) := by decide +kernel
theorem dX7_kindOf_2 : decode cX7_kindOf 2 = .ok (.getfield 25, 3) := by decide +kernel
theorem dX7_kindOf_5 : decode cX7_kindOf 5 = .ok (.iload_n 1, 1) := by decide +kernel
theorem dX7_kindOf_6 : decode cX7_kindOf 6 = .ok (.iaload, 1) := by decide +kernel
theorem dX7_kindOf_7 : decode cX7_kindOf 7 = .ok (.aload_n 0, 1) := by decide +kernel
theorem dX7_kindOf_8 : decode cX7_kindOf 8 = .ok (.getfield 28, 3) := by decide +kernel
theorem dX7_kindOf_11 : decode cX7_kindOf 11 = .ok (.iload_n 1, 1) := by decide +kernel
theorem dX7_kindOf_12 : decode cX7_kindOf 12 = .ok (.iaload, 1) := by decide +kernel
theorem dX7_kindOf_13 : decode cX7_kindOf 13 = .ok (.aload_n 0, 1) := by decide +kernel
theorem dX7_kindOf_14 : decode cX7_kindOf 14 = .ok (.iload_n 1, 1) := by decide +kernel
theorem dX7_kindOf_15 : decode cX7_kindOf 15 = .ok (.invokevirtual 334, 3) := by decide +kernel
theorem dX7_kindOf_18 : decode cX7_kindOf 18 = .ok (.invokevirtual 307, 3) := by decide +kernel
theorem dX7_kindOf_21 : decode cX7_kindOf 21 = .ok (.bipush 8, 2) := by decide +kernel
theorem dX7_kindOf_23 : decode cX7_kindOf 23 = .ok (.if_icmp .ne 7, 3) := by decide +kernel
theorem dX7_kindOf_26 : decode cX7_kindOf 26 = .ok (.iconst 0, 1) := by decide +kernel
theorem dX7_kindOf_27 : decode cX7_kindOf 27 = .ok (.goto 4, 3) := by decide +kernel
theorem dX7_kindOf_30 : decode cX7_kindOf 30 = .ok (.iconst 1, 1) := by decide +kernel
theorem dX7_kindOf_31 : decode cX7_kindOf 31 = .ok (.ireturn, 1) := by decide +kernel
set_option maxRecDepth 20000 in
theorem ggX7_ringNow_X7_ownOf : GoodIn wsX7_ringNow wsX7_ownOf := goodIn_r _ [8, 9, 10, 31, 32, 33, 34, 35, 36, 37, 38, 39, 40, 41, 42, 43, 44, 45, 46, 47, 48, 49, 50, 51, 52, 53, 54, 55, 56, 57, 58, 59, 60, 61, 62, 63, 64, 65, 66, 67, 68, 69, 70, 71, 72, 73, 74] (by decide +kernel) (by decide +kernel)
set_option maxRecDepth 20000 in
theorem gX7_ringNow_X7_ownOf : GoodIn wsX7_ringNow (wsV RX7 334 RX7 yX7_ownOf wsX7_ownOf) := goodIn_app (goodIn_of _ (by decide +kernel)) ggX7_ringNow_X7_ownOf
set_option maxRecDepth 20000 in
theorem ggX7_ringNow_X7_size : GoodIn wsX7_ringNow wsX7_size := goodIn_r _ [13] (by decide +kernel) (by decide +kernel)
set_option maxRecDepth 20000 in
theorem gX7_ringNow_X7_size : GoodIn wsX7_ringNow (va_wsS RX7 301 yX7_size wsX7_size) := goodIn_app (goodIn_of _ (by decide +kernel)) ggX7_ringNow_X7_size
set_option maxRecDepth 20000 in
theorem ggX7_ringNow_X7_spanOf : GoodIn wsX7_ringNow wsX7_spanOf := goodIn_r _ [17, 9, 18, 19, 20, 7, 21, 22, 23, 24, 25, 26, 11, 12, 13, 31, 32, 33, 34, 35, 36, 37, 38, 39, 40, 41, 42, 43, 44, 45, 46, 47, 48, 49, 50, 51, 52, 53, 54, 55, 56, 57, 58, 59, 60, 61, 62, 63, 64, 65, 66, 67, 68, 69, 70, 71, 72, 73, 74] (by decide +kernel) (by decide +kernel)
set_option maxRecDepth 20000 in
theorem gX7_ringNow_X7_spanOf : GoodIn wsX7_ringNow (wsV RX7 307 RX7 yX7_spanOf wsX7_spanOf) := goodIn_app (goodIn_of _ (by decide +kernel)) ggX7_ringNow_X7_spanOf
set_option maxRecDepth 20000 in
theorem ggX7_ringNow_X7_kindOf : GoodIn wsX7_ringNow wsX7_kindOf := goodIn_r _ [30, 1, 2, 4, 5, 6, 7, 8, 9, 10, 14, 15, 16, 17, 18, 19, 20, 21, 22, 23, 24, 25, 26, 11, 12, 13, 31, 32, 33, 34, 35, 36, 37, 38, 39, 40, 41, 42, 43, 44, 45, 46, 47, 48, 49, 50, 51, 52, 53, 54, 55, 56, 57, 58, 59, 60, 61, 62, 63, 64, 65, 66, 67, 68, 69, 70, 71, 72, 73, 74] (by decide +kernel) (by decide +kernel)
set_option maxRecDepth 20000 in
theorem gX7_ringNow_X7_kindOf : GoodIn wsX7_ringNow (wsV RX7 352 RX7 yX7_kindOf wsX7_kindOf) := goodIn_app (goodIn_of _ (by decide +kernel)) ggX7_ringNow_X7_kindOf
theorem dX7_ringNow_0 : decode cX7_ringNow 0 = .ok (.iload_n 2, 1) := by decide +kernel
theorem dX7_ringNow_1 : decode cX7_ringNow 1 = .ok (.tableswitch 97 0 5 #[39, 46, 53, 60, 69, 75], 39) := by decide +kernel
theorem dX7_ringNow_40 : decode cX7_ringNow 40 = .ok (.aload_n 0, 1) := by decide +kernel
theorem dX7_ringNow_41 : decode cX7_ringNow 41 = .ok (.getfield 25, 3) := by decide +kernel
theorem dX7_ringNow_44 : decode cX7_ringNow 44 = .ok (.iload_n 1, 1) := by decide +kernel
theorem dX7_ringNow_45 : decode cX7_ringNow 45 = .ok (.iaload, 1) := by decide +kernel
theorem dX7_ringNow_46 : decode cX7_ringNow 46 = .ok (.ireturn, 1) := by decide +kernel
theorem dX7_ringNow_47 : decode cX7_ringNow 47 = .ok (.aload_n 0, 1) := by decide +kernel
theorem dX7_ringNow_48 : decode cX7_ringNow 48 = .ok (.getfield 28, 3) := by decide +kernel
theorem dX7_ringNow_51 : decode cX7_ringNow 51 = .ok (.iload_n 1, 1) := by decide +kernel
theorem dX7_ringNow_52 : decode cX7_ringNow 52 = .ok (.iaload, 1) := by decide +kernel
theorem dX7_ringNow_53 : decode cX7_ringNow 53 = .ok (.ireturn, 1) := by decide +kernel
theorem dX7_ringNow_54 : decode cX7_ringNow 54 = .ok (.aload_n 0, 1) := by decide +kernel
theorem dX7_ringNow_55 : decode cX7_ringNow 55 = .ok (.getfield 31, 3) := by decide +kernel
theorem dX7_ringNow_58 : decode cX7_ringNow 58 = .ok (.iload_n 1, 1) := by decide +kernel
theorem dX7_ringNow_59 : decode cX7_ringNow 59 = .ok (.iaload, 1) := by decide +kernel
theorem dX7_ringNow_60 : decode cX7_ringNow 60 = .ok (.ireturn, 1) := by decide +kernel
theorem dX7_ringNow_61 : decode cX7_ringNow 61 = .ok (.aload_n 0, 1) := by decide +kernel
theorem dX7_ringNow_62 : decode cX7_ringNow 62 = .ok (.iload_n 1, 1) := by decide +kernel
theorem dX7_ringNow_63 : decode cX7_ringNow 63 = .ok (.invokevirtual 334, 3) := by decide +kernel
theorem dX7_ringNow_66 : decode cX7_ringNow 66 = .ok (.invokestatic 301, 3) := by decide +kernel
theorem dX7_ringNow_69 : decode cX7_ringNow 69 = .ok (.ireturn, 1) := by decide +kernel
theorem dX7_ringNow_70 : decode cX7_ringNow 70 = .ok (.aload_n 0, 1) := by decide +kernel
theorem dX7_ringNow_71 : decode cX7_ringNow 71 = .ok (.iload_n 1, 1) := by decide +kernel
theorem dX7_ringNow_72 : decode cX7_ringNow 72 = .ok (.invokevirtual 334, 3) := by decide +kernel
theorem dX7_ringNow_75 : decode cX7_ringNow 75 = .ok (.ireturn, 1) := by decide +kernel
theorem dX7_ringNow_76 : decode cX7_ringNow 76 = .ok (.aload_n 0, 1) := by decide +kernel
theorem dX7_ringNow_77 : decode cX7_ringNow 77 = .ok (.aload_n 0, 1) := by decide +kernel
theorem dX7_ringNow_78 : decode cX7_ringNow 78 = .ok (.getfield 25, 3) := by decide +kernel
theorem dX7_ringNow_81 : decode cX7_ringNow 81 = .ok (.iload_n 1, 1) := by decide +kernel
theorem dX7_ringNow_82 : decode cX7_ringNow 82 = .ok (.iaload, 1) := by decide +kernel
theorem dX7_ringNow_83 : decode cX7_ringNow 83 = .ok (.aload_n 0, 1) := by decide +kernel
theorem dX7_ringNow_84 : decode cX7_ringNow 84 = .ok (.getfield 28, 3) := by decide +kernel
theorem dX7_ringNow_87 : decode cX7_ringNow 87 = .ok (.iload_n 1, 1) := by decide +kernel
theorem dX7_ringNow_88 : decode cX7_ringNow 88 = .ok (.iaload, 1) := by decide +kernel
theorem dX7_ringNow_89 : decode cX7_ringNow 89 = .ok (.aload_n 0, 1) := by decide +kernel
theorem dX7_ringNow_90 : decode cX7_ringNow 90 = .ok (.iload_n 1, 1) := by decide +kernel
theorem dX7_ringNow_91 : decode cX7_ringNow 91 = .ok (.invokevirtual 334, 3) := by decide +kernel
theorem dX7_ringNow_94 : decode cX7_ringNow 94 = .ok (.invokevirtual 307, 3) := by decide +kernel
theorem dX7_ringNow_97 : decode cX7_ringNow 97 = .ok (.ireturn, 1) := by decide +kernel
theorem dX7_ringNow_98 : decode cX7_ringNow 98 = .ok (.aload_n 0, 1) := by decide +kernel
theorem dX7_ringNow_99 : decode cX7_ringNow 99 = .ok (.iload_n 1, 1) := by decide +kernel
theorem dX7_ringNow_100 : decode cX7_ringNow 100 = .ok (.invokevirtual 352, 3) := by decide +kernel
theorem dX7_ringNow_103 : decode cX7_ringNow 103 = .ok (.ireturn, 1) := by decide +kernel
set_option maxRecDepth 20000 in
theorem ggX7_ring_X7_isRing : GoodIn wsX7_ring wsX7_isRing := goodIn_r _ [5, 6, 7, 8, 9, 4, 10, 44, 45, 46, 47, 48, 49, 50, 51, 52, 53, 54, 55, 56, 57, 58, 59, 60, 61, 62, 63, 64, 65, 66, 67, 68, 69, 70, 71, 72, 73, 74, 75, 76, 77, 78, 79, 80, 81, 82, 83, 84, 85, 86, 87] (by decide +kernel) (by decide +kernel)
set_option maxRecDepth 20000 in
theorem gX7_ring_X7_isRing : GoodIn wsX7_ring (wsV RX7 355 RX7 yX7_isRing wsX7_isRing) := goodIn_app (goodIn_of _ (by decide +kernel)) ggX7_ring_X7_isRing
set_option maxRecDepth 20000 in
theorem ggX7_ring_X7_within : GoodIn wsX7_ring wsX7_within := goodIn_r _ [10] (by decide +kernel) (by decide +kernel)
set_option maxRecDepth 20000 in
theorem gX7_ring_X7_within : GoodIn wsX7_ring (va_wsS RX7 58 yX7_within wsX7_within) := goodIn_app (goodIn_of _ (by decide +kernel)) ggX7_ring_X7_within
set_option maxRecDepth 20000 in
theorem ggX7_ring_X7_ringNow : GoodIn wsX7_ring wsX7_ringNow := goodIn_r _ [14, 15, 16, 17, 18, 19, 20, 4, 21, 22, 23, 24, 25, 26, 27, 28, 29, 30, 31, 32, 33, 34, 35, 36, 37, 38, 39, 40, 41, 42, 43, 44, 45, 46, 47, 48, 49, 50, 51, 52, 53, 54, 55, 56, 57, 58, 59, 60, 61, 62, 63, 64, 65, 66, 67, 68, 69, 70, 71, 72, 73, 74, 75, 76, 77, 78, 79, 80, 81, 82, 83, 84, 85, 86, 87] (by decide +kernel) (by decide +kernel)
set_option maxRecDepth 20000 in
theorem gX7_ring_X7_ringNow : GoodIn wsX7_ring (wsV RX7 358 RX7 yX7_ringNow wsX7_ringNow) := goodIn_app (goodIn_of _ (by decide +kernel)) ggX7_ring_X7_ringNow
theorem dX7_ring_0 : decode cX7_ring 0 = .ok (.aload_n 0, 1) := by decide +kernel
theorem dX7_ring_1 : decode cX7_ring 1 = .ok (.iload_n 1, 1) := by decide +kernel
theorem dX7_ring_2 : decode cX7_ring 2 = .ok (.invokevirtual 355, 3) := by decide +kernel
theorem dX7_ring_5 : decode cX7_ring 5 = .ok (.ifCond .ne 8, 3) := by decide +kernel
theorem dX7_ring_8 : decode cX7_ring 8 = .ok (.bipush (-101), 2) := by decide +kernel
theorem dX7_ring_10 : decode cX7_ring 10 = .ok (.goto 24, 3) := by decide +kernel
theorem dX7_ring_13 : decode cX7_ring 13 = .ok (.iload_n 2, 1) := by decide +kernel
theorem dX7_ring_14 : decode cX7_ring 14 = .ok (.iconst 0, 1) := by decide +kernel
theorem dX7_ring_15 : decode cX7_ring 15 = .ok (.bipush 6, 2) := by decide +kernel
theorem dX7_ring_17 : decode cX7_ring 17 = .ok (.invokestatic 58, 3) := by decide +kernel
theorem dX7_ring_20 : decode cX7_ring 20 = .ok (.ifCond .eq 12, 3) := by decide +kernel
theorem dX7_ring_23 : decode cX7_ring 23 = .ok (.aload_n 0, 1) := by decide +kernel
theorem dX7_ring_24 : decode cX7_ring 24 = .ok (.iload_n 1, 1) := by decide +kernel
theorem dX7_ring_25 : decode cX7_ring 25 = .ok (.iload_n 2, 1) := by decide +kernel
theorem dX7_ring_26 : decode cX7_ring 26 = .ok (.invokevirtual 358, 3) := by decide +kernel
theorem dX7_ring_29 : decode cX7_ring 29 = .ok (.goto 5, 3) := by decide +kernel
theorem dX7_ring_32 : decode cX7_ring 32 = .ok (.bipush (-102), 2) := by decide +kernel
theorem dX7_ring_34 : decode cX7_ring 34 = .ok (.ireturn, 1) := by decide +kernel
set_option maxRecDepth 20000 in
theorem ggX7_as_X7_isRing : GoodIn wsX7_as wsX7_isRing := goodIn_r _ [5, 6, 7, 8, 9, 4, 10, 39, 40, 41, 42, 43, 44, 45, 46, 47, 48, 49, 50, 51, 52, 53, 54, 55, 56, 57, 58, 59, 60, 61, 62, 63, 64, 65, 66, 67, 68, 69, 70, 71, 72, 73, 74, 75, 76, 77, 78, 79, 80, 81, 82] (by decide +kernel) (by decide +kernel)
set_option maxRecDepth 20000 in
theorem gX7_as_X7_isRing : GoodIn wsX7_as (wsV RX7 355 RX7 yX7_isRing wsX7_isRing) := goodIn_app (goodIn_of _ (by decide +kernel)) ggX7_as_X7_isRing
set_option maxRecDepth 20000 in
theorem ggX7_as_X7_within : GoodIn wsX7_as wsX7_within := goodIn_r _ [10] (by decide +kernel) (by decide +kernel)
set_option maxRecDepth 20000 in
theorem gX7_as_X7_within : GoodIn wsX7_as (va_wsS RX7 58 yX7_within wsX7_within) := goodIn_app (goodIn_of _ (by decide +kernel)) ggX7_as_X7_within
set_option maxRecDepth 20000 in
theorem ggX7_as_X7_kindOf : GoodIn wsX7_as wsX7_kindOf := goodIn_r _ [14, 15, 16, 17, 18, 19, 4, 20, 21, 22, 23, 24, 25, 26, 27, 28, 29, 30, 31, 32, 33, 34, 35, 36, 37, 38, 39, 40, 41, 42, 43, 44, 45, 46, 47, 48, 49, 50, 51, 52, 53, 54, 55, 56, 57, 58, 59, 60, 61, 62, 63, 64, 65, 66, 67, 68, 69, 70, 71, 72, 73, 74, 75, 76, 77, 78, 79, 80, 81, 82] (by decide +kernel) (by decide +kernel)
set_option maxRecDepth 20000 in
theorem gX7_as_X7_kindOf : GoodIn wsX7_as (wsV RX7 352 RX7 yX7_kindOf wsX7_kindOf) := goodIn_app (goodIn_of _ (by decide +kernel)) ggX7_as_X7_kindOf
theorem dX7_as_0 : decode cX7_as 0 = .ok (.aload_n 0, 1) := by decide +kernel
theorem dX7_as_1 : decode cX7_as 1 = .ok (.iload_n 1, 1) := by decide +kernel
theorem dX7_as_2 : decode cX7_as 2 = .ok (.invokevirtual 355, 3) := by decide +kernel
theorem dX7_as_5 : decode cX7_as 5 = .ok (.ifCond .ne 6, 3) := by decide +kernel
theorem dX7_as_8 : decode cX7_as 8 = .ok (.bipush (-101), 2) := by decide +kernel
theorem dX7_as_10 : decode cX7_as 10 = .ok (.ireturn, 1) := by decide +kernel
theorem dX7_as_11 : decode cX7_as 11 = .ok (.iload_n 2, 1) := by decide +kernel
theorem dX7_as_12 : decode cX7_as 12 = .ok (.iconst 0, 1) := by decide +kernel
theorem dX7_as_13 : decode cX7_as 13 = .ok (.iconst 1, 1) := by decide +kernel
theorem dX7_as_14 : decode cX7_as 14 = .ok (.invokestatic 58, 3) := by decide +kernel
theorem dX7_as_17 : decode cX7_as 17 = .ok (.ifCond .ne 6, 3) := by decide +kernel
theorem dX7_as_20 : decode cX7_as 20 = .ok (.bipush (-102), 2) := by decide +kernel
theorem dX7_as_22 : decode cX7_as 22 = .ok (.ireturn, 1) := by decide +kernel
theorem dX7_as_23 : decode cX7_as 23 = .ok (.aload_n 0, 1) := by decide +kernel
theorem dX7_as_24 : decode cX7_as 24 = .ok (.iload_n 1, 1) := by decide +kernel
theorem dX7_as_25 : decode cX7_as 25 = .ok (.invokevirtual 352, 3) := by decide +kernel
theorem dX7_as_28 : decode cX7_as 28 = .ok (.iload_n 2, 1) := by decide +kernel
theorem dX7_as_29 : decode cX7_as 29 = .ok (.if_icmp .ne 7, 3) := by decide +kernel
theorem dX7_as_32 : decode cX7_as 32 = .ok (.iload_n 1, 1) := by decide +kernel
theorem dX7_as_33 : decode cX7_as 33 = .ok (.goto 4, 3) := by decide +kernel
theorem dX7_as_36 : decode cX7_as 36 = .ok (.iconst (-1), 1) := by decide +kernel
theorem dX7_as_37 : decode cX7_as 37 = .ok (.ireturn, 1) := by decide +kernel
set_option maxRecDepth 20000 in
theorem ggX7_cross_X7_isRing : GoodIn wsX7_cross wsX7_isRing := goodIn_r _ [8, 9, 10, 11, 12, 7, 13, 14, 15, 16, 17, 18, 19, 20, 21, 22, 23, 24, 25, 26, 27, 28, 29, 30, 31, 32, 33, 34, 35, 36, 37, 38, 39, 40, 41, 42, 43, 44, 45, 46, 47, 48, 49, 50, 51, 52, 53, 54, 55, 56, 57] (by decide +kernel) (by decide +kernel)
set_option maxRecDepth 20000 in
theorem gX7_cross_X7_isRing : GoodIn wsX7_cross (wsV RX7 355 RX7 yX7_isRing wsX7_isRing) := goodIn_app (goodIn_of _ (by decide +kernel)) ggX7_cross_X7_isRing
theorem dX7_cross_0 : decode cX7_cross 0 = .ok (.aload_n 0, 1) := by decide +kernel
theorem dX7_cross_1 : decode cX7_cross 1 = .ok (.iload_n 1, 1) := by decide +kernel
theorem dX7_cross_2 : decode cX7_cross 2 = .ok (.invokevirtual 355, 3) := by decide +kernel
theorem dX7_cross_5 : decode cX7_cross 5 = .ok (.ifCond .eq 16, 3) := by decide +kernel
theorem dX7_cross_8 : decode cX7_cross 8 = .ok (.aload_n 0, 1) := by decide +kernel
theorem dX7_cross_9 : decode cX7_cross 9 = .ok (.iload_n 2, 1) := by decide +kernel
theorem dX7_cross_10 : decode cX7_cross 10 = .ok (.invokevirtual 355, 3) := by decide +kernel
theorem dX7_cross_13 : decode cX7_cross 13 = .ok (.ifCond .eq 8, 3) := by decide +kernel
theorem dX7_cross_16 : decode cX7_cross 16 = .ok (.iload_n 1, 1) := by decide +kernel
theorem dX7_cross_17 : decode cX7_cross 17 = .ok (.iload_n 2, 1) := by decide +kernel
theorem dX7_cross_18 : decode cX7_cross 18 = .ok (.if_icmp .ne 6, 3) := by decide +kernel
theorem dX7_cross_21 : decode cX7_cross 21 = .ok (.bipush (-101), 2) := by decide +kernel
theorem dX7_cross_23 : decode cX7_cross 23 = .ok (.ireturn, 1) := by decide +kernel
theorem dX7_cross_24 : decode cX7_cross 24 = .ok (.iconst 2, 1) := by decide +kernel
theorem dX7_cross_25 : decode cX7_cross 25 = .ok (.aload_n 0, 1) := by decide +kernel
theorem dX7_cross_26 : decode cX7_cross 26 = .ok (.getfield 25, 3) := by decide +kernel
theorem dX7_cross_29 : decode cX7_cross 29 = .ok (.iload_n 1, 1) := by decide +kernel
theorem dX7_cross_30 : decode cX7_cross 30 = .ok (.iaload, 1) := by decide +kernel
theorem dX7_cross_31 : decode cX7_cross 31 = .ok (.aload_n 0, 1) := by decide +kernel
theorem dX7_cross_32 : decode cX7_cross 32 = .ok (.getfield 25, 3) := by decide +kernel
theorem dX7_cross_35 : decode cX7_cross 35 = .ok (.iload_n 2, 1) := by decide +kernel
theorem dX7_cross_36 : decode cX7_cross 36 = .ok (.iaload, 1) := by decide +kernel
theorem dX7_cross_37 : decode cX7_cross 37 = .ok (.isub, 1) := by decide +kernel
theorem dX7_cross_38 : decode cX7_cross 38 = .ok (.imul, 1) := by decide +kernel
theorem dX7_cross_39 : decode cX7_cross 39 = .ok (.istore_n 3, 1) := by decide +kernel
theorem dX7_cross_40 : decode cX7_cross 40 = .ok (.iconst 2, 1) := by decide +kernel
theorem dX7_cross_41 : decode cX7_cross 41 = .ok (.aload_n 0, 1) := by decide +kernel
theorem dX7_cross_42 : decode cX7_cross 42 = .ok (.getfield 28, 3) := by decide +kernel
theorem dX7_cross_45 : decode cX7_cross 45 = .ok (.iload_n 1, 1) := by decide +kernel
theorem dX7_cross_46 : decode cX7_cross 46 = .ok (.iaload, 1) := by decide +kernel
theorem dX7_cross_47 : decode cX7_cross 47 = .ok (.aload_n 0, 1) := by decide +kernel
theorem dX7_cross_48 : decode cX7_cross 48 = .ok (.getfield 28, 3) := by decide +kernel
theorem dX7_cross_51 : decode cX7_cross 51 = .ok (.iload_n 2, 1) := by decide +kernel
theorem dX7_cross_52 : decode cX7_cross 52 = .ok (.iaload, 1) := by decide +kernel
theorem dX7_cross_53 : decode cX7_cross 53 = .ok (.isub, 1) := by decide +kernel
theorem dX7_cross_54 : decode cX7_cross 54 = .ok (.imul, 1) := by decide +kernel
theorem dX7_cross_55 : decode cX7_cross 55 = .ok (.istore 4, 2) := by decide +kernel
theorem dX7_cross_57 : decode cX7_cross 57 = .ok (.iconst 2, 1) := by decide +kernel
theorem dX7_cross_58 : decode cX7_cross 58 = .ok (.aload_n 0, 1) := by decide +kernel
theorem dX7_cross_59 : decode cX7_cross 59 = .ok (.getfield 31, 3) := by decide +kernel
theorem dX7_cross_62 : decode cX7_cross 62 = .ok (.iload_n 1, 1) := by decide +kernel
theorem dX7_cross_63 : decode cX7_cross 63 = .ok (.iaload, 1) := by decide +kernel
theorem dX7_cross_64 : decode cX7_cross 64 = .ok (.imul, 1) := by decide +kernel
theorem dX7_cross_65 : decode cX7_cross 65 = .ok (.iconst 2, 1) := by decide +kernel
theorem dX7_cross_66 : decode cX7_cross 66 = .ok (.aload_n 0, 1) := by decide +kernel
theorem dX7_cross_67 : decode cX7_cross 67 = .ok (.getfield 31, 3) := by decide +kernel
theorem dX7_cross_70 : decode cX7_cross 70 = .ok (.iload_n 2, 1) := by decide +kernel
theorem dX7_cross_71 : decode cX7_cross 71 = .ok (.iaload, 1) := by decide +kernel
theorem dX7_cross_72 : decode cX7_cross 72 = .ok (.imul, 1) := by decide +kernel
theorem dX7_cross_73 : decode cX7_cross 73 = .ok (.iadd, 1) := by decide +kernel
theorem dX7_cross_74 : decode cX7_cross 74 = .ok (.iconst 2, 1) := by decide +kernel
theorem dX7_cross_75 : decode cX7_cross 75 = .ok (.iadd, 1) := by decide +kernel
theorem dX7_cross_76 : decode cX7_cross 76 = .ok (.istore 5, 2) := by decide +kernel
theorem dX7_cross_78 : decode cX7_cross 78 = .ok (.iconst 2, 1) := by decide +kernel
theorem dX7_cross_79 : decode cX7_cross 79 = .ok (.aload_n 0, 1) := by decide +kernel
theorem dX7_cross_80 : decode cX7_cross 80 = .ok (.getfield 31, 3) := by decide +kernel
theorem dX7_cross_83 : decode cX7_cross 83 = .ok (.iload_n 1, 1) := by decide +kernel
theorem dX7_cross_84 : decode cX7_cross 84 = .ok (.iaload, 1) := by decide +kernel
theorem dX7_cross_85 : decode cX7_cross 85 = .ok (.aload_n 0, 1) := by decide +kernel
theorem dX7_cross_86 : decode cX7_cross 86 = .ok (.getfield 31, 3) := by decide +kernel
theorem dX7_cross_89 : decode cX7_cross 89 = .ok (.iload_n 2, 1) := by decide +kernel
theorem dX7_cross_90 : decode cX7_cross 90 = .ok (.iaload, 1) := by decide +kernel
theorem dX7_cross_91 : decode cX7_cross 91 = .ok (.isub, 1) := by decide +kernel
theorem dX7_cross_92 : decode cX7_cross 92 = .ok (.imul, 1) := by decide +kernel
theorem dX7_cross_93 : decode cX7_cross 93 = .ok (.istore 6, 2) := by decide +kernel
theorem dX7_cross_95 : decode cX7_cross 95 = .ok (.iload_n 3, 1) := by decide +kernel
theorem dX7_cross_96 : decode cX7_cross 96 = .ok (.iload_n 3, 1) := by decide +kernel
theorem dX7_cross_97 : decode cX7_cross 97 = .ok (.imul, 1) := by decide +kernel
theorem dX7_cross_98 : decode cX7_cross 98 = .ok (.iload 4, 2) := by decide +kernel
theorem dX7_cross_100 : decode cX7_cross 100 = .ok (.iload 4, 2) := by decide +kernel
theorem dX7_cross_102 : decode cX7_cross 102 = .ok (.imul, 1) := by decide +kernel
theorem dX7_cross_103 : decode cX7_cross 103 = .ok (.iadd, 1) := by decide +kernel
theorem dX7_cross_104 : decode cX7_cross 104 = .ok (.istore 7, 2) := by decide +kernel
theorem dX7_cross_106 : decode cX7_cross 106 = .ok (.iload 7, 2) := by decide +kernel
theorem dX7_cross_108 : decode cX7_cross 108 = .ok (.iload 5, 2) := by decide +kernel
theorem dX7_cross_110 : decode cX7_cross 110 = .ok (.iload 5, 2) := by decide +kernel
theorem dX7_cross_112 : decode cX7_cross 112 = .ok (.imul, 1) := by decide +kernel
theorem dX7_cross_113 : decode cX7_cross 113 = .ok (.if_icmp .gt 17, 3) := by decide +kernel
theorem dX7_cross_116 : decode cX7_cross 116 = .ok (.iload 7, 2) := by decide +kernel
theorem dX7_cross_118 : decode cX7_cross 118 = .ok (.iload 6, 2) := by decide +kernel
theorem dX7_cross_120 : decode cX7_cross 120 = .ok (.iload 6, 2) := by decide +kernel
theorem dX7_cross_122 : decode cX7_cross 122 = .ok (.imul, 1) := by decide +kernel
theorem dX7_cross_123 : decode cX7_cross 123 = .ok (.if_icmp .lt 7, 3) := by decide +kernel
theorem dX7_cross_126 : decode cX7_cross 126 = .ok (.iconst 1, 1) := by decide +kernel
theorem dX7_cross_127 : decode cX7_cross 127 = .ok (.goto 4, 3) := by decide +kernel
theorem dX7_cross_130 : decode cX7_cross 130 = .ok (.iconst 0, 1) := by decide +kernel
theorem dX7_cross_131 : decode cX7_cross 131 = .ok (.ireturn, 1) := by decide +kernel
set_option maxRecDepth 20000 in
theorem ggX7_ofRings_X7_ringOf : GoodIn wsX7_ofRings wsX7_ringOf := goodIn_r _ [6, 7, 8, 9, 10, 11, 12, 13, 14, 15, 16, 17, 18, 19, 20, 21, 22, 23, 24, 25, 26, 27, 28, 29, 30, 31, 32, 33, 34, 35, 36, 37, 38, 39, 40, 41, 42, 43, 44, 45, 46, 47, 48, 49, 50, 51, 52] (by decide +kernel) (by decide +kernel)
set_option maxRecDepth 20000 in
theorem gX7_ofRings_X7_ringOf : GoodIn wsX7_ofRings (wsV RX7 198 RX7 yX7_ringOf wsX7_ringOf) := goodIn_app (goodIn_of _ (by decide +kernel)) ggX7_ofRings_X7_ringOf
theorem dX7_ofRings_0 : decode cX7_ofRings 0 = .ok (.iconst 0, 1) := by decide +kernel
theorem dX7_ofRings_1 : decode cX7_ofRings 1 = .ok (.istore_n 1, 1) := by decide +kernel
theorem dX7_ofRings_2 : decode cX7_ofRings 2 = .ok (.iconst 0, 1) := by decide +kernel
theorem dX7_ofRings_3 : decode cX7_ofRings 3 = .ok (.istore_n 2, 1) := by decide +kernel
theorem dX7_ofRings_4 : decode cX7_ofRings 4 = .ok (.iload_n 2, 1) := by decide +kernel
theorem dX7_ofRings_5 : decode cX7_ofRings 5 = .ok (.aload_n 0, 1) := by decide +kernel
theorem dX7_ofRings_6 : decode cX7_ofRings 6 = .ok (.getfield 121, 3) := by decide +kernel
theorem dX7_ofRings_9 : decode cX7_ofRings 9 = .ok (.if_icmp .ge 26, 3) := by decide +kernel
theorem dX7_ofRings_12 : decode cX7_ofRings 12 = .ok (.iload_n 1, 1) := by decide +kernel
theorem dX7_ofRings_13 : decode cX7_ofRings 13 = .ok (.aload_n 0, 1) := by decide +kernel
theorem dX7_ofRings_14 : decode cX7_ofRings 14 = .ok (.iload_n 2, 1) := by decide +kernel
theorem dX7_ofRings_15 : decode cX7_ofRings 15 = .ok (.invokevirtual 198, 3) := by decide +kernel
theorem dX7_ofRings_18 : decode cX7_ofRings 18 = .ok (.iconst (-1), 1) := by decide +kernel
theorem dX7_ofRings_19 : decode cX7_ofRings 19 = .ok (.if_icmp .ne 7, 3) := by decide +kernel
theorem dX7_ofRings_22 : decode cX7_ofRings 22 = .ok (.iconst 0, 1) := by decide +kernel
theorem dX7_ofRings_23 : decode cX7_ofRings 23 = .ok (.goto 4, 3) := by decide +kernel
theorem dX7_ofRings_26 : decode cX7_ofRings 26 = .ok (.iconst 1, 1) := by decide +kernel
theorem dX7_ofRings_27 : decode cX7_ofRings 27 = .ok (.iadd, 1) := by decide +kernel
theorem dX7_ofRings_28 : decode cX7_ofRings 28 = .ok (.istore_n 1, 1) := by decide +kernel
theorem dX7_ofRings_29 : decode cX7_ofRings 29 = .ok (.iinc 2 1, 3) := by decide +kernel
theorem dX7_ofRings_32 : decode cX7_ofRings 32 = .ok (.goto (-28), 3) := by decide +kernel
theorem dX7_ofRings_35 : decode cX7_ofRings 35 = .ok (.iload_n 1, 1) := by decide +kernel
theorem dX7_ofRings_36 : decode cX7_ofRings 36 = .ok (.ireturn, 1) := by decide +kernel
set_option maxRecDepth 20000 in
theorem ggX7_howMany_X7_ofRings : GoodIn wsX7_howMany wsX7_ofRings := goodIn_r _ [12, 1, 13, 14, 15, 11, 16, 2, 17, 18, 19, 20, 21, 22, 23, 24, 25, 26, 27, 28, 29, 30, 31, 32, 33, 34, 35, 36, 37, 38, 39, 40, 41, 42, 43, 44, 45, 46, 47, 48, 49, 50, 51, 52, 53, 54, 55, 56, 57, 58, 59, 60, 61] (by decide +kernel) (by decide +kernel)
set_option maxRecDepth 20000 in
theorem gX7_howMany_X7_ofRings : GoodIn wsX7_howMany (wsV RX7 361 RX7 yX7_ofRings wsX7_ofRings) := goodIn_app (goodIn_of _ (by decide +kernel)) ggX7_howMany_X7_ofRings
theorem dX7_howMany_0 : decode cX7_howMany 0 = .ok (.iload_n 1, 1) := by decide +kernel
theorem dX7_howMany_1 : decode cX7_howMany 1 = .ok (.tableswitch 89 0 6 #[43, 48, 64, 69, 74, 79, 84], 43) := by decide +kernel
theorem dX7_howMany_44 : decode cX7_howMany 44 = .ok (.aload_n 0, 1) := by decide +kernel
theorem dX7_howMany_45 : decode cX7_howMany 45 = .ok (.getfield 121, 3) := by decide +kernel
theorem dX7_howMany_48 : decode cX7_howMany 48 = .ok (.ireturn, 1) := by decide +kernel
theorem dX7_howMany_49 : decode cX7_howMany 49 = .ok (.aload_n 0, 1) := by decide +kernel
theorem dX7_howMany_50 : decode cX7_howMany 50 = .ok (.getfield 124, 3) := by decide +kernel
theorem dX7_howMany_53 : decode cX7_howMany 53 = .ok (.ifCond .eq 10, 3) := by decide +kernel
theorem dX7_howMany_56 : decode cX7_howMany 56 = .ok (.aload_n 0, 1) := by decide +kernel
theorem dX7_howMany_57 : decode cX7_howMany 57 = .ok (.getfield 319, 3) := by decide +kernel
theorem dX7_howMany_60 : decode cX7_howMany 60 = .ok (.goto 4, 3) := by decide +kernel
theorem dX7_howMany_63 : decode cX7_howMany 63 = .ok (.iconst 0, 1) := by decide +kernel
theorem dX7_howMany_64 : decode cX7_howMany 64 = .ok (.ireturn, 1) := by decide +kernel
theorem dX7_howMany_65 : decode cX7_howMany 65 = .ok (.aload_n 0, 1) := by decide +kernel
theorem dX7_howMany_66 : decode cX7_howMany 66 = .ok (.invokevirtual 361, 3) := by decide +kernel
theorem dX7_howMany_69 : decode cX7_howMany 69 = .ok (.ireturn, 1) := by decide +kernel
theorem dX7_howMany_70 : decode cX7_howMany 70 = .ok (.aload_n 0, 1) := by decide +kernel
theorem dX7_howMany_71 : decode cX7_howMany 71 = .ok (.getfield 62, 3) := by decide +kernel
theorem dX7_howMany_74 : decode cX7_howMany 74 = .ok (.ireturn, 1) := by decide +kernel
theorem dX7_howMany_75 : decode cX7_howMany 75 = .ok (.aload_n 0, 1) := by decide +kernel
theorem dX7_howMany_76 : decode cX7_howMany 76 = .ok (.getfield 128, 3) := by decide +kernel
theorem dX7_howMany_79 : decode cX7_howMany 79 = .ok (.ireturn, 1) := by decide +kernel
theorem dX7_howMany_80 : decode cX7_howMany 80 = .ok (.aload_n 0, 1) := by decide +kernel
theorem dX7_howMany_81 : decode cX7_howMany 81 = .ok (.getfield 322, 3) := by decide +kernel
theorem dX7_howMany_84 : decode cX7_howMany 84 = .ok (.ireturn, 1) := by decide +kernel
theorem dX7_howMany_85 : decode cX7_howMany 85 = .ok (.aload_n 0, 1) := by decide +kernel
theorem dX7_howMany_86 : decode cX7_howMany 86 = .ok (.getfield 346, 3) := by decide +kernel
theorem dX7_howMany_89 : decode cX7_howMany 89 = .ok (.ireturn, 1) := by decide +kernel
theorem dX7_howMany_90 : decode cX7_howMany 90 = .ok (.bipush (-102), 2) := by decide +kernel
theorem dX7_howMany_92 : decode cX7_howMany 92 = .ok (.ireturn, 1) := by decide +kernel
set_option maxRecDepth 20000 in
theorem ggX7_count_X7_howMany : GoodIn wsX7_count wsX7_howMany := goodIn_r _ [5, 6, 7, 8, 9, 10, 11, 12, 13, 14, 15, 4, 16, 17, 18, 19, 20, 21, 22, 23, 24, 25, 26, 27, 28, 29, 30, 31, 32, 33, 34, 35, 36, 37, 38, 39, 40, 41, 42, 43, 44, 45, 46, 47, 48, 49, 50, 51, 52, 53, 54, 55, 56, 57, 58, 59, 60, 61, 62, 63, 64, 65] (by decide +kernel) (by decide +kernel)
set_option maxRecDepth 20000 in
theorem gX7_count_X7_howMany : GoodIn wsX7_count (wsV RX7 364 RX7 yX7_howMany wsX7_howMany) := goodIn_app (goodIn_of _ (by decide +kernel)) ggX7_count_X7_howMany
theorem dX7_count_0 : decode cX7_count 0 = .ok (.aload_n 0, 1) := by decide +kernel
theorem dX7_count_1 : decode cX7_count 1 = .ok (.iload_n 1, 1) := by decide +kernel
theorem dX7_count_2 : decode cX7_count 2 = .ok (.invokevirtual 364, 3) := by decide +kernel
theorem dX7_count_5 : decode cX7_count 5 = .ok (.ireturn, 1) := by decide +kernel
theorem dX7_mix_0 : decode cX7_mix 0 = .ok (.aload_n 0, 1) := by decide +kernel
theorem dX7_mix_1 : decode cX7_mix 1 = .ok (.ldc2_w 367, 3) := by decide +kernel
theorem dX7_mix_4 : decode cX7_mix 4 = .ok (.aload_n 0, 1) := by decide +kernel
theorem dX7_mix_5 : decode cX7_mix 5 = .ok (.getfield 369, 3) := by decide +kernel
theorem dX7_mix_8 : decode cX7_mix 8 = .ok (.lmul, 1) := by decide +kernel
theorem dX7_mix_9 : decode cX7_mix 9 = .ok (.lload_n 1, 1) := by decide +kernel
theorem dX7_mix_10 : decode cX7_mix 10 = .ok (.ladd, 1) := by decide +kernel
theorem dX7_mix_11 : decode cX7_mix 11 = .ok (.putfield 369, 3) := by decide +kernel
theorem dX7_mix_14 : decode cX7_mix 14 = .ok (.return_, 1) := by decide +kernel
set_option maxRecDepth 20000 in
theorem ggX7_mixSheet_X7_aboutNow : GoodIn wsX7_mixSheet wsX7_aboutNow := goodIn_r _ [9, 10, 11, 1, 12, 158, 159, 160, 161, 162, 163, 164, 165, 166, 167, 168, 169, 170, 171, 172, 173, 174, 175, 176, 177, 178, 179, 180, 181, 182, 183, 184, 185, 186, 187, 188, 189, 190, 191, 192, 193, 194, 195, 196, 197, 198, 199, 200, 201] (by decide +kernel) (by decide +kernel)
set_option maxRecDepth 20000 in
theorem gX7_mixSheet_X7_aboutNow : GoodIn wsX7_mixSheet (wsV RX7 204 RX7 yX7_aboutNow wsX7_aboutNow) := goodIn_app (goodIn_of _ (by decide +kernel)) ggX7_mixSheet_X7_aboutNow
set_option maxRecDepth 20000 in
theorem ggX7_mixSheet_X7_mix : GoodIn wsX7_mixSheet wsX7_mix := goodIn_r _ [16, 17, 18, 158, 159, 160, 161, 162, 163, 164, 165, 166, 167, 168, 169, 170, 171, 172, 173, 174, 175, 176, 177, 178, 179, 180, 181, 182, 183, 184, 185, 186, 187, 188, 189, 190, 191, 192, 193, 194, 195, 196, 197, 198, 199, 200, 201] (by decide +kernel) (by decide +kernel)
set_option maxRecDepth 20000 in
theorem gX7_mixSheet_X7_mix : GoodIn wsX7_mixSheet (wsV RX7 372 RX7 yX7_mix wsX7_mix) := goodIn_app (goodIn_of _ (by decide +kernel)) ggX7_mixSheet_X7_mix
set_option maxRecDepth 20000 in
theorem ggX7_mixSheet_X7_toldNow : GoodIn wsX7_mixSheet wsX7_toldNow := goodIn_r _ [22, 23, 24, 25, 26, 27, 28, 8, 29, 4, 30, 158, 159, 160, 161, 162, 163, 164, 165, 166, 167, 168, 169, 170, 171, 172, 173, 174, 175, 176, 177, 178, 179, 180, 181, 182, 183, 184, 185, 186, 187, 188, 189, 190, 191, 192, 193, 194, 195, 196, 197, 198, 199, 200, 201] (by decide +kernel) (by decide +kernel)
set_option maxRecDepth 20000 in
theorem gX7_mixSheet_X7_toldNow : GoodIn wsX7_mixSheet (wsV RX7 201 RX7 yX7_toldNow wsX7_toldNow) := goodIn_app (goodIn_of _ (by decide +kernel)) ggX7_mixSheet_X7_toldNow
set_option maxRecDepth 20000 in
theorem ggX7_mixSheet_X7_spotsNow : GoodIn wsX7_mixSheet wsX7_spotsNow := goodIn_r _ [34, 2, 35, 36, 37, 38, 39, 8, 40, 1, 41, 42, 43, 44, 45, 46, 47, 48, 23, 24, 49, 50, 51, 52, 53, 54, 55, 56, 57, 58, 59, 60, 12, 61, 62, 63, 64, 65, 66, 67, 10, 11, 68, 69, 70, 71, 72, 73, 74, 75, 76, 77, 78, 25, 79, 80, 81, 82, 83, 84, 85, 86, 87, 88, 89, 90, 91, 92, 93, 94, 95, 96, 97, 98, 99, 100, 101, 102, 103, 104, 105, 106, 107, 108, 109, 110, 111, 112, 158, 159, 160, 161, 162, 163, 164, 165, 166, 167, 168, 169, 170, 171, 172, 173, 174, 175, 176, 177, 178, 179, 180, 181, 182, 183, 184, 185, 186, 187, 188, 189, 190, 191, 192, 193, 194, 195, 196, 197, 198, 199, 200, 201] (by decide +kernel) (by decide +kernel)
set_option maxRecDepth 20000 in
theorem gX7_mixSheet_X7_spotsNow : GoodIn wsX7_mixSheet (wsV RX7 316 RX7 yX7_spotsNow wsX7_spotsNow) := goodIn_app (goodIn_of _ (by decide +kernel)) ggX7_mixSheet_X7_spotsNow
set_option maxRecDepth 20000 in
theorem ggX7_mixSheet_X7_spotNow : GoodIn wsX7_mixSheet wsX7_spotNow := goodIn_r _ [116, 94, 95, 96, 97, 117, 118, 119, 8, 120, 1, 121, 122, 123, 124, 12, 49, 125, 126, 127, 128, 23, 24, 75, 76, 77, 78, 25, 79, 80, 81, 82, 83, 84, 129, 130, 131, 132, 133, 134, 135, 136, 137, 138, 139, 140, 141, 142, 158, 159, 160, 161, 162, 163, 164, 165, 166, 167, 168, 169, 170, 171, 172, 173, 174, 175, 176, 177, 178, 179, 180, 181, 182, 183, 184, 185, 186, 187, 188, 189, 190, 191, 192, 193, 194, 195, 196, 197, 198, 199, 200, 201] (by decide +kernel) (by decide +kernel)
set_option maxRecDepth 20000 in
theorem gX7_mixSheet_X7_spotNow : GoodIn wsX7_mixSheet (wsV RX7 310 RX7 yX7_spotNow wsX7_spotNow) := goodIn_app (goodIn_of _ (by decide +kernel)) ggX7_mixSheet_X7_spotNow
set_option maxRecDepth 20000 in
theorem ggX7_mixSheet_X7_ringNow : GoodIn wsX7_mixSheet wsX7_ringNow := goodIn_r _ [146, 147, 148, 149, 150, 151, 152, 8, 153, 1, 30, 129, 130, 131, 132, 133, 134, 135, 136, 137, 138, 139, 23, 24, 140, 141, 142, 154, 155, 156, 157, 158, 159, 160, 161, 162, 163, 164, 165, 166, 167, 168, 169, 170, 171, 172, 173, 174, 175, 176, 177, 178, 179, 180, 181, 182, 183, 184, 185, 186, 187, 188, 189, 190, 191, 192, 193, 194, 195, 196, 197, 198, 199, 200, 201] (by decide +kernel) (by decide +kernel)
set_option maxRecDepth 20000 in
theorem gX7_mixSheet_X7_ringNow : GoodIn wsX7_mixSheet (wsV RX7 358 RX7 yX7_ringNow wsX7_ringNow) := goodIn_app (goodIn_of _ (by decide +kernel)) ggX7_mixSheet_X7_ringNow
theorem dX7_mixSheet_0 : decode cX7_mixSheet 0 = .ok (.iconst 0, 1) := by decide +kernel
theorem dX7_mixSheet_1 : decode cX7_mixSheet 1 = .ok (.istore_n 1, 1) := by decide +kernel
theorem dX7_mixSheet_2 : decode cX7_mixSheet 2 = .ok (.iload_n 1, 1) := by decide +kernel
theorem dX7_mixSheet_3 : decode cX7_mixSheet 3 = .ok (.bipush 8, 2) := by decide +kernel
theorem dX7_mixSheet_5 : decode cX7_mixSheet 5 = .ok (.if_icmp .ge 19, 3) := by decide +kernel
theorem dX7_mixSheet_8 : decode cX7_mixSheet 8 = .ok (.aload_n 0, 1) := by decide +kernel
theorem dX7_mixSheet_9 : decode cX7_mixSheet 9 = .ok (.aload_n 0, 1) := by decide +kernel
theorem dX7_mixSheet_10 : decode cX7_mixSheet 10 = .ok (.iload_n 1, 1) := by decide +kernel
theorem dX7_mixSheet_11 : decode cX7_mixSheet 11 = .ok (.invokevirtual 204, 3) := by decide +kernel
theorem dX7_mixSheet_14 : decode cX7_mixSheet 14 = .ok (.i2l, 1) := by decide +kernel
theorem dX7_mixSheet_15 : decode cX7_mixSheet 15 = .ok (.invokevirtual 372, 3) := by decide +kernel
theorem dX7_mixSheet_18 : decode cX7_mixSheet 18 = .ok (.iinc 1 1, 3) := by decide +kernel
theorem dX7_mixSheet_21 : decode cX7_mixSheet 21 = .ok (.goto (-19), 3) := by decide +kernel
theorem dX7_mixSheet_24 : decode cX7_mixSheet 24 = .ok (.iconst 0, 1) := by decide +kernel
theorem dX7_mixSheet_25 : decode cX7_mixSheet 25 = .ok (.istore_n 1, 1) := by decide +kernel
theorem dX7_mixSheet_26 : decode cX7_mixSheet 26 = .ok (.iload_n 1, 1) := by decide +kernel
theorem dX7_mixSheet_27 : decode cX7_mixSheet 27 = .ok (.iconst 4, 1) := by decide +kernel
theorem dX7_mixSheet_28 : decode cX7_mixSheet 28 = .ok (.aload_n 0, 1) := by decide +kernel
theorem dX7_mixSheet_29 : decode cX7_mixSheet 29 = .ok (.getfield 121, 3) := by decide +kernel
theorem dX7_mixSheet_32 : decode cX7_mixSheet 32 = .ok (.imul, 1) := by decide +kernel
theorem dX7_mixSheet_33 : decode cX7_mixSheet 33 = .ok (.if_icmp .ge 24, 3) := by decide +kernel
theorem dX7_mixSheet_36 : decode cX7_mixSheet 36 = .ok (.aload_n 0, 1) := by decide +kernel
theorem dX7_mixSheet_37 : decode cX7_mixSheet 37 = .ok (.aload_n 0, 1) := by decide +kernel
theorem dX7_mixSheet_38 : decode cX7_mixSheet 38 = .ok (.iload_n 1, 1) := by decide +kernel
theorem dX7_mixSheet_39 : decode cX7_mixSheet 39 = .ok (.iconst 4, 1) := by decide +kernel
theorem dX7_mixSheet_40 : decode cX7_mixSheet 40 = .ok (.idiv, 1) := by decide +kernel
theorem dX7_mixSheet_41 : decode cX7_mixSheet 41 = .ok (.iload_n 1, 1) := by decide +kernel
theorem dX7_mixSheet_42 : decode cX7_mixSheet 42 = .ok (.iconst 4, 1) := by decide +kernel
theorem dX7_mixSheet_43 : decode cX7_mixSheet 43 = .ok (.irem, 1) := by decide +kernel
theorem dX7_mixSheet_44 : decode cX7_mixSheet 44 = .ok (.invokevirtual 201, 3) := by decide +kernel
theorem dX7_mixSheet_47 : decode cX7_mixSheet 47 = .ok (.i2l, 1) := by decide +kernel
theorem dX7_mixSheet_48 : decode cX7_mixSheet 48 = .ok (.invokevirtual 372, 3) := by decide +kernel
theorem dX7_mixSheet_51 : decode cX7_mixSheet 51 = .ok (.iinc 1 1, 3) := by decide +kernel
theorem dX7_mixSheet_54 : decode cX7_mixSheet 54 = .ok (.goto (-28), 3) := by decide +kernel
theorem dX7_mixSheet_57 : decode cX7_mixSheet 57 = .ok (.iconst 0, 1) := by decide +kernel
theorem dX7_mixSheet_58 : decode cX7_mixSheet 58 = .ok (.istore_n 1, 1) := by decide +kernel
theorem dX7_mixSheet_59 : decode cX7_mixSheet 59 = .ok (.iload_n 1, 1) := by decide +kernel
theorem dX7_mixSheet_60 : decode cX7_mixSheet 60 = .ok (.iconst 4, 1) := by decide +kernel
theorem dX7_mixSheet_61 : decode cX7_mixSheet 61 = .ok (.if_icmp .ge 19, 3) := by decide +kernel
theorem dX7_mixSheet_64 : decode cX7_mixSheet 64 = .ok (.aload_n 0, 1) := by decide +kernel
theorem dX7_mixSheet_65 : decode cX7_mixSheet 65 = .ok (.aload_n 0, 1) := by decide +kernel
theorem dX7_mixSheet_66 : decode cX7_mixSheet 66 = .ok (.iload_n 1, 1) := by decide +kernel
theorem dX7_mixSheet_67 : decode cX7_mixSheet 67 = .ok (.invokevirtual 316, 3) := by decide +kernel
theorem dX7_mixSheet_70 : decode cX7_mixSheet 70 = .ok (.i2l, 1) := by decide +kernel
theorem dX7_mixSheet_71 : decode cX7_mixSheet 71 = .ok (.invokevirtual 372, 3) := by decide +kernel
theorem dX7_mixSheet_74 : decode cX7_mixSheet 74 = .ok (.iinc 1 1, 3) := by decide +kernel
theorem dX7_mixSheet_77 : decode cX7_mixSheet 77 = .ok (.goto (-18), 3) := by decide +kernel
theorem dX7_mixSheet_80 : decode cX7_mixSheet 80 = .ok (.iconst 0, 1) := by decide +kernel
theorem dX7_mixSheet_81 : decode cX7_mixSheet 81 = .ok (.istore_n 1, 1) := by decide +kernel
theorem dX7_mixSheet_82 : decode cX7_mixSheet 82 = .ok (.iload_n 1, 1) := by decide +kernel
theorem dX7_mixSheet_83 : decode cX7_mixSheet 83 = .ok (.bipush 7, 2) := by decide +kernel
theorem dX7_mixSheet_85 : decode cX7_mixSheet 85 = .ok (.aload_n 0, 1) := by decide +kernel
theorem dX7_mixSheet_86 : decode cX7_mixSheet 86 = .ok (.getfield 259, 3) := by decide +kernel
theorem dX7_mixSheet_89 : decode cX7_mixSheet 89 = .ok (.imul, 1) := by decide +kernel
theorem dX7_mixSheet_90 : decode cX7_mixSheet 90 = .ok (.if_icmp .ge 26, 3) := by decide +kernel
theorem dX7_mixSheet_93 : decode cX7_mixSheet 93 = .ok (.aload_n 0, 1) := by decide +kernel
theorem dX7_mixSheet_94 : decode cX7_mixSheet 94 = .ok (.aload_n 0, 1) := by decide +kernel
theorem dX7_mixSheet_95 : decode cX7_mixSheet 95 = .ok (.iload_n 1, 1) := by decide +kernel
theorem dX7_mixSheet_96 : decode cX7_mixSheet 96 = .ok (.bipush 7, 2) := by decide +kernel
theorem dX7_mixSheet_98 : decode cX7_mixSheet 98 = .ok (.idiv, 1) := by decide +kernel
theorem dX7_mixSheet_99 : decode cX7_mixSheet 99 = .ok (.iload_n 1, 1) := by decide +kernel
theorem dX7_mixSheet_100 : decode cX7_mixSheet 100 = .ok (.bipush 7, 2) := by decide +kernel
theorem dX7_mixSheet_102 : decode cX7_mixSheet 102 = .ok (.irem, 1) := by decide +kernel
theorem dX7_mixSheet_103 : decode cX7_mixSheet 103 = .ok (.invokevirtual 310, 3) := by decide +kernel
theorem dX7_mixSheet_106 : decode cX7_mixSheet 106 = .ok (.i2l, 1) := by decide +kernel
theorem dX7_mixSheet_107 : decode cX7_mixSheet 107 = .ok (.invokevirtual 372, 3) := by decide +kernel
theorem dX7_mixSheet_110 : decode cX7_mixSheet 110 = .ok (.iinc 1 1, 3) := by decide +kernel
theorem dX7_mixSheet_113 : decode cX7_mixSheet 113 = .ok (.goto (-31), 3) := by decide +kernel
theorem dX7_mixSheet_116 : decode cX7_mixSheet 116 = .ok (.iconst 0, 1) := by decide +kernel
theorem dX7_mixSheet_117 : decode cX7_mixSheet 117 = .ok (.istore_n 1, 1) := by decide +kernel
theorem dX7_mixSheet_118 : decode cX7_mixSheet 118 = .ok (.iload_n 1, 1) := by decide +kernel
theorem dX7_mixSheet_119 : decode cX7_mixSheet 119 = .ok (.bipush 7, 2) := by decide +kernel
theorem dX7_mixSheet_121 : decode cX7_mixSheet 121 = .ok (.aload_n 0, 1) := by decide +kernel
theorem dX7_mixSheet_122 : decode cX7_mixSheet 122 = .ok (.getfield 319, 3) := by decide +kernel
theorem dX7_mixSheet_125 : decode cX7_mixSheet 125 = .ok (.imul, 1) := by decide +kernel
theorem dX7_mixSheet_126 : decode cX7_mixSheet 126 = .ok (.if_icmp .ge 33, 3) := by decide +kernel
theorem dX7_mixSheet_129 : decode cX7_mixSheet 129 = .ok (.aload_n 0, 1) := by decide +kernel
theorem dX7_mixSheet_130 : decode cX7_mixSheet 130 = .ok (.getfield 124, 3) := by decide +kernel
theorem dX7_mixSheet_133 : decode cX7_mixSheet 133 = .ok (.ifCond .eq 26, 3) := by decide +kernel
theorem dX7_mixSheet_136 : decode cX7_mixSheet 136 = .ok (.aload_n 0, 1) := by decide +kernel
theorem dX7_mixSheet_137 : decode cX7_mixSheet 137 = .ok (.aload_n 0, 1) := by decide +kernel
theorem dX7_mixSheet_138 : decode cX7_mixSheet 138 = .ok (.iload_n 1, 1) := by decide +kernel
theorem dX7_mixSheet_139 : decode cX7_mixSheet 139 = .ok (.bipush 7, 2) := by decide +kernel
theorem dX7_mixSheet_141 : decode cX7_mixSheet 141 = .ok (.idiv, 1) := by decide +kernel
theorem dX7_mixSheet_142 : decode cX7_mixSheet 142 = .ok (.iload_n 1, 1) := by decide +kernel
theorem dX7_mixSheet_143 : decode cX7_mixSheet 143 = .ok (.bipush 7, 2) := by decide +kernel
theorem dX7_mixSheet_145 : decode cX7_mixSheet 145 = .ok (.irem, 1) := by decide +kernel
theorem dX7_mixSheet_146 : decode cX7_mixSheet 146 = .ok (.invokevirtual 358, 3) := by decide +kernel
theorem dX7_mixSheet_149 : decode cX7_mixSheet 149 = .ok (.i2l, 1) := by decide +kernel
theorem dX7_mixSheet_150 : decode cX7_mixSheet 150 = .ok (.invokevirtual 372, 3) := by decide +kernel
theorem dX7_mixSheet_153 : decode cX7_mixSheet 153 = .ok (.iinc 1 1, 3) := by decide +kernel
theorem dX7_mixSheet_156 : decode cX7_mixSheet 156 = .ok (.goto (-38), 3) := by decide +kernel
theorem dX7_mixSheet_159 : decode cX7_mixSheet 159 = .ok (.return_, 1) := by decide +kernel
set_option maxRecDepth 20000 in
theorem ggX7_digest_X7_isSheet : GoodIn wsX7_digest wsX7_isSheet := goodIn_r _ [9, 10, 180, 181, 182, 183, 184, 185, 186, 187, 188, 189, 190, 191, 192, 193, 194, 195, 196, 197, 198, 199, 200, 201, 202, 203, 204, 205, 206, 207, 208, 209, 210, 211, 212, 213, 214, 215, 216, 217, 218, 219, 220, 221, 222, 223] (by decide +kernel) (by decide +kernel)
set_option maxRecDepth 20000 in
theorem gX7_digest_X7_isSheet : GoodIn wsX7_digest (wsV RX7 150 RX7 yX7_isSheet wsX7_isSheet) := goodIn_app (goodIn_of _ (by decide +kernel)) ggX7_digest_X7_isSheet
set_option maxRecDepth 20000 in
theorem ggX7_digest_X7_mixSheet : GoodIn wsX7_digest wsX7_mixSheet := goodIn_r _ [14, 15, 16, 17, 18, 19, 20, 21, 8, 22, 10, 23, 24, 25, 26, 27, 28, 29, 2, 30, 31, 32, 33, 34, 35, 36, 37, 38, 39, 40, 41, 42, 43, 44, 45, 46, 47, 48, 49, 50, 51, 52, 53, 54, 55, 56, 57, 58, 59, 60, 61, 62, 63, 64, 65, 66, 67, 68, 69, 70, 71, 72, 73, 74, 75, 76, 77, 78, 79, 80, 81, 82, 83, 84, 85, 86, 87, 88, 89, 90, 91, 92, 93, 94, 95, 96, 97, 98, 99, 100, 101, 102, 103, 104, 105, 106, 107, 108, 109, 110, 111, 112, 113, 114, 115, 116, 117, 118, 119, 120, 121, 122, 123, 124, 125, 126, 127, 128, 129, 130, 131, 132, 133, 134, 135, 136, 137, 138, 139, 140, 141, 142, 143, 144, 145, 146, 147, 148, 149, 150, 151, 152, 153, 154, 155, 156, 157, 158, 159, 160, 161, 162, 163, 164, 165, 166, 167, 168, 180, 181, 182, 183, 184, 185, 186, 187, 188, 189, 190, 191, 192, 193, 194, 195, 196, 197, 198, 199, 200, 201, 202, 203, 204, 205, 206, 207, 208, 209, 210, 211, 212, 213, 214, 215, 216, 217, 218, 219, 220, 221, 222, 223] (by decide +kernel) (by decide +kernel)
set_option maxRecDepth 20000 in
theorem gX7_digest_X7_mixSheet : GoodIn wsX7_digest (wsV RX7 378 RX7 yX7_mixSheet wsX7_mixSheet) := goodIn_app (goodIn_of _ (by decide +kernel)) ggX7_digest_X7_mixSheet
set_option maxRecDepth 20000 in
theorem ggX7_digest_X7_mix : GoodIn wsX7_digest wsX7_mix := goodIn_r _ [28, 29, 2, 180, 181, 182, 183, 184, 185, 186, 187, 188, 189, 190, 191, 192, 193, 194, 195, 196, 197, 198, 199, 200, 201, 202, 203, 204, 205, 206, 207, 208, 209, 210, 211, 212, 213, 214, 215, 216, 217, 218, 219, 220, 221, 222, 223] (by decide +kernel) (by decide +kernel)
set_option maxRecDepth 20000 in
theorem gX7_digest_X7_mix : GoodIn wsX7_digest (wsV RX7 372 RX7 yX7_mix wsX7_mix) := goodIn_app (goodIn_of _ (by decide +kernel)) ggX7_digest_X7_mix
set_option maxRecDepth 20000 in
theorem ggX7_digest_X7_howMany : GoodIn wsX7_digest wsX7_howMany := goodIn_r _ [172, 15, 18, 17, 3, 173, 174, 175, 176, 177, 178, 8, 179, 37, 38, 39, 40, 41, 180, 181, 182, 183, 184, 185, 186, 187, 188, 189, 190, 191, 192, 193, 194, 195, 196, 197, 198, 199, 200, 201, 202, 203, 204, 205, 206, 207, 208, 209, 210, 211, 212, 213, 214, 215, 216, 217, 218, 219, 220, 221, 222, 223] (by decide +kernel) (by decide +kernel)
set_option maxRecDepth 20000 in
theorem gX7_digest_X7_howMany : GoodIn wsX7_digest (wsV RX7 364 RX7 yX7_howMany wsX7_howMany) := goodIn_app (goodIn_of _ (by decide +kernel)) ggX7_digest_X7_howMany
theorem dX7_digest_0 : decode cX7_digest 0 = .ok (.aload_n 0, 1) := by decide +kernel
theorem dX7_digest_1 : decode cX7_digest 1 = .ok (.ldc2_w 376, 3) := by decide +kernel
theorem dX7_digest_4 : decode cX7_digest 4 = .ok (.putfield 369, 3) := by decide +kernel
theorem dX7_digest_7 : decode cX7_digest 7 = .ok (.aload_n 0, 1) := by decide +kernel
theorem dX7_digest_8 : decode cX7_digest 8 = .ok (.invokevirtual 150, 3) := by decide +kernel
theorem dX7_digest_11 : decode cX7_digest 11 = .ok (.ifCond .eq 7, 3) := by decide +kernel
theorem dX7_digest_14 : decode cX7_digest 14 = .ok (.aload_n 0, 1) := by decide +kernel
theorem dX7_digest_15 : decode cX7_digest 15 = .ok (.invokevirtual 378, 3) := by decide +kernel
theorem dX7_digest_18 : decode cX7_digest 18 = .ok (.iconst 0, 1) := by decide +kernel
theorem dX7_digest_19 : decode cX7_digest 19 = .ok (.istore_n 1, 1) := by decide +kernel
theorem dX7_digest_20 : decode cX7_digest 20 = .ok (.iload_n 1, 1) := by decide +kernel
theorem dX7_digest_21 : decode cX7_digest 21 = .ok (.aload_n 0, 1) := by decide +kernel
theorem dX7_digest_22 : decode cX7_digest 22 = .ok (.getfield 62, 3) := by decide +kernel
theorem dX7_digest_25 : decode cX7_digest 25 = .ok (.if_icmp .ge 20, 3) := by decide +kernel
theorem dX7_digest_28 : decode cX7_digest 28 = .ok (.aload_n 0, 1) := by decide +kernel
theorem dX7_digest_29 : decode cX7_digest 29 = .ok (.aload_n 0, 1) := by decide +kernel
theorem dX7_digest_30 : decode cX7_digest 30 = .ok (.getfield 7, 3) := by decide +kernel
theorem dX7_digest_33 : decode cX7_digest 33 = .ok (.iload_n 1, 1) := by decide +kernel
theorem dX7_digest_34 : decode cX7_digest 34 = .ok (.iaload, 1) := by decide +kernel
theorem dX7_digest_35 : decode cX7_digest 35 = .ok (.i2l, 1) := by decide +kernel
theorem dX7_digest_36 : decode cX7_digest 36 = .ok (.invokevirtual 372, 3) := by decide +kernel
theorem dX7_digest_39 : decode cX7_digest 39 = .ok (.iinc 1 1, 3) := by decide +kernel
theorem dX7_digest_42 : decode cX7_digest 42 = .ok (.goto (-22), 3) := by decide +kernel
theorem dX7_digest_45 : decode cX7_digest 45 = .ok (.iconst 0, 1) := by decide +kernel
theorem dX7_digest_46 : decode cX7_digest 46 = .ok (.istore_n 1, 1) := by decide +kernel
theorem dX7_digest_47 : decode cX7_digest 47 = .ok (.iload_n 1, 1) := by decide +kernel
theorem dX7_digest_48 : decode cX7_digest 48 = .ok (.bipush 7, 2) := by decide +kernel
theorem dX7_digest_50 : decode cX7_digest 50 = .ok (.if_icmp .ge 19, 3) := by decide +kernel
theorem dX7_digest_53 : decode cX7_digest 53 = .ok (.aload_n 0, 1) := by decide +kernel
theorem dX7_digest_54 : decode cX7_digest 54 = .ok (.aload_n 0, 1) := by decide +kernel
theorem dX7_digest_55 : decode cX7_digest 55 = .ok (.iload_n 1, 1) := by decide +kernel
theorem dX7_digest_56 : decode cX7_digest 56 = .ok (.invokevirtual 364, 3) := by decide +kernel
theorem dX7_digest_59 : decode cX7_digest 59 = .ok (.i2l, 1) := by decide +kernel
theorem dX7_digest_60 : decode cX7_digest 60 = .ok (.invokevirtual 372, 3) := by decide +kernel
theorem dX7_digest_63 : decode cX7_digest 63 = .ok (.iinc 1 1, 3) := by decide +kernel
theorem dX7_digest_66 : decode cX7_digest 66 = .ok (.goto (-19), 3) := by decide +kernel
theorem dX7_digest_69 : decode cX7_digest 69 = .ok (.aload_n 0, 1) := by decide +kernel
theorem dX7_digest_70 : decode cX7_digest 70 = .ok (.getfield 369, 3) := by decide +kernel
theorem dX7_digest_73 : decode cX7_digest 73 = .ok (.lreturn, 1) := by decide +kernel
