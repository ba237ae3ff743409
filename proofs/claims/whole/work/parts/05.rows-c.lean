theorem dX7_init_0 : decode cX7_init 0 = .ok (.aload_n 0, 1) := by decide +kernel
theorem dX7_init_1 : decode cX7_init 1 = .ok (.invokespecial 1, 3) := by decide +kernel
theorem dX7_init_4 : decode cX7_init 4 = .ok (.aload_n 0, 1) := by decide +kernel
theorem dX7_init_5 : decode cX7_init 5 = .ok (.bipush 50, 2) := by decide +kernel
theorem dX7_init_7 : decode cX7_init 7 = .ok (.newarray .int, 2) := by decide +kernel
theorem dX7_init_9 : decode cX7_init 9 = .ok (.putfield 7, 3) := by decide +kernel
theorem dX7_init_12 : decode cX7_init 12 = .ok (.aload_n 0, 1) := by decide +kernel
theorem dX7_init_13 : decode cX7_init 13 = .ok (.bipush 14, 2) := by decide +kernel
theorem dX7_init_15 : decode cX7_init 15 = .ok (.newarray .int, 2) := by decide +kernel
theorem dX7_init_17 : decode cX7_init 17 = .ok (.putfield 13, 3) := by decide +kernel
theorem dX7_init_20 : decode cX7_init 20 = .ok (.aload_n 0, 1) := by decide +kernel
theorem dX7_init_21 : decode cX7_init 21 = .ok (.bipush 14, 2) := by decide +kernel
theorem dX7_init_23 : decode cX7_init 23 = .ok (.newarray .int, 2) := by decide +kernel
theorem dX7_init_25 : decode cX7_init 25 = .ok (.putfield 16, 3) := by decide +kernel
theorem dX7_init_28 : decode cX7_init 28 = .ok (.aload_n 0, 1) := by decide +kernel
theorem dX7_init_29 : decode cX7_init 29 = .ok (.bipush 14, 2) := by decide +kernel
theorem dX7_init_31 : decode cX7_init 31 = .ok (.newarray .int, 2) := by decide +kernel
theorem dX7_init_33 : decode cX7_init 33 = .ok (.putfield 19, 3) := by decide +kernel
theorem dX7_init_36 : decode cX7_init 36 = .ok (.aload_n 0, 1) := by decide +kernel
theorem dX7_init_37 : decode cX7_init 37 = .ok (.iconst 5, 1) := by decide +kernel
theorem dX7_init_38 : decode cX7_init 38 = .ok (.newarray .int, 2) := by decide +kernel
theorem dX7_init_40 : decode cX7_init 40 = .ok (.putfield 22, 3) := by decide +kernel
theorem dX7_init_43 : decode cX7_init 43 = .ok (.aload_n 0, 1) := by decide +kernel
theorem dX7_init_44 : decode cX7_init 44 = .ok (.bipush 14, 2) := by decide +kernel
theorem dX7_init_46 : decode cX7_init 46 = .ok (.newarray .int, 2) := by decide +kernel
theorem dX7_init_48 : decode cX7_init 48 = .ok (.putfield 25, 3) := by decide +kernel
theorem dX7_init_51 : decode cX7_init 51 = .ok (.aload_n 0, 1) := by decide +kernel
theorem dX7_init_52 : decode cX7_init 52 = .ok (.bipush 14, 2) := by decide +kernel
theorem dX7_init_54 : decode cX7_init 54 = .ok (.newarray .int, 2) := by decide +kernel
theorem dX7_init_56 : decode cX7_init 56 = .ok (.putfield 28, 3) := by decide +kernel
theorem dX7_init_59 : decode cX7_init 59 = .ok (.aload_n 0, 1) := by decide +kernel
theorem dX7_init_60 : decode cX7_init 60 = .ok (.bipush 14, 2) := by decide +kernel
theorem dX7_init_62 : decode cX7_init 62 = .ok (.newarray .int, 2) := by decide +kernel
theorem dX7_init_64 : decode cX7_init 64 = .ok (.putfield 31, 3) := by decide +kernel
theorem dX7_init_67 : decode cX7_init 67 = .ok (.aload_n 0, 1) := by decide +kernel
theorem dX7_init_68 : decode cX7_init 68 = .ok (.bipush 14, 2) := by decide +kernel
theorem dX7_init_70 : decode cX7_init 70 = .ok (.newarray .int, 2) := by decide +kernel
theorem dX7_init_72 : decode cX7_init 72 = .ok (.putfield 34, 3) := by decide +kernel
theorem dX7_init_75 : decode cX7_init 75 = .ok (.aload_n 0, 1) := by decide +kernel
theorem dX7_init_76 : decode cX7_init 76 = .ok (.bipush 14, 2) := by decide +kernel
theorem dX7_init_78 : decode cX7_init 78 = .ok (.newarray .int, 2) := by decide +kernel
theorem dX7_init_80 : decode cX7_init 80 = .ok (.putfield 37, 3) := by decide +kernel
theorem dX7_init_83 : decode cX7_init 83 = .ok (.aload_n 0, 1) := by decide +kernel
theorem dX7_init_84 : decode cX7_init 84 = .ok (.bipush 14, 2) := by decide +kernel
theorem dX7_init_86 : decode cX7_init 86 = .ok (.newarray .int, 2) := by decide +kernel
theorem dX7_init_88 : decode cX7_init 88 = .ok (.putfield 40, 3) := by decide +kernel
theorem dX7_init_91 : decode cX7_init 91 = .ok (.aload_n 0, 1) := by decide +kernel
theorem dX7_init_92 : decode cX7_init 92 = .ok (.bipush 14, 2) := by decide +kernel
theorem dX7_init_94 : decode cX7_init 94 = .ok (.newarray .int, 2) := by decide +kernel
theorem dX7_init_96 : decode cX7_init 96 = .ok (.putfield 43, 3) := by decide +kernel
theorem dX7_init_99 : decode cX7_init 99 = .ok (.aload_n 0, 1) := by decide +kernel
theorem dX7_init_100 : decode cX7_init 100 = .ok (.sipush 364, 3) := by decide +kernel
theorem dX7_init_103 : decode cX7_init 103 = .ok (.newarray .int, 2) := by decide +kernel
theorem dX7_init_105 : decode cX7_init 105 = .ok (.putfield 46, 3) := by decide +kernel
theorem dX7_init_108 : decode cX7_init 108 = .ok (.aload_n 0, 1) := by decide +kernel
theorem dX7_init_109 : decode cX7_init 109 = .ok (.sipush 364, 3) := by decide +kernel
theorem dX7_init_112 : decode cX7_init 112 = .ok (.newarray .int, 2) := by decide +kernel
theorem dX7_init_114 : decode cX7_init 114 = .ok (.putfield 49, 3) := by decide +kernel
theorem dX7_init_117 : decode cX7_init 117 = .ok (.aload_n 0, 1) := by decide +kernel
theorem dX7_init_118 : decode cX7_init 118 = .ok (.sipush 364, 3) := by decide +kernel
theorem dX7_init_121 : decode cX7_init 121 = .ok (.newarray .int, 2) := by decide +kernel
theorem dX7_init_123 : decode cX7_init 123 = .ok (.putfield 52, 3) := by decide +kernel
theorem dX7_init_126 : decode cX7_init 126 = .ok (.aload_n 0, 1) := by decide +kernel
theorem dX7_init_127 : decode cX7_init 127 = .ok (.sipush 364, 3) := by decide +kernel
theorem dX7_init_130 : decode cX7_init 130 = .ok (.newarray .int, 2) := by decide +kernel
theorem dX7_init_132 : decode cX7_init 132 = .ok (.putfield 55, 3) := by decide +kernel
theorem dX7_init_135 : decode cX7_init 135 = .ok (.return_, 1) := by decide +kernel
theorem dX7_within_0 : decode cX7_within 0 = .ok (.iload_n 0, 1) := by decide +kernel
theorem dX7_within_1 : decode cX7_within 1 = .ok (.iload_n 1, 1) := by decide +kernel
theorem dX7_within_2 : decode cX7_within 2 = .ok (.if_icmp .lt 12, 3) := by decide +kernel
theorem dX7_within_5 : decode cX7_within 5 = .ok (.iload_n 0, 1) := by decide +kernel
theorem dX7_within_6 : decode cX7_within 6 = .ok (.iload_n 2, 1) := by decide +kernel
theorem dX7_within_7 : decode cX7_within 7 = .ok (.if_icmp .gt 7, 3) := by decide +kernel
theorem dX7_within_10 : decode cX7_within 10 = .ok (.iconst 1, 1) := by decide +kernel
theorem dX7_within_11 : decode cX7_within 11 = .ok (.goto 4, 3) := by decide +kernel
theorem dX7_within_14 : decode cX7_within 14 = .ok (.iconst 0, 1) := by decide +kernel
theorem dX7_within_15 : decode cX7_within 15 = .ok (.ireturn, 1) := by decide +kernel
theorem dX7_abs_0 : decode cX7_abs 0 = .ok (.iload_n 0, 1) := by decide +kernel
theorem dX7_abs_1 : decode cX7_abs 1 = .ok (.ifCond .ge 8, 3) := by decide +kernel
theorem dX7_abs_4 : decode cX7_abs 4 = .ok (.iload_n 0, 1) := by decide +kernel
theorem dX7_abs_5 : decode cX7_abs 5 = .ok (.ineg, 1) := by decide +kernel
theorem dX7_abs_6 : decode cX7_abs 6 = .ok (.goto 4, 3) := by decide +kernel
theorem dX7_abs_9 : decode cX7_abs 9 = .ok (.iload_n 0, 1) := by decide +kernel
theorem dX7_abs_10 : decode cX7_abs 10 = .ok (.ireturn, 1) := by decide +kernel
theorem dX7_size_0 : decode cX7_size 0 = .ok (.iconst 0, 1) := by decide +kernel
theorem dX7_size_1 : decode cX7_size 1 = .ok (.istore_n 1, 1) := by decide +kernel
theorem dX7_size_2 : decode cX7_size 2 = .ok (.iconst 0, 1) := by decide +kernel
theorem dX7_size_3 : decode cX7_size 3 = .ok (.istore_n 2, 1) := by decide +kernel
theorem dX7_size_4 : decode cX7_size 4 = .ok (.iload_n 2, 1) := by decide +kernel
theorem dX7_size_5 : decode cX7_size 5 = .ok (.bipush 14, 2) := by decide +kernel
theorem dX7_size_7 : decode cX7_size 7 = .ok (.if_icmp .ge 17, 3) := by decide +kernel
theorem dX7_size_10 : decode cX7_size 10 = .ok (.iload_n 1, 1) := by decide +kernel
theorem dX7_size_11 : decode cX7_size 11 = .ok (.iload_n 0, 1) := by decide +kernel
theorem dX7_size_12 : decode cX7_size 12 = .ok (.iload_n 2, 1) := by decide +kernel
theorem dX7_size_13 : decode cX7_size 13 = .ok (.ishr, 1) := by decide +kernel
theorem dX7_size_14 : decode cX7_size 14 = .ok (.iconst 1, 1) := by decide +kernel
theorem dX7_size_15 : decode cX7_size 15 = .ok (.iand, 1) := by decide +kernel
theorem dX7_size_16 : decode cX7_size 16 = .ok (.iadd, 1) := by decide +kernel
theorem dX7_size_17 : decode cX7_size 17 = .ok (.istore_n 1, 1) := by decide +kernel
theorem dX7_size_18 : decode cX7_size 18 = .ok (.iinc 2 1, 3) := by decide +kernel
theorem dX7_size_21 : decode cX7_size 21 = .ok (.goto (-17), 3) := by decide +kernel
theorem dX7_size_24 : decode cX7_size 24 = .ok (.iload_n 1, 1) := by decide +kernel
theorem dX7_size_25 : decode cX7_size 25 = .ok (.ireturn, 1) := by decide +kernel
set_option maxRecDepth 20000 in
theorem ggX7_letter_X7_within : GoodIn wsX7_letter wsX7_within := goodIn_r _ [6] (by decide +kernel) (by decide +kernel)
set_option maxRecDepth 20000 in
theorem gX7_letter_X7_within : GoodIn wsX7_letter (va_wsS RX7 58 yX7_within wsX7_within) := goodIn_app (goodIn_of _ (by decide +kernel)) ggX7_letter_X7_within
theorem dX7_letter_0 : decode cX7_letter 0 = .ok (.iload_n 1, 1) := by decide +kernel
theorem dX7_letter_1 : decode cX7_letter 1 = .ok (.bipush 32, 2) := by decide +kernel
theorem dX7_letter_3 : decode cX7_letter 3 = .ok (.bipush 126, 2) := by decide +kernel
theorem dX7_letter_5 : decode cX7_letter 5 = .ok (.invokestatic 58, 3) := by decide +kernel
theorem dX7_letter_8 : decode cX7_letter 8 = .ok (.ifCond .ne 6, 3) := by decide +kernel
theorem dX7_letter_11 : decode cX7_letter 11 = .ok (.bipush (-102), 2) := by decide +kernel
theorem dX7_letter_13 : decode cX7_letter 13 = .ok (.ireturn, 1) := by decide +kernel
theorem dX7_letter_14 : decode cX7_letter 14 = .ok (.aload_n 0, 1) := by decide +kernel
theorem dX7_letter_15 : decode cX7_letter 15 = .ok (.getfield 62, 3) := by decide +kernel
theorem dX7_letter_18 : decode cX7_letter 18 = .ok (.bipush 50, 2) := by decide +kernel
theorem dX7_letter_20 : decode cX7_letter 20 = .ok (.if_icmp .ne 6, 3) := by decide +kernel
theorem dX7_letter_23 : decode cX7_letter 23 = .ok (.bipush (-104), 2) := by decide +kernel
theorem dX7_letter_25 : decode cX7_letter 25 = .ok (.ireturn, 1) := by decide +kernel
theorem dX7_letter_26 : decode cX7_letter 26 = .ok (.aload_n 0, 1) := by decide +kernel
theorem dX7_letter_27 : decode cX7_letter 27 = .ok (.getfield 7, 3) := by decide +kernel
theorem dX7_letter_30 : decode cX7_letter 30 = .ok (.aload_n 0, 1) := by decide +kernel
theorem dX7_letter_31 : decode cX7_letter 31 = .ok (.getfield 62, 3) := by decide +kernel
theorem dX7_letter_34 : decode cX7_letter 34 = .ok (.iload_n 1, 1) := by decide +kernel
theorem dX7_letter_35 : decode cX7_letter 35 = .ok (.iastore, 1) := by decide +kernel
theorem dX7_letter_36 : decode cX7_letter 36 = .ok (.aload_n 0, 1) := by decide +kernel
theorem dX7_letter_37 : decode cX7_letter 37 = .ok (.dup, 1) := by decide +kernel
theorem dX7_letter_38 : decode cX7_letter 38 = .ok (.getfield 62, 3) := by decide +kernel
theorem dX7_letter_41 : decode cX7_letter 41 = .ok (.iconst 1, 1) := by decide +kernel
theorem dX7_letter_42 : decode cX7_letter 42 = .ok (.iadd, 1) := by decide +kernel
theorem dX7_letter_43 : decode cX7_letter 43 = .ok (.putfield 62, 3) := by decide +kernel
theorem dX7_letter_46 : decode cX7_letter 46 = .ok (.aload_n 0, 1) := by decide +kernel
theorem dX7_letter_47 : decode cX7_letter 47 = .ok (.getfield 62, 3) := by decide +kernel
theorem dX7_letter_50 : decode cX7_letter 50 = .ok (.ireturn, 1) := by decide +kernel
theorem dX7_blank_0 : decode cX7_blank 0 = .ok (.aload_n 0, 1) := by decide +kernel
theorem dX7_blank_1 : decode cX7_blank 1 = .ok (.getfield 62, 3) := by decide +kernel
theorem dX7_blank_4 : decode cX7_blank 4 = .ok (.istore_n 1, 1) := by decide +kernel
theorem dX7_blank_5 : decode cX7_blank 5 = .ok (.aload_n 0, 1) := by decide +kernel
theorem dX7_blank_6 : decode cX7_blank 6 = .ok (.iconst 0, 1) := by decide +kernel
theorem dX7_blank_7 : decode cX7_blank 7 = .ok (.putfield 62, 3) := by decide +kernel
theorem dX7_blank_10 : decode cX7_blank 10 = .ok (.iload_n 1, 1) := by decide +kernel
theorem dX7_blank_11 : decode cX7_blank 11 = .ok (.ireturn, 1) := by decide +kernel
set_option maxRecDepth 20000 in
theorem ggX7_beginsSide_X7_within : GoodIn wsX7_beginsSide wsX7_within := goodIn_r _ [6] (by decide +kernel) (by decide +kernel)
set_option maxRecDepth 20000 in
theorem gX7_beginsSide_X7_within : GoodIn wsX7_beginsSide (va_wsS RX7 58 yX7_within wsX7_within) := goodIn_app (goodIn_of _ (by decide +kernel)) ggX7_beginsSide_X7_within
theorem dX7_beginsSide_0 : decode cX7_beginsSide 0 = .ok (.aload_n 0, 1) := by decide +kernel
theorem dX7_beginsSide_1 : decode cX7_beginsSide 1 = .ok (.iload_n 1, 1) := by decide +kernel
theorem dX7_beginsSide_2 : decode cX7_beginsSide 2 = .ok (.bipush 48, 2) := by decide +kernel
theorem dX7_beginsSide_4 : decode cX7_beginsSide 4 = .ok (.isub, 1) := by decide +kernel
theorem dX7_beginsSide_5 : decode cX7_beginsSide 5 = .ok (.putfield 66, 3) := by decide +kernel
theorem dX7_beginsSide_8 : decode cX7_beginsSide 8 = .ok (.aload_n 0, 1) := by decide +kernel
theorem dX7_beginsSide_9 : decode cX7_beginsSide 9 = .ok (.getfield 66, 3) := by decide +kernel
theorem dX7_beginsSide_12 : decode cX7_beginsSide 12 = .ok (.iconst 1, 1) := by decide +kernel
theorem dX7_beginsSide_13 : decode cX7_beginsSide 13 = .ok (.bipush 9, 2) := by decide +kernel
theorem dX7_beginsSide_15 : decode cX7_beginsSide 15 = .ok (.invokestatic 58, 3) := by decide +kernel
theorem dX7_beginsSide_18 : decode cX7_beginsSide 18 = .ok (.istore_n 3, 1) := by decide +kernel
theorem dX7_beginsSide_19 : decode cX7_beginsSide 19 = .ok (.aload_n 0, 1) := by decide +kernel
theorem dX7_beginsSide_20 : decode cX7_beginsSide 20 = .ok (.iload_n 3, 1) := by decide +kernel
theorem dX7_beginsSide_21 : decode cX7_beginsSide 21 = .ok (.ifCond .eq 7, 3) := by decide +kernel
theorem dX7_beginsSide_24 : decode cX7_beginsSide 24 = .ok (.iload_n 2, 1) := by decide +kernel
theorem dX7_beginsSide_25 : decode cX7_beginsSide 25 = .ok (.goto 7, 3) := by decide +kernel
theorem dX7_beginsSide_28 : decode cX7_beginsSide 28 = .ok (.aload_n 0, 1) := by decide +kernel
theorem dX7_beginsSide_29 : decode cX7_beginsSide 29 = .ok (.getfield 69, 3) := by decide +kernel
theorem dX7_beginsSide_32 : decode cX7_beginsSide 32 = .ok (.putfield 69, 3) := by decide +kernel
theorem dX7_beginsSide_35 : decode cX7_beginsSide 35 = .ok (.iload_n 3, 1) := by decide +kernel
theorem dX7_beginsSide_36 : decode cX7_beginsSide 36 = .ok (.ireturn, 1) := by decide +kernel
set_option maxRecDepth 20000 in
theorem ggX7_goesOnSide_X7_within : GoodIn wsX7_goesOnSide wsX7_within := goodIn_r _ [6] (by decide +kernel) (by decide +kernel)
set_option maxRecDepth 20000 in
theorem gX7_goesOnSide_X7_within : GoodIn wsX7_goesOnSide (va_wsS RX7 58 yX7_within wsX7_within) := goodIn_app (goodIn_of _ (by decide +kernel)) ggX7_goesOnSide_X7_within
theorem dX7_goesOnSide_0 : decode cX7_goesOnSide 0 = .ok (.iload_n 1, 1) := by decide +kernel
theorem dX7_goesOnSide_1 : decode cX7_goesOnSide 1 = .ok (.iload_n 2, 1) := by decide +kernel
theorem dX7_goesOnSide_2 : decode cX7_goesOnSide 2 = .ok (.if_icmp .ne 27, 3) := by decide +kernel
theorem dX7_goesOnSide_5 : decode cX7_goesOnSide 5 = .ok (.aload_n 0, 1) := by decide +kernel
theorem dX7_goesOnSide_6 : decode cX7_goesOnSide 6 = .ok (.dup, 1) := by decide +kernel
theorem dX7_goesOnSide_7 : decode cX7_goesOnSide 7 = .ok (.getfield 69, 3) := by decide +kernel
theorem dX7_goesOnSide_10 : decode cX7_goesOnSide 10 = .ok (.iconst 1, 1) := by decide +kernel
theorem dX7_goesOnSide_11 : decode cX7_goesOnSide 11 = .ok (.iadd, 1) := by decide +kernel
theorem dX7_goesOnSide_12 : decode cX7_goesOnSide 12 = .ok (.putfield 69, 3) := by decide +kernel
theorem dX7_goesOnSide_15 : decode cX7_goesOnSide 15 = .ok (.aload_n 0, 1) := by decide +kernel
theorem dX7_goesOnSide_16 : decode cX7_goesOnSide 16 = .ok (.getfield 66, 3) := by decide +kernel
theorem dX7_goesOnSide_19 : decode cX7_goesOnSide 19 = .ok (.iconst 4, 1) := by decide +kernel
theorem dX7_goesOnSide_20 : decode cX7_goesOnSide 20 = .ok (.if_icmp .lt 7, 3) := by decide +kernel
theorem dX7_goesOnSide_23 : decode cX7_goesOnSide 23 = .ok (.iconst 1, 1) := by decide +kernel
theorem dX7_goesOnSide_24 : decode cX7_goesOnSide 24 = .ok (.goto 4, 3) := by decide +kernel
theorem dX7_goesOnSide_27 : decode cX7_goesOnSide 27 = .ok (.iconst 0, 1) := by decide +kernel
theorem dX7_goesOnSide_28 : decode cX7_goesOnSide 28 = .ok (.ireturn, 1) := by decide +kernel
theorem dX7_goesOnSide_29 : decode cX7_goesOnSide 29 = .ok (.iload_n 1, 1) := by decide +kernel
theorem dX7_goesOnSide_30 : decode cX7_goesOnSide 30 = .ok (.bipush 48, 2) := by decide +kernel
theorem dX7_goesOnSide_32 : decode cX7_goesOnSide 32 = .ok (.isub, 1) := by decide +kernel
theorem dX7_goesOnSide_33 : decode cX7_goesOnSide 33 = .ok (.istore_n 3, 1) := by decide +kernel
theorem dX7_goesOnSide_34 : decode cX7_goesOnSide 34 = .ok (.aload_n 0, 1) := by decide +kernel
theorem dX7_goesOnSide_35 : decode cX7_goesOnSide 35 = .ok (.getfield 66, 3) := by decide +kernel
theorem dX7_goesOnSide_38 : decode cX7_goesOnSide 38 = .ok (.iconst 4, 1) := by decide +kernel
theorem dX7_goesOnSide_39 : decode cX7_goesOnSide 39 = .ok (.if_icmp .ge 36, 3) := by decide +kernel
theorem dX7_goesOnSide_42 : decode cX7_goesOnSide 42 = .ok (.iload_n 3, 1) := by decide +kernel
theorem dX7_goesOnSide_43 : decode cX7_goesOnSide 43 = .ok (.iconst 0, 1) := by decide +kernel
theorem dX7_goesOnSide_44 : decode cX7_goesOnSide 44 = .ok (.bipush 9, 2) := by decide +kernel
theorem dX7_goesOnSide_46 : decode cX7_goesOnSide 46 = .ok (.invokestatic 58, 3) := by decide +kernel
theorem dX7_goesOnSide_49 : decode cX7_goesOnSide 49 = .ok (.ifCond .eq 26, 3) := by decide +kernel
theorem dX7_goesOnSide_52 : decode cX7_goesOnSide 52 = .ok (.bipush 10, 2) := by decide +kernel
theorem dX7_goesOnSide_54 : decode cX7_goesOnSide 54 = .ok (.aload_n 0, 1) := by decide +kernel
theorem dX7_goesOnSide_55 : decode cX7_goesOnSide 55 = .ok (.getfield 66, 3) := by decide +kernel
theorem dX7_goesOnSide_58 : decode cX7_goesOnSide 58 = .ok (.imul, 1) := by decide +kernel
theorem dX7_goesOnSide_59 : decode cX7_goesOnSide 59 = .ok (.iload_n 3, 1) := by decide +kernel
theorem dX7_goesOnSide_60 : decode cX7_goesOnSide 60 = .ok (.iadd, 1) := by decide +kernel
theorem dX7_goesOnSide_61 : decode cX7_goesOnSide 61 = .ok (.bipush 10, 2) := by decide +kernel
theorem dX7_goesOnSide_63 : decode cX7_goesOnSide 63 = .ok (.bipush 31, 2) := by decide +kernel
theorem dX7_goesOnSide_65 : decode cX7_goesOnSide 65 = .ok (.invokestatic 58, 3) := by decide +kernel
theorem dX7_goesOnSide_68 : decode cX7_goesOnSide 68 = .ok (.ifCond .eq 7, 3) := by decide +kernel
theorem dX7_goesOnSide_71 : decode cX7_goesOnSide 71 = .ok (.iconst 1, 1) := by decide +kernel
theorem dX7_goesOnSide_72 : decode cX7_goesOnSide 72 = .ok (.goto 4, 3) := by decide +kernel
theorem dX7_goesOnSide_75 : decode cX7_goesOnSide 75 = .ok (.iconst 0, 1) := by decide +kernel
theorem dX7_goesOnSide_76 : decode cX7_goesOnSide 76 = .ok (.istore 4, 2) := by decide +kernel
theorem dX7_goesOnSide_78 : decode cX7_goesOnSide 78 = .ok (.aload_n 0, 1) := by decide +kernel
theorem dX7_goesOnSide_79 : decode cX7_goesOnSide 79 = .ok (.iload 4, 2) := by decide +kernel
theorem dX7_goesOnSide_81 : decode cX7_goesOnSide 81 = .ok (.ifCond .eq 15, 3) := by decide +kernel
theorem dX7_goesOnSide_84 : decode cX7_goesOnSide 84 = .ok (.bipush 10, 2) := by decide +kernel
theorem dX7_goesOnSide_86 : decode cX7_goesOnSide 86 = .ok (.aload_n 0, 1) := by decide +kernel
theorem dX7_goesOnSide_87 : decode cX7_goesOnSide 87 = .ok (.getfield 66, 3) := by decide +kernel
theorem dX7_goesOnSide_90 : decode cX7_goesOnSide 90 = .ok (.imul, 1) := by decide +kernel
theorem dX7_goesOnSide_91 : decode cX7_goesOnSide 91 = .ok (.iload_n 3, 1) := by decide +kernel
theorem dX7_goesOnSide_92 : decode cX7_goesOnSide 92 = .ok (.iadd, 1) := by decide +kernel
theorem dX7_goesOnSide_93 : decode cX7_goesOnSide 93 = .ok (.goto 7, 3) := by decide +kernel
theorem dX7_goesOnSide_96 : decode cX7_goesOnSide 96 = .ok (.aload_n 0, 1) := by decide +kernel
theorem dX7_goesOnSide_97 : decode cX7_goesOnSide 97 = .ok (.getfield 66, 3) := by decide +kernel
theorem dX7_goesOnSide_100 : decode cX7_goesOnSide 100 = .ok (.putfield 66, 3) := by decide +kernel
theorem dX7_goesOnSide_103 : decode cX7_goesOnSide 103 = .ok (.iload 4, 2) := by decide +kernel
theorem dX7_goesOnSide_105 : decode cX7_goesOnSide 105 = .ok (.ireturn, 1) := by decide +kernel
set_option maxRecDepth 20000 in
theorem ggX7_numberBy_X7_within : GoodIn wsX7_numberBy wsX7_within := goodIn_r _ [4] (by decide +kernel) (by decide +kernel)
set_option maxRecDepth 20000 in
theorem gX7_numberBy_X7_within : GoodIn wsX7_numberBy (va_wsS RX7 58 yX7_within wsX7_within) := goodIn_app (goodIn_of _ (by decide +kernel)) ggX7_numberBy_X7_within
theorem dX7_numberBy_0 : decode cX7_numberBy 0 = .ok (.iload_n 0, 1) := by decide +kernel
theorem dX7_numberBy_1 : decode cX7_numberBy 1 = .ok (.bipush 48, 2) := by decide +kernel
theorem dX7_numberBy_3 : decode cX7_numberBy 3 = .ok (.bipush 57, 2) := by decide +kernel
theorem dX7_numberBy_5 : decode cX7_numberBy 5 = .ok (.invokestatic 58, 3) := by decide +kernel
theorem dX7_numberBy_8 : decode cX7_numberBy 8 = .ok (.ifCond .eq 10, 3) := by decide +kernel
theorem dX7_numberBy_11 : decode cX7_numberBy 11 = .ok (.iload_n 0, 1) := by decide +kernel
theorem dX7_numberBy_12 : decode cX7_numberBy 12 = .ok (.bipush 48, 2) := by decide +kernel
theorem dX7_numberBy_14 : decode cX7_numberBy 14 = .ok (.isub, 1) := by decide +kernel
theorem dX7_numberBy_15 : decode cX7_numberBy 15 = .ok (.goto 25, 3) := by decide +kernel
theorem dX7_numberBy_18 : decode cX7_numberBy 18 = .ok (.iload_n 0, 1) := by decide +kernel
theorem dX7_numberBy_19 : decode cX7_numberBy 19 = .ok (.bipush 97, 2) := by decide +kernel
theorem dX7_numberBy_21 : decode cX7_numberBy 21 = .ok (.bipush 117, 2) := by decide +kernel
theorem dX7_numberBy_23 : decode cX7_numberBy 23 = .ok (.invokestatic 58, 3) := by decide +kernel
theorem dX7_numberBy_26 : decode cX7_numberBy 26 = .ok (.ifCond .eq 13, 3) := by decide +kernel
theorem dX7_numberBy_29 : decode cX7_numberBy 29 = .ok (.iload_n 0, 1) := by decide +kernel
theorem dX7_numberBy_30 : decode cX7_numberBy 30 = .ok (.bipush 97, 2) := by decide +kernel
theorem dX7_numberBy_32 : decode cX7_numberBy 32 = .ok (.isub, 1) := by decide +kernel
theorem dX7_numberBy_33 : decode cX7_numberBy 33 = .ok (.bipush 10, 2) := by decide +kernel
theorem dX7_numberBy_35 : decode cX7_numberBy 35 = .ok (.iadd, 1) := by decide +kernel
theorem dX7_numberBy_36 : decode cX7_numberBy 36 = .ok (.goto 4, 3) := by decide +kernel
theorem dX7_numberBy_39 : decode cX7_numberBy 39 = .ok (.iconst (-1), 1) := by decide +kernel
theorem dX7_numberBy_40 : decode cX7_numberBy 40 = .ok (.ireturn, 1) := by decide +kernel
theorem dX7_newIn_0 : decode cX7_newIn 0 = .ok (.iconst 0, 1) := by decide +kernel
theorem dX7_newIn_1 : decode cX7_newIn 1 = .ok (.istore_n 2, 1) := by decide +kernel
theorem dX7_newIn_2 : decode cX7_newIn 2 = .ok (.iconst 0, 1) := by decide +kernel
theorem dX7_newIn_3 : decode cX7_newIn 3 = .ok (.istore_n 3, 1) := by decide +kernel
theorem dX7_newIn_4 : decode cX7_newIn 4 = .ok (.iload_n 3, 1) := by decide +kernel
theorem dX7_newIn_5 : decode cX7_newIn 5 = .ok (.aload_n 0, 1) := by decide +kernel
theorem dX7_newIn_6 : decode cX7_newIn 6 = .ok (.getfield 72, 3) := by decide +kernel
theorem dX7_newIn_9 : decode cX7_newIn 9 = .ok (.if_icmp .ge 27, 3) := by decide +kernel
theorem dX7_newIn_12 : decode cX7_newIn 12 = .ok (.iload_n 2, 1) := by decide +kernel
theorem dX7_newIn_13 : decode cX7_newIn 13 = .ok (.aload_n 0, 1) := by decide +kernel
theorem dX7_newIn_14 : decode cX7_newIn 14 = .ok (.getfield 37, 3) := by decide +kernel
theorem dX7_newIn_17 : decode cX7_newIn 17 = .ok (.iload_n 3, 1) := by decide +kernel
theorem dX7_newIn_18 : decode cX7_newIn 18 = .ok (.iaload, 1) := by decide +kernel
theorem dX7_newIn_19 : decode cX7_newIn 19 = .ok (.iload_n 1, 1) := by decide +kernel
theorem dX7_newIn_20 : decode cX7_newIn 20 = .ok (.if_icmp .ne 7, 3) := by decide +kernel
theorem dX7_newIn_23 : decode cX7_newIn 23 = .ok (.iconst 1, 1) := by decide +kernel
theorem dX7_newIn_24 : decode cX7_newIn 24 = .ok (.goto 4, 3) := by decide +kernel
theorem dX7_newIn_27 : decode cX7_newIn 27 = .ok (.iconst 0, 1) := by decide +kernel
theorem dX7_newIn_28 : decode cX7_newIn 28 = .ok (.iadd, 1) := by decide +kernel
theorem dX7_newIn_29 : decode cX7_newIn 29 = .ok (.istore_n 2, 1) := by decide +kernel
theorem dX7_newIn_30 : decode cX7_newIn 30 = .ok (.iinc 3 1, 3) := by decide +kernel
theorem dX7_newIn_33 : decode cX7_newIn 33 = .ok (.goto (-29), 3) := by decide +kernel
theorem dX7_newIn_36 : decode cX7_newIn 36 = .ok (.iload_n 2, 1) := by decide +kernel
theorem dX7_newIn_37 : decode cX7_newIn 37 = .ok (.ireturn, 1) := by decide +kernel
theorem dX7_isNewAt_0 : decode cX7_isNewAt 0 = .ok (.iconst 0, 1) := by decide +kernel
theorem dX7_isNewAt_1 : decode cX7_isNewAt 1 = .ok (.istore_n 3, 1) := by decide +kernel
theorem dX7_isNewAt_2 : decode cX7_isNewAt 2 = .ok (.iconst 0, 1) := by decide +kernel
theorem dX7_isNewAt_3 : decode cX7_isNewAt 3 = .ok (.istore 4, 2) := by decide +kernel
theorem dX7_isNewAt_5 : decode cX7_isNewAt 5 = .ok (.iload 4, 2) := by decide +kernel
theorem dX7_isNewAt_7 : decode cX7_isNewAt 7 = .ok (.aload_n 0, 1) := by decide +kernel
theorem dX7_isNewAt_8 : decode cX7_isNewAt 8 = .ok (.getfield 72, 3) := by decide +kernel
theorem dX7_isNewAt_11 : decode cX7_isNewAt 11 = .ok (.if_icmp .ge 41, 3) := by decide +kernel
theorem dX7_isNewAt_14 : decode cX7_isNewAt 14 = .ok (.iload_n 3, 1) := by decide +kernel
theorem dX7_isNewAt_15 : decode cX7_isNewAt 15 = .ok (.ifCond .ne 25, 3) := by decide +kernel
theorem dX7_isNewAt_18 : decode cX7_isNewAt 18 = .ok (.aload_n 0, 1) := by decide +kernel
theorem dX7_isNewAt_19 : decode cX7_isNewAt 19 = .ok (.getfield 37, 3) := by decide +kernel
theorem dX7_isNewAt_22 : decode cX7_isNewAt 22 = .ok (.iload 4, 2) := by decide +kernel
theorem dX7_isNewAt_24 : decode cX7_isNewAt 24 = .ok (.iaload, 1) := by decide +kernel
theorem dX7_isNewAt_25 : decode cX7_isNewAt 25 = .ok (.iload_n 1, 1) := by decide +kernel
theorem dX7_isNewAt_26 : decode cX7_isNewAt 26 = .ok (.if_icmp .ne 18, 3) := by decide +kernel
theorem dX7_isNewAt_29 : decode cX7_isNewAt 29 = .ok (.aload_n 0, 1) := by decide +kernel
theorem dX7_isNewAt_30 : decode cX7_isNewAt 30 = .ok (.getfield 40, 3) := by decide +kernel
theorem dX7_isNewAt_33 : decode cX7_isNewAt 33 = .ok (.iload 4, 2) := by decide +kernel
theorem dX7_isNewAt_35 : decode cX7_isNewAt 35 = .ok (.iaload, 1) := by decide +kernel
theorem dX7_isNewAt_36 : decode cX7_isNewAt 36 = .ok (.iload_n 2, 1) := by decide +kernel
theorem dX7_isNewAt_37 : decode cX7_isNewAt 37 = .ok (.if_icmp .ne 7, 3) := by decide +kernel
theorem dX7_isNewAt_40 : decode cX7_isNewAt 40 = .ok (.iconst 1, 1) := by decide +kernel
theorem dX7_isNewAt_41 : decode cX7_isNewAt 41 = .ok (.goto 4, 3) := by decide +kernel
theorem dX7_isNewAt_44 : decode cX7_isNewAt 44 = .ok (.iconst 0, 1) := by decide +kernel
theorem dX7_isNewAt_45 : decode cX7_isNewAt 45 = .ok (.istore_n 3, 1) := by decide +kernel
theorem dX7_isNewAt_46 : decode cX7_isNewAt 46 = .ok (.iinc 4 1, 3) := by decide +kernel
theorem dX7_isNewAt_49 : decode cX7_isNewAt 49 = .ok (.goto (-44), 3) := by decide +kernel
theorem dX7_isNewAt_52 : decode cX7_isNewAt 52 = .ok (.iload_n 3, 1) := by decide +kernel
theorem dX7_isNewAt_53 : decode cX7_isNewAt 53 = .ok (.ireturn, 1) := by decide +kernel
set_option maxRecDepth 20000 in
theorem ggX7_takesX_X7_numberBy : GoodIn wsX7_takesX wsX7_numberBy := goodIn_r _ [9, 10, 11, 8, 12] (by decide +kernel) (by decide +kernel)
set_option maxRecDepth 20000 in
theorem gX7_takesX_X7_numberBy : GoodIn wsX7_takesX (va_wsS RX7 75 yX7_numberBy wsX7_numberBy) := goodIn_app (goodIn_of _ (by decide +kernel)) ggX7_takesX_X7_numberBy
set_option maxRecDepth 20000 in
theorem ggX7_takesX_X7_within : GoodIn wsX7_takesX wsX7_within := goodIn_r _ [12] (by decide +kernel) (by decide +kernel)
set_option maxRecDepth 20000 in
theorem gX7_takesX_X7_within : GoodIn wsX7_takesX (va_wsS RX7 58 yX7_within wsX7_within) := goodIn_app (goodIn_of _ (by decide +kernel)) ggX7_takesX_X7_within
set_option maxRecDepth 20000 in
theorem ggX7_takesX_X7_newIn : GoodIn wsX7_takesX wsX7_newIn := goodIn_r _ [16, 1, 4, 17, 18, 19, 20, 21, 22, 23, 24, 25, 26, 27, 28, 29, 30, 31, 32, 33, 34, 35, 36, 37, 38, 39, 40, 41, 42, 43, 44, 45, 46, 47, 48, 49, 50, 51, 52, 53, 54, 55, 56, 57, 58, 59, 60] (by decide +kernel) (by decide +kernel)
set_option maxRecDepth 20000 in
theorem gX7_takesX_X7_newIn : GoodIn wsX7_takesX (wsV RX7 82 RX7 yX7_newIn wsX7_newIn) := goodIn_app (goodIn_of _ (by decide +kernel)) ggX7_takesX_X7_newIn
theorem dX7_takesX_0 : decode cX7_takesX 0 = .ok (.iload_n 1, 1) := by decide +kernel
theorem dX7_takesX_1 : decode cX7_takesX 1 = .ok (.invokestatic 75, 3) := by decide +kernel
theorem dX7_takesX_4 : decode cX7_takesX 4 = .ok (.istore_n 2, 1) := by decide +kernel
theorem dX7_takesX_5 : decode cX7_takesX 5 = .ok (.aload_n 0, 1) := by decide +kernel
theorem dX7_takesX_6 : decode cX7_takesX 6 = .ok (.getfield 72, 3) := by decide +kernel
theorem dX7_takesX_9 : decode cX7_takesX 9 = .ok (.bipush 14, 2) := by decide +kernel
theorem dX7_takesX_11 : decode cX7_takesX 11 = .ok (.if_icmp .ge 33, 3) := by decide +kernel
theorem dX7_takesX_14 : decode cX7_takesX 14 = .ok (.iload_n 2, 1) := by decide +kernel
theorem dX7_takesX_15 : decode cX7_takesX 15 = .ok (.iconst 0, 1) := by decide +kernel
theorem dX7_takesX_16 : decode cX7_takesX 16 = .ok (.aload_n 0, 1) := by decide +kernel
theorem dX7_takesX_17 : decode cX7_takesX 17 = .ok (.getfield 79, 3) := by decide +kernel
theorem dX7_takesX_20 : decode cX7_takesX 20 = .ok (.iconst 1, 1) := by decide +kernel
theorem dX7_takesX_21 : decode cX7_takesX 21 = .ok (.isub, 1) := by decide +kernel
theorem dX7_takesX_22 : decode cX7_takesX 22 = .ok (.invokestatic 58, 3) := by decide +kernel
theorem dX7_takesX_25 : decode cX7_takesX 25 = .ok (.ifCond .eq 19, 3) := by decide +kernel
theorem dX7_takesX_28 : decode cX7_takesX 28 = .ok (.aload_n 0, 1) := by decide +kernel
theorem dX7_takesX_29 : decode cX7_takesX 29 = .ok (.iload_n 2, 1) := by decide +kernel
theorem dX7_takesX_30 : decode cX7_takesX 30 = .ok (.invokevirtual 82, 3) := by decide +kernel
theorem dX7_takesX_33 : decode cX7_takesX 33 = .ok (.aload_n 0, 1) := by decide +kernel
theorem dX7_takesX_34 : decode cX7_takesX 34 = .ok (.getfield 85, 3) := by decide +kernel
theorem dX7_takesX_37 : decode cX7_takesX 37 = .ok (.if_icmp .ge 7, 3) := by decide +kernel
theorem dX7_takesX_40 : decode cX7_takesX 40 = .ok (.iconst 1, 1) := by decide +kernel
theorem dX7_takesX_41 : decode cX7_takesX 41 = .ok (.goto 4, 3) := by decide +kernel
theorem dX7_takesX_44 : decode cX7_takesX 44 = .ok (.iconst 0, 1) := by decide +kernel
theorem dX7_takesX_45 : decode cX7_takesX 45 = .ok (.istore_n 3, 1) := by decide +kernel
theorem dX7_takesX_46 : decode cX7_takesX 46 = .ok (.iload_n 3, 1) := by decide +kernel
theorem dX7_takesX_47 : decode cX7_takesX 47 = .ok (.ifCond .eq 18, 3) := by decide +kernel
theorem dX7_takesX_50 : decode cX7_takesX 50 = .ok (.aload_n 0, 1) := by decide +kernel
theorem dX7_takesX_51 : decode cX7_takesX 51 = .ok (.getfield 37, 3) := by decide +kernel
theorem dX7_takesX_54 : decode cX7_takesX 54 = .ok (.aload_n 0, 1) := by decide +kernel
theorem dX7_takesX_55 : decode cX7_takesX 55 = .ok (.getfield 72, 3) := by decide +kernel
theorem dX7_takesX_58 : decode cX7_takesX 58 = .ok (.iload_n 2, 1) := by decide +kernel
theorem dX7_takesX_59 : decode cX7_takesX 59 = .ok (.iastore, 1) := by decide +kernel
theorem dX7_takesX_60 : decode cX7_takesX 60 = .ok (.aload_n 0, 1) := by decide +kernel
theorem dX7_takesX_61 : decode cX7_takesX 61 = .ok (.iconst 5, 1) := by decide +kernel
theorem dX7_takesX_62 : decode cX7_takesX 62 = .ok (.putfield 69, 3) := by decide +kernel
theorem dX7_takesX_65 : decode cX7_takesX 65 = .ok (.iload_n 3, 1) := by decide +kernel
theorem dX7_takesX_66 : decode cX7_takesX 66 = .ok (.ireturn, 1) := by decide +kernel
set_option maxRecDepth 20000 in
theorem ggX7_takesY_X7_numberBy : GoodIn wsX7_takesY wsX7_numberBy := goodIn_r _ [9, 10, 11, 8, 12] (by decide +kernel) (by decide +kernel)
set_option maxRecDepth 20000 in
theorem gX7_takesY_X7_numberBy : GoodIn wsX7_takesY (va_wsS RX7 75 yX7_numberBy wsX7_numberBy) := goodIn_app (goodIn_of _ (by decide +kernel)) ggX7_takesY_X7_numberBy
set_option maxRecDepth 20000 in
theorem ggX7_takesY_X7_within : GoodIn wsX7_takesY wsX7_within := goodIn_r _ [12] (by decide +kernel) (by decide +kernel)
set_option maxRecDepth 20000 in
theorem gX7_takesY_X7_within : GoodIn wsX7_takesY (va_wsS RX7 58 yX7_within wsX7_within) := goodIn_app (goodIn_of _ (by decide +kernel)) ggX7_takesY_X7_within
set_option maxRecDepth 20000 in
theorem ggX7_takesY_X7_isNewAt : GoodIn wsX7_takesY wsX7_isNewAt := goodIn_r _ [16, 3, 2, 4, 17, 18, 19, 20, 21, 22, 23, 24, 25, 26, 27, 28, 29, 30, 31, 32, 33, 34, 35, 36, 37, 38, 39, 40, 41, 42, 43, 44, 45, 46, 47, 48, 49, 50, 51, 52, 53, 54, 55, 56, 57, 58, 59, 60] (by decide +kernel) (by decide +kernel)
set_option maxRecDepth 20000 in
theorem gX7_takesY_X7_isNewAt : GoodIn wsX7_takesY (wsV RX7 88 RX7 yX7_isNewAt wsX7_isNewAt) := goodIn_app (goodIn_of _ (by decide +kernel)) ggX7_takesY_X7_isNewAt
theorem dX7_takesY_0 : decode cX7_takesY 0 = .ok (.iload_n 1, 1) := by decide +kernel
theorem dX7_takesY_1 : decode cX7_takesY 1 = .ok (.invokestatic 75, 3) := by decide +kernel
theorem dX7_takesY_4 : decode cX7_takesY 4 = .ok (.istore_n 2, 1) := by decide +kernel
theorem dX7_takesY_5 : decode cX7_takesY 5 = .ok (.iload_n 2, 1) := by decide +kernel
theorem dX7_takesY_6 : decode cX7_takesY 6 = .ok (.iconst 0, 1) := by decide +kernel
theorem dX7_takesY_7 : decode cX7_takesY 7 = .ok (.aload_n 0, 1) := by decide +kernel
theorem dX7_takesY_8 : decode cX7_takesY 8 = .ok (.getfield 85, 3) := by decide +kernel
theorem dX7_takesY_11 : decode cX7_takesY 11 = .ok (.iconst 1, 1) := by decide +kernel
theorem dX7_takesY_12 : decode cX7_takesY 12 = .ok (.isub, 1) := by decide +kernel
theorem dX7_takesY_13 : decode cX7_takesY 13 = .ok (.invokestatic 58, 3) := by decide +kernel
theorem dX7_takesY_16 : decode cX7_takesY 16 = .ok (.ifCond .eq 24, 3) := by decide +kernel
theorem dX7_takesY_19 : decode cX7_takesY 19 = .ok (.aload_n 0, 1) := by decide +kernel
theorem dX7_takesY_20 : decode cX7_takesY 20 = .ok (.aload_n 0, 1) := by decide +kernel
theorem dX7_takesY_21 : decode cX7_takesY 21 = .ok (.getfield 37, 3) := by decide +kernel
theorem dX7_takesY_24 : decode cX7_takesY 24 = .ok (.aload_n 0, 1) := by decide +kernel
theorem dX7_takesY_25 : decode cX7_takesY 25 = .ok (.getfield 72, 3) := by decide +kernel
theorem dX7_takesY_28 : decode cX7_takesY 28 = .ok (.iaload, 1) := by decide +kernel
theorem dX7_takesY_29 : decode cX7_takesY 29 = .ok (.iload_n 2, 1) := by decide +kernel
theorem dX7_takesY_30 : decode cX7_takesY 30 = .ok (.invokevirtual 88, 3) := by decide +kernel
theorem dX7_takesY_33 : decode cX7_takesY 33 = .ok (.ifCond .ne 7, 3) := by decide +kernel
theorem dX7_takesY_36 : decode cX7_takesY 36 = .ok (.iconst 1, 1) := by decide +kernel
theorem dX7_takesY_37 : decode cX7_takesY 37 = .ok (.goto 4, 3) := by decide +kernel
theorem dX7_takesY_40 : decode cX7_takesY 40 = .ok (.iconst 0, 1) := by decide +kernel
theorem dX7_takesY_41 : decode cX7_takesY 41 = .ok (.istore_n 3, 1) := by decide +kernel
theorem dX7_takesY_42 : decode cX7_takesY 42 = .ok (.iload_n 3, 1) := by decide +kernel
theorem dX7_takesY_43 : decode cX7_takesY 43 = .ok (.ifCond .eq 19, 3) := by decide +kernel
theorem dX7_takesY_46 : decode cX7_takesY 46 = .ok (.aload_n 0, 1) := by decide +kernel
theorem dX7_takesY_47 : decode cX7_takesY 47 = .ok (.getfield 40, 3) := by decide +kernel
theorem dX7_takesY_50 : decode cX7_takesY 50 = .ok (.aload_n 0, 1) := by decide +kernel
theorem dX7_takesY_51 : decode cX7_takesY 51 = .ok (.getfield 72, 3) := by decide +kernel
theorem dX7_takesY_54 : decode cX7_takesY 54 = .ok (.iload_n 2, 1) := by decide +kernel
theorem dX7_takesY_55 : decode cX7_takesY 55 = .ok (.iastore, 1) := by decide +kernel
theorem dX7_takesY_56 : decode cX7_takesY 56 = .ok (.aload_n 0, 1) := by decide +kernel
theorem dX7_takesY_57 : decode cX7_takesY 57 = .ok (.bipush 6, 2) := by decide +kernel
theorem dX7_takesY_59 : decode cX7_takesY 59 = .ok (.putfield 69, 3) := by decide +kernel
theorem dX7_takesY_62 : decode cX7_takesY 62 = .ok (.iload_n 3, 1) := by decide +kernel
theorem dX7_takesY_63 : decode cX7_takesY 63 = .ok (.ireturn, 1) := by decide +kernel
set_option maxRecDepth 20000 in
theorem ggX7_takesTurn_X7_within : GoodIn wsX7_takesTurn wsX7_within := goodIn_r _ [7] (by decide +kernel) (by decide +kernel)
set_option maxRecDepth 20000 in
theorem gX7_takesTurn_X7_within : GoodIn wsX7_takesTurn (va_wsS RX7 58 yX7_within wsX7_within) := goodIn_app (goodIn_of _ (by decide +kernel)) ggX7_takesTurn_X7_within
theorem dX7_takesTurn_0 : decode cX7_takesTurn 0 = .ok (.iload_n 1, 1) := by decide +kernel
theorem dX7_takesTurn_1 : decode cX7_takesTurn 1 = .ok (.bipush 45, 2) := by decide +kernel
theorem dX7_takesTurn_3 : decode cX7_takesTurn 3 = .ok (.if_icmp .eq 14, 3) := by decide +kernel
theorem dX7_takesTurn_6 : decode cX7_takesTurn 6 = .ok (.iload_n 1, 1) := by decide +kernel
theorem dX7_takesTurn_7 : decode cX7_takesTurn 7 = .ok (.bipush 48, 2) := by decide +kernel
theorem dX7_takesTurn_9 : decode cX7_takesTurn 9 = .ok (.bipush 55, 2) := by decide +kernel
theorem dX7_takesTurn_11 : decode cX7_takesTurn 11 = .ok (.invokestatic 58, 3) := by decide +kernel
theorem dX7_takesTurn_14 : decode cX7_takesTurn 14 = .ok (.ifCond .eq 7, 3) := by decide +kernel
theorem dX7_takesTurn_17 : decode cX7_takesTurn 17 = .ok (.iconst 1, 1) := by decide +kernel
theorem dX7_takesTurn_18 : decode cX7_takesTurn 18 = .ok (.goto 4, 3) := by decide +kernel
theorem dX7_takesTurn_21 : decode cX7_takesTurn 21 = .ok (.iconst 0, 1) := by decide +kernel
theorem dX7_takesTurn_22 : decode cX7_takesTurn 22 = .ok (.istore_n 2, 1) := by decide +kernel
theorem dX7_takesTurn_23 : decode cX7_takesTurn 23 = .ok (.iload_n 2, 1) := by decide +kernel
theorem dX7_takesTurn_24 : decode cX7_takesTurn 24 = .ok (.ifCond .eq 41, 3) := by decide +kernel
theorem dX7_takesTurn_27 : decode cX7_takesTurn 27 = .ok (.aload_n 0, 1) := by decide +kernel
theorem dX7_takesTurn_28 : decode cX7_takesTurn 28 = .ok (.getfield 43, 3) := by decide +kernel
theorem dX7_takesTurn_31 : decode cX7_takesTurn 31 = .ok (.aload_n 0, 1) := by decide +kernel
theorem dX7_takesTurn_32 : decode cX7_takesTurn 32 = .ok (.getfield 72, 3) := by decide +kernel
theorem dX7_takesTurn_35 : decode cX7_takesTurn 35 = .ok (.iload_n 1, 1) := by decide +kernel
theorem dX7_takesTurn_36 : decode cX7_takesTurn 36 = .ok (.bipush 45, 2) := by decide +kernel
theorem dX7_takesTurn_38 : decode cX7_takesTurn 38 = .ok (.if_icmp .ne 7, 3) := by decide +kernel
theorem dX7_takesTurn_41 : decode cX7_takesTurn 41 = .ok (.iconst (-1), 1) := by decide +kernel
theorem dX7_takesTurn_42 : decode cX7_takesTurn 42 = .ok (.goto 7, 3) := by decide +kernel
theorem dX7_takesTurn_45 : decode cX7_takesTurn 45 = .ok (.iload_n 1, 1) := by decide +kernel
theorem dX7_takesTurn_46 : decode cX7_takesTurn 46 = .ok (.bipush 48, 2) := by decide +kernel
theorem dX7_takesTurn_48 : decode cX7_takesTurn 48 = .ok (.isub, 1) := by decide +kernel
theorem dX7_takesTurn_49 : decode cX7_takesTurn 49 = .ok (.iastore, 1) := by decide +kernel
theorem dX7_takesTurn_50 : decode cX7_takesTurn 50 = .ok (.aload_n 0, 1) := by decide +kernel
theorem dX7_takesTurn_51 : decode cX7_takesTurn 51 = .ok (.dup, 1) := by decide +kernel
theorem dX7_takesTurn_52 : decode cX7_takesTurn 52 = .ok (.getfield 72, 3) := by decide +kernel
theorem dX7_takesTurn_55 : decode cX7_takesTurn 55 = .ok (.iconst 1, 1) := by decide +kernel
theorem dX7_takesTurn_56 : decode cX7_takesTurn 56 = .ok (.iadd, 1) := by decide +kernel
theorem dX7_takesTurn_57 : decode cX7_takesTurn 57 = .ok (.putfield 72, 3) := by decide +kernel
theorem dX7_takesTurn_60 : decode cX7_takesTurn 60 = .ok (.aload_n 0, 1) := by decide +kernel
theorem dX7_takesTurn_61 : decode cX7_takesTurn 61 = .ok (.iconst 4, 1) := by decide +kernel
theorem dX7_takesTurn_62 : decode cX7_takesTurn 62 = .ok (.putfield 69, 3) := by decide +kernel
theorem dX7_takesTurn_65 : decode cX7_takesTurn 65 = .ok (.iload_n 2, 1) := by decide +kernel
theorem dX7_takesTurn_66 : decode cX7_takesTurn 66 = .ok (.ireturn, 1) := by decide +kernel
set_option maxRecDepth 20000 in
theorem ggX7_takes_X7_beginsSide : GoodIn wsX7_takes wsX7_beginsSide := goodIn_r _ [10, 2, 1, 11, 12, 9, 13, 44, 45, 46, 47, 48, 49, 50, 51, 52, 53, 54, 55, 56, 57, 58, 59, 60, 61, 62, 63, 64, 65, 66, 67, 68, 69, 70, 71, 72, 73, 74, 75, 76, 77, 78, 79, 80, 81, 82, 83, 84, 85, 86, 87] (by decide +kernel) (by decide +kernel)
set_option maxRecDepth 20000 in
theorem gX7_takes_X7_beginsSide : GoodIn wsX7_takes (wsV RX7 92 RX7 yX7_beginsSide wsX7_beginsSide) := goodIn_app (goodIn_of _ (by decide +kernel)) ggX7_takes_X7_beginsSide
set_option maxRecDepth 20000 in
theorem ggX7_takes_X7_goesOnSide : GoodIn wsX7_takes wsX7_goesOnSide := goodIn_r _ [17, 1, 2, 11, 12, 9, 13, 44, 45, 46, 47, 48, 49, 50, 51, 52, 53, 54, 55, 56, 57, 58, 59, 60, 61, 62, 63, 64, 65, 66, 67, 68, 69, 70, 71, 72, 73, 74, 75, 76, 77, 78, 79, 80, 81, 82, 83, 84, 85, 86, 87] (by decide +kernel) (by decide +kernel)
set_option maxRecDepth 20000 in
theorem gX7_takes_X7_goesOnSide : GoodIn wsX7_takes (wsV RX7 95 RX7 yX7_goesOnSide wsX7_goesOnSide) := goodIn_app (goodIn_of _ (by decide +kernel)) ggX7_takes_X7_goesOnSide
set_option maxRecDepth 20000 in
theorem ggX7_takes_X7_takesX : GoodIn wsX7_takes wsX7_takesX := goodIn_r _ [21, 4, 3, 5, 22, 1, 23, 24, 9, 25, 11, 12, 13, 26, 27, 28, 29, 44, 45, 46, 47, 48, 49, 50, 51, 52, 53, 54, 55, 56, 57, 58, 59, 60, 61, 62, 63, 64, 65, 66, 67, 68, 69, 70, 71, 72, 73, 74, 75, 76, 77, 78, 79, 80, 81, 82, 83, 84, 85, 86, 87] (by decide +kernel) (by decide +kernel)
set_option maxRecDepth 20000 in
theorem gX7_takes_X7_takesX : GoodIn wsX7_takes (wsV RX7 98 RX7 yX7_takesX wsX7_takesX) := goodIn_app (goodIn_of _ (by decide +kernel)) ggX7_takes_X7_takesX
set_option maxRecDepth 20000 in
theorem ggX7_takes_X7_takesY : GoodIn wsX7_takes wsX7_takesY := goodIn_r _ [33, 5, 22, 4, 34, 1, 23, 24, 9, 25, 11, 12, 13, 35, 36, 37, 38, 44, 45, 46, 47, 48, 49, 50, 51, 52, 53, 54, 55, 56, 57, 58, 59, 60, 61, 62, 63, 64, 65, 66, 67, 68, 69, 70, 71, 72, 73, 74, 75, 76, 77, 78, 79, 80, 81, 82, 83, 84, 85, 86, 87] (by decide +kernel) (by decide +kernel)
set_option maxRecDepth 20000 in
theorem gX7_takes_X7_takesY : GoodIn wsX7_takes (wsV RX7 102 RX7 yX7_takesY wsX7_takesY) := goodIn_app (goodIn_of _ (by decide +kernel)) ggX7_takes_X7_takesY
set_option maxRecDepth 20000 in
theorem ggX7_takes_X7_takesTurn : GoodIn wsX7_takes wsX7_takesTurn := goodIn_r _ [42, 43, 4, 1, 11, 12, 9, 13, 44, 45, 46, 47, 48, 49, 50, 51, 52, 53, 54, 55, 56, 57, 58, 59, 60, 61, 62, 63, 64, 65, 66, 67, 68, 69, 70, 71, 72, 73, 74, 75, 76, 77, 78, 79, 80, 81, 82, 83, 84, 85, 86, 87] (by decide +kernel) (by decide +kernel)
set_option maxRecDepth 20000 in
theorem gX7_takes_X7_takesTurn : GoodIn wsX7_takes (wsV RX7 105 RX7 yX7_takesTurn wsX7_takesTurn) := goodIn_app (goodIn_of _ (by decide +kernel)) ggX7_takes_X7_takesTurn
theorem dX7_takes_0 : decode cX7_takes 0 = .ok (.aload_n 0, 1) := by decide +kernel
theorem dX7_takes_1 : decode cX7_takes 1 = .ok (.getfield 69, 3) := by decide +kernel
theorem dX7_takes_4 : decode cX7_takes 4 = .ok (.tableswitch 112 0 5 #[40, 47, 55, 70, 78, 106], 40) := by decide +kernel
theorem dX7_takes_44 : decode cX7_takes 44 = .ok (.aload_n 0, 1) := by decide +kernel
theorem dX7_takes_45 : decode cX7_takes 45 = .ok (.iload_n 1, 1) := by decide +kernel
theorem dX7_takes_46 : decode cX7_takes 46 = .ok (.iconst 1, 1) := by decide +kernel
theorem dX7_takes_47 : decode cX7_takes 47 = .ok (.invokevirtual 92, 3) := by decide +kernel
theorem dX7_takes_50 : decode cX7_takes 50 = .ok (.ireturn, 1) := by decide +kernel
theorem dX7_takes_51 : decode cX7_takes 51 = .ok (.aload_n 0, 1) := by decide +kernel
theorem dX7_takes_52 : decode cX7_takes 52 = .ok (.iload_n 1, 1) := by decide +kernel
theorem dX7_takes_53 : decode cX7_takes 53 = .ok (.bipush 120, 2) := by decide +kernel
theorem dX7_takes_55 : decode cX7_takes 55 = .ok (.invokevirtual 95, 3) := by decide +kernel
theorem dX7_takes_58 : decode cX7_takes 58 = .ok (.ireturn, 1) := by decide +kernel
theorem dX7_takes_59 : decode cX7_takes 59 = .ok (.aload_n 0, 1) := by decide +kernel
theorem dX7_takes_60 : decode cX7_takes 60 = .ok (.aload_n 0, 1) := by decide +kernel
theorem dX7_takes_61 : decode cX7_takes 61 = .ok (.getfield 66, 3) := by decide +kernel
theorem dX7_takes_64 : decode cX7_takes 64 = .ok (.putfield 79, 3) := by decide +kernel
theorem dX7_takes_67 : decode cX7_takes 67 = .ok (.aload_n 0, 1) := by decide +kernel
theorem dX7_takes_68 : decode cX7_takes 68 = .ok (.iload_n 1, 1) := by decide +kernel
theorem dX7_takes_69 : decode cX7_takes 69 = .ok (.iconst 3, 1) := by decide +kernel
theorem dX7_takes_70 : decode cX7_takes 70 = .ok (.invokevirtual 92, 3) := by decide +kernel
theorem dX7_takes_73 : decode cX7_takes 73 = .ok (.ireturn, 1) := by decide +kernel
theorem dX7_takes_74 : decode cX7_takes 74 = .ok (.aload_n 0, 1) := by decide +kernel
theorem dX7_takes_75 : decode cX7_takes 75 = .ok (.iload_n 1, 1) := by decide +kernel
theorem dX7_takes_76 : decode cX7_takes 76 = .ok (.bipush 58, 2) := by decide +kernel
theorem dX7_takes_78 : decode cX7_takes 78 = .ok (.invokevirtual 95, 3) := by decide +kernel
theorem dX7_takes_81 : decode cX7_takes 81 = .ok (.ireturn, 1) := by decide +kernel
theorem dX7_takes_82 : decode cX7_takes 82 = .ok (.aload_n 0, 1) := by decide +kernel
theorem dX7_takes_83 : decode cX7_takes 83 = .ok (.aload_n 0, 1) := by decide +kernel
theorem dX7_takes_84 : decode cX7_takes 84 = .ok (.getfield 72, 3) := by decide +kernel
theorem dX7_takes_87 : decode cX7_takes 87 = .ok (.ifCond .ne 10, 3) := by decide +kernel
theorem dX7_takes_90 : decode cX7_takes 90 = .ok (.aload_n 0, 1) := by decide +kernel
theorem dX7_takes_91 : decode cX7_takes 91 = .ok (.getfield 66, 3) := by decide +kernel
theorem dX7_takes_94 : decode cX7_takes 94 = .ok (.goto 7, 3) := by decide +kernel
theorem dX7_takes_97 : decode cX7_takes 97 = .ok (.aload_n 0, 1) := by decide +kernel
theorem dX7_takes_98 : decode cX7_takes 98 = .ok (.getfield 85, 3) := by decide +kernel
theorem dX7_takes_101 : decode cX7_takes 101 = .ok (.putfield 85, 3) := by decide +kernel
theorem dX7_takes_104 : decode cX7_takes 104 = .ok (.aload_n 0, 1) := by decide +kernel
theorem dX7_takes_105 : decode cX7_takes 105 = .ok (.iload_n 1, 1) := by decide +kernel
theorem dX7_takes_106 : decode cX7_takes 106 = .ok (.invokevirtual 98, 3) := by decide +kernel
theorem dX7_takes_109 : decode cX7_takes 109 = .ok (.ireturn, 1) := by decide +kernel
theorem dX7_takes_110 : decode cX7_takes 110 = .ok (.aload_n 0, 1) := by decide +kernel
theorem dX7_takes_111 : decode cX7_takes 111 = .ok (.iload_n 1, 1) := by decide +kernel
theorem dX7_takes_112 : decode cX7_takes 112 = .ok (.invokevirtual 102, 3) := by decide +kernel
theorem dX7_takes_115 : decode cX7_takes 115 = .ok (.ireturn, 1) := by decide +kernel
theorem dX7_takes_116 : decode cX7_takes 116 = .ok (.aload_n 0, 1) := by decide +kernel
theorem dX7_takes_117 : decode cX7_takes 117 = .ok (.iload_n 1, 1) := by decide +kernel
theorem dX7_takes_118 : decode cX7_takes 118 = .ok (.invokevirtual 105, 3) := by decide +kernel
theorem dX7_takes_121 : decode cX7_takes 121 = .ok (.ireturn, 1) := by decide +kernel
set_option maxRecDepth 20000 in
theorem ggX7_read_X7_takes : GoodIn wsX7_read wsX7_takes := goodIn_r _ [9, 1, 10, 11, 2, 12, 13, 14, 15, 8, 16, 17, 18, 19, 20, 21, 22, 23, 24, 25, 26, 27, 28, 29, 30, 31, 32, 33, 34, 35, 36, 37, 38, 39, 40, 41, 42, 43, 44, 45, 46, 47, 48, 49, 50, 51, 52, 53, 54, 55, 56, 57, 58, 59, 60, 61, 62, 63, 64, 65, 66, 67, 68, 69, 70, 71, 72, 73, 74, 75, 76, 77, 78, 79, 80, 81, 82, 83, 84, 85, 86, 87, 88, 89, 90, 91, 92, 93] (by decide +kernel) (by decide +kernel)
set_option maxRecDepth 20000 in
theorem gX7_read_X7_takes : GoodIn wsX7_read (wsV RX7 108 RX7 yX7_takes wsX7_takes) := goodIn_app (goodIn_of _ (by decide +kernel)) ggX7_read_X7_takes
theorem dX7_read_0 : decode cX7_read 0 = .ok (.aload_n 0, 1) := by decide +kernel
theorem dX7_read_1 : decode cX7_read 1 = .ok (.iconst 0, 1) := by decide +kernel
theorem dX7_read_2 : decode cX7_read 2 = .ok (.putfield 69, 3) := by decide +kernel
theorem dX7_read_5 : decode cX7_read 5 = .ok (.aload_n 0, 1) := by decide +kernel
theorem dX7_read_6 : decode cX7_read 6 = .ok (.iconst 0, 1) := by decide +kernel
theorem dX7_read_7 : decode cX7_read 7 = .ok (.putfield 72, 3) := by decide +kernel
theorem dX7_read_10 : decode cX7_read 10 = .ok (.iconst 0, 1) := by decide +kernel
theorem dX7_read_11 : decode cX7_read 11 = .ok (.istore_n 1, 1) := by decide +kernel
theorem dX7_read_12 : decode cX7_read 12 = .ok (.iload_n 1, 1) := by decide +kernel
theorem dX7_read_13 : decode cX7_read 13 = .ok (.aload_n 0, 1) := by decide +kernel
theorem dX7_read_14 : decode cX7_read 14 = .ok (.getfield 62, 3) := by decide +kernel
theorem dX7_read_17 : decode cX7_read 17 = .ok (.if_icmp .ge 22, 3) := by decide +kernel
theorem dX7_read_20 : decode cX7_read 20 = .ok (.aload_n 0, 1) := by decide +kernel
theorem dX7_read_21 : decode cX7_read 21 = .ok (.aload_n 0, 1) := by decide +kernel
theorem dX7_read_22 : decode cX7_read 22 = .ok (.getfield 7, 3) := by decide +kernel
theorem dX7_read_25 : decode cX7_read 25 = .ok (.iload_n 1, 1) := by decide +kernel
theorem dX7_read_26 : decode cX7_read 26 = .ok (.iaload, 1) := by decide +kernel
theorem dX7_read_27 : decode cX7_read 27 = .ok (.invokevirtual 108, 3) := by decide +kernel
theorem dX7_read_30 : decode cX7_read 30 = .ok (.ifCond .eq 9, 3) := by decide +kernel
theorem dX7_read_33 : decode cX7_read 33 = .ok (.iinc 1 1, 3) := by decide +kernel
theorem dX7_read_36 : decode cX7_read 36 = .ok (.goto (-24), 3) := by decide +kernel
theorem dX7_read_39 : decode cX7_read 39 = .ok (.iload_n 1, 1) := by decide +kernel
theorem dX7_read_40 : decode cX7_read 40 = .ok (.ireturn, 1) := by decide +kernel
set_option maxRecDepth 20000 in
theorem ggX7_fault_X7_read : GoodIn wsX7_fault wsX7_read := goodIn_r _ [5, 6, 7, 8, 9, 10, 11, 12, 4, 13, 14, 15, 16, 17, 18, 19, 20, 21, 22, 23, 24, 25, 26, 27, 28, 29, 30, 31, 32, 33, 34, 35, 36, 37, 38, 39, 40, 41, 42, 43, 44, 45, 46, 47, 48, 49, 50, 51, 52, 53, 54, 55, 56, 57, 58, 59, 60, 61, 62, 63, 64, 65, 66, 67, 68, 69, 70, 71, 72, 73, 74, 75, 76, 77, 78, 79, 80, 81, 82, 83, 84, 85, 86, 87, 88, 89, 90, 91, 92, 93, 94, 95, 96, 97] (by decide +kernel) (by decide +kernel)
set_option maxRecDepth 20000 in
theorem gX7_fault_X7_read : GoodIn wsX7_fault (wsV RX7 111 RX7 yX7_read wsX7_read) := goodIn_app (goodIn_of _ (by decide +kernel)) ggX7_fault_X7_read
theorem dX7_fault_0 : decode cX7_fault 0 = .ok (.aload_n 0, 1) := by decide +kernel
theorem dX7_fault_1 : decode cX7_fault 1 = .ok (.invokevirtual 111, 3) := by decide +kernel
theorem dX7_fault_4 : decode cX7_fault 4 = .ok (.ireturn, 1) := by decide +kernel
set_option maxRecDepth 20000 in
theorem ggX7_sheet_X7_read : GoodIn wsX7_sheet wsX7_read := goodIn_r _ [23, 2, 5, 1, 24, 25, 26, 27, 22, 28, 6, 3, 7, 29, 30, 31, 32, 33, 34, 35, 36, 37, 38, 39, 40, 41, 42, 43, 11, 44, 45, 46, 47, 48, 49, 50, 51, 52, 53, 54, 13, 55, 56, 57, 58, 59, 60, 61, 62, 15, 63, 64, 65, 66, 67, 68, 69, 70, 71, 72, 73, 74, 75, 76, 77, 78, 79, 80, 81, 82, 83, 84, 85, 86, 87, 88, 89, 90, 91, 92, 93, 94, 95, 96, 97, 98, 99, 100, 101, 102, 103, 104, 105, 106] (by decide +kernel) (by decide +kernel)
set_option maxRecDepth 20000 in
theorem gX7_sheet_X7_read : GoodIn wsX7_sheet (wsV RX7 111 RX7 yX7_read wsX7_read) := goodIn_app (goodIn_of _ (by decide +kernel)) ggX7_sheet_X7_read
theorem dX7_sheet_0 : decode cX7_sheet 0 = .ok (.aload_n 0, 1) := by decide +kernel
theorem dX7_sheet_1 : decode cX7_sheet 1 = .ok (.invokevirtual 111, 3) := by decide +kernel
theorem dX7_sheet_4 : decode cX7_sheet 4 = .ok (.aload_n 0, 1) := by decide +kernel
theorem dX7_sheet_5 : decode cX7_sheet 5 = .ok (.getfield 62, 3) := by decide +kernel
theorem dX7_sheet_8 : decode cX7_sheet 8 = .ok (.if_icmp .lt 11, 3) := by decide +kernel
theorem dX7_sheet_11 : decode cX7_sheet 11 = .ok (.aload_n 0, 1) := by decide +kernel
theorem dX7_sheet_12 : decode cX7_sheet 12 = .ok (.getfield 69, 3) := by decide +kernel
theorem dX7_sheet_15 : decode cX7_sheet 15 = .ok (.iconst 4, 1) := by decide +kernel
theorem dX7_sheet_16 : decode cX7_sheet 16 = .ok (.if_icmp .eq 6, 3) := by decide +kernel
theorem dX7_sheet_19 : decode cX7_sheet 19 = .ok (.bipush (-103), 2) := by decide +kernel
theorem dX7_sheet_21 : decode cX7_sheet 21 = .ok (.ireturn, 1) := by decide +kernel
theorem dX7_sheet_22 : decode cX7_sheet 22 = .ok (.aload_n 0, 1) := by decide +kernel
theorem dX7_sheet_23 : decode cX7_sheet 23 = .ok (.aload_n 0, 1) := by decide +kernel
theorem dX7_sheet_24 : decode cX7_sheet 24 = .ok (.getfield 79, 3) := by decide +kernel
theorem dX7_sheet_27 : decode cX7_sheet 27 = .ok (.putfield 115, 3) := by decide +kernel
theorem dX7_sheet_30 : decode cX7_sheet 30 = .ok (.aload_n 0, 1) := by decide +kernel
theorem dX7_sheet_31 : decode cX7_sheet 31 = .ok (.aload_n 0, 1) := by decide +kernel
theorem dX7_sheet_32 : decode cX7_sheet 32 = .ok (.getfield 72, 3) := by decide +kernel
theorem dX7_sheet_35 : decode cX7_sheet 35 = .ok (.ifCond .ne 10, 3) := by decide +kernel
theorem dX7_sheet_38 : decode cX7_sheet 38 = .ok (.aload_n 0, 1) := by decide +kernel
theorem dX7_sheet_39 : decode cX7_sheet 39 = .ok (.getfield 66, 3) := by decide +kernel
theorem dX7_sheet_42 : decode cX7_sheet 42 = .ok (.goto 7, 3) := by decide +kernel
theorem dX7_sheet_45 : decode cX7_sheet 45 = .ok (.aload_n 0, 1) := by decide +kernel
theorem dX7_sheet_46 : decode cX7_sheet 46 = .ok (.getfield 85, 3) := by decide +kernel
theorem dX7_sheet_49 : decode cX7_sheet 49 = .ok (.putfield 118, 3) := by decide +kernel
theorem dX7_sheet_52 : decode cX7_sheet 52 = .ok (.aload_n 0, 1) := by decide +kernel
theorem dX7_sheet_53 : decode cX7_sheet 53 = .ok (.aload_n 0, 1) := by decide +kernel
theorem dX7_sheet_54 : decode cX7_sheet 54 = .ok (.getfield 72, 3) := by decide +kernel
theorem dX7_sheet_57 : decode cX7_sheet 57 = .ok (.putfield 121, 3) := by decide +kernel
theorem dX7_sheet_60 : decode cX7_sheet 60 = .ok (.iconst 0, 1) := by decide +kernel
theorem dX7_sheet_61 : decode cX7_sheet 61 = .ok (.istore_n 1, 1) := by decide +kernel
theorem dX7_sheet_62 : decode cX7_sheet 62 = .ok (.iload_n 1, 1) := by decide +kernel
theorem dX7_sheet_63 : decode cX7_sheet 63 = .ok (.aload_n 0, 1) := by decide +kernel
theorem dX7_sheet_64 : decode cX7_sheet 64 = .ok (.getfield 121, 3) := by decide +kernel
theorem dX7_sheet_67 : decode cX7_sheet 67 = .ok (.if_icmp .ge 45, 3) := by decide +kernel
theorem dX7_sheet_70 : decode cX7_sheet 70 = .ok (.aload_n 0, 1) := by decide +kernel
theorem dX7_sheet_71 : decode cX7_sheet 71 = .ok (.getfield 13, 3) := by decide +kernel
theorem dX7_sheet_74 : decode cX7_sheet 74 = .ok (.iload_n 1, 1) := by decide +kernel
theorem dX7_sheet_75 : decode cX7_sheet 75 = .ok (.aload_n 0, 1) := by decide +kernel
theorem dX7_sheet_76 : decode cX7_sheet 76 = .ok (.getfield 37, 3) := by decide +kernel
theorem dX7_sheet_79 : decode cX7_sheet 79 = .ok (.iload_n 1, 1) := by decide +kernel
theorem dX7_sheet_80 : decode cX7_sheet 80 = .ok (.iaload, 1) := by decide +kernel
theorem dX7_sheet_81 : decode cX7_sheet 81 = .ok (.iastore, 1) := by decide +kernel
theorem dX7_sheet_82 : decode cX7_sheet 82 = .ok (.aload_n 0, 1) := by decide +kernel
theorem dX7_sheet_83 : decode cX7_sheet 83 = .ok (.getfield 16, 3) := by decide +kernel
theorem dX7_sheet_86 : decode cX7_sheet 86 = .ok (.iload_n 1, 1) := by decide +kernel
theorem dX7_sheet_87 : decode cX7_sheet 87 = .ok (.aload_n 0, 1) := by decide +kernel
theorem dX7_sheet_88 : decode cX7_sheet 88 = .ok (.getfield 40, 3) := by decide +kernel
theorem dX7_sheet_91 : decode cX7_sheet 91 = .ok (.iload_n 1, 1) := by decide +kernel
theorem dX7_sheet_92 : decode cX7_sheet 92 = .ok (.iaload, 1) := by decide +kernel
theorem dX7_sheet_93 : decode cX7_sheet 93 = .ok (.iastore, 1) := by decide +kernel
theorem dX7_sheet_94 : decode cX7_sheet 94 = .ok (.aload_n 0, 1) := by decide +kernel
theorem dX7_sheet_95 : decode cX7_sheet 95 = .ok (.getfield 19, 3) := by decide +kernel
theorem dX7_sheet_98 : decode cX7_sheet 98 = .ok (.iload_n 1, 1) := by decide +kernel
theorem dX7_sheet_99 : decode cX7_sheet 99 = .ok (.aload_n 0, 1) := by decide +kernel
theorem dX7_sheet_100 : decode cX7_sheet 100 = .ok (.getfield 43, 3) := by decide +kernel
theorem dX7_sheet_103 : decode cX7_sheet 103 = .ok (.iload_n 1, 1) := by decide +kernel
theorem dX7_sheet_104 : decode cX7_sheet 104 = .ok (.iaload, 1) := by decide +kernel
theorem dX7_sheet_105 : decode cX7_sheet 105 = .ok (.iastore, 1) := by decide +kernel
theorem dX7_sheet_106 : decode cX7_sheet 106 = .ok (.iinc 1 1, 3) := by decide +kernel
theorem dX7_sheet_109 : decode cX7_sheet 109 = .ok (.goto (-47), 3) := by decide +kernel
theorem dX7_sheet_112 : decode cX7_sheet 112 = .ok (.aload_n 0, 1) := by decide +kernel
theorem dX7_sheet_113 : decode cX7_sheet 113 = .ok (.getfield 22, 3) := by decide +kernel
theorem dX7_sheet_116 : decode cX7_sheet 116 = .ok (.iconst 0, 1) := by decide +kernel
theorem dX7_sheet_117 : decode cX7_sheet 117 = .ok (.iconst 2, 1) := by decide +kernel
theorem dX7_sheet_118 : decode cX7_sheet 118 = .ok (.iastore, 1) := by decide +kernel
theorem dX7_sheet_119 : decode cX7_sheet 119 = .ok (.aload_n 0, 1) := by decide +kernel
theorem dX7_sheet_120 : decode cX7_sheet 120 = .ok (.getfield 22, 3) := by decide +kernel
theorem dX7_sheet_123 : decode cX7_sheet 123 = .ok (.iconst 1, 1) := by decide +kernel
theorem dX7_sheet_124 : decode cX7_sheet 124 = .ok (.bipush 12, 2) := by decide +kernel
theorem dX7_sheet_126 : decode cX7_sheet 126 = .ok (.iastore, 1) := by decide +kernel
theorem dX7_sheet_127 : decode cX7_sheet 127 = .ok (.aload_n 0, 1) := by decide +kernel
theorem dX7_sheet_128 : decode cX7_sheet 128 = .ok (.getfield 22, 3) := by decide +kernel
theorem dX7_sheet_131 : decode cX7_sheet 131 = .ok (.iconst 2, 1) := by decide +kernel
theorem dX7_sheet_132 : decode cX7_sheet 132 = .ok (.iconst 1, 1) := by decide +kernel
theorem dX7_sheet_133 : decode cX7_sheet 133 = .ok (.iastore, 1) := by decide +kernel
theorem dX7_sheet_134 : decode cX7_sheet 134 = .ok (.aload_n 0, 1) := by decide +kernel
theorem dX7_sheet_135 : decode cX7_sheet 135 = .ok (.getfield 22, 3) := by decide +kernel
theorem dX7_sheet_138 : decode cX7_sheet 138 = .ok (.iconst 3, 1) := by decide +kernel
theorem dX7_sheet_139 : decode cX7_sheet 139 = .ok (.iconst 4, 1) := by decide +kernel
theorem dX7_sheet_140 : decode cX7_sheet 140 = .ok (.iastore, 1) := by decide +kernel
theorem dX7_sheet_141 : decode cX7_sheet 141 = .ok (.aload_n 0, 1) := by decide +kernel
theorem dX7_sheet_142 : decode cX7_sheet 142 = .ok (.getfield 22, 3) := by decide +kernel
theorem dX7_sheet_145 : decode cX7_sheet 145 = .ok (.iconst 4, 1) := by decide +kernel
theorem dX7_sheet_146 : decode cX7_sheet 146 = .ok (.iconst 3, 1) := by decide +kernel
theorem dX7_sheet_147 : decode cX7_sheet 147 = .ok (.iastore, 1) := by decide +kernel
theorem dX7_sheet_148 : decode cX7_sheet 148 = .ok (.aload_n 0, 1) := by decide +kernel
theorem dX7_sheet_149 : decode cX7_sheet 149 = .ok (.iconst 0, 1) := by decide +kernel
theorem dX7_sheet_150 : decode cX7_sheet 150 = .ok (.putfield 124, 3) := by decide +kernel
theorem dX7_sheet_153 : decode cX7_sheet 153 = .ok (.aload_n 0, 1) := by decide +kernel
theorem dX7_sheet_154 : decode cX7_sheet 154 = .ok (.dup, 1) := by decide +kernel
theorem dX7_sheet_155 : decode cX7_sheet 155 = .ok (.getfield 128, 3) := by decide +kernel
theorem dX7_sheet_158 : decode cX7_sheet 158 = .ok (.iconst 1, 1) := by decide +kernel
theorem dX7_sheet_159 : decode cX7_sheet 159 = .ok (.iadd, 1) := by decide +kernel
theorem dX7_sheet_160 : decode cX7_sheet 160 = .ok (.putfield 128, 3) := by decide +kernel
theorem dX7_sheet_163 : decode cX7_sheet 163 = .ok (.aload_n 0, 1) := by decide +kernel
theorem dX7_sheet_164 : decode cX7_sheet 164 = .ok (.iconst 0, 1) := by decide +kernel
theorem dX7_sheet_165 : decode cX7_sheet 165 = .ok (.putfield 62, 3) := by decide +kernel
theorem dX7_sheet_168 : decode cX7_sheet 168 = .ok (.aload_n 0, 1) := by decide +kernel
theorem dX7_sheet_169 : decode cX7_sheet 169 = .ok (.getfield 121, 3) := by decide +kernel
theorem dX7_sheet_172 : decode cX7_sheet 172 = .ok (.ireturn, 1) := by decide +kernel
theorem dX7_isSheet_0 : decode cX7_isSheet 0 = .ok (.aload_n 0, 1) := by decide +kernel
theorem dX7_isSheet_1 : decode cX7_isSheet 1 = .ok (.getfield 115, 3) := by decide +kernel
theorem dX7_isSheet_4 : decode cX7_isSheet 4 = .ok (.ifCond .le 7, 3) := by decide +kernel
theorem dX7_isSheet_7 : decode cX7_isSheet 7 = .ok (.iconst 1, 1) := by decide +kernel
theorem dX7_isSheet_8 : decode cX7_isSheet 8 = .ok (.goto 4, 3) := by decide +kernel
theorem dX7_isSheet_11 : decode cX7_isSheet 11 = .ok (.iconst 0, 1) := by decide +kernel
theorem dX7_isSheet_12 : decode cX7_isSheet 12 = .ok (.ireturn, 1) := by decide +kernel
theorem dX7_inkOne_0 : decode cX7_inkOne 0 = .ok (.aload_n 0, 1) := by decide +kernel
theorem dX7_inkOne_1 : decode cX7_inkOne 1 = .ok (.aload_n 0, 1) := by decide +kernel
theorem dX7_inkOne_2 : decode cX7_inkOne 2 = .ok (.getfield 131, 3) := by decide +kernel
theorem dX7_inkOne_5 : decode cX7_inkOne 5 = .ok (.aload_n 0, 1) := by decide +kernel
theorem dX7_inkOne_6 : decode cX7_inkOne 6 = .ok (.getfield 134, 3) := by decide +kernel
theorem dX7_inkOne_9 : decode cX7_inkOne 9 = .ok (.if_icmp .ne 7, 3) := by decide +kernel
theorem dX7_inkOne_12 : decode cX7_inkOne 12 = .ok (.iload_n 1, 1) := by decide +kernel
theorem dX7_inkOne_13 : decode cX7_inkOne 13 = .ok (.goto 7, 3) := by decide +kernel
theorem dX7_inkOne_16 : decode cX7_inkOne 16 = .ok (.aload_n 0, 1) := by decide +kernel
theorem dX7_inkOne_17 : decode cX7_inkOne 17 = .ok (.getfield 137, 3) := by decide +kernel
theorem dX7_inkOne_20 : decode cX7_inkOne 20 = .ok (.putfield 137, 3) := by decide +kernel
theorem dX7_inkOne_23 : decode cX7_inkOne 23 = .ok (.aload_n 0, 1) := by decide +kernel
theorem dX7_inkOne_24 : decode cX7_inkOne 24 = .ok (.dup, 1) := by decide +kernel
theorem dX7_inkOne_25 : decode cX7_inkOne 25 = .ok (.getfield 131, 3) := by decide +kernel
theorem dX7_inkOne_28 : decode cX7_inkOne 28 = .ok (.iconst 1, 1) := by decide +kernel
theorem dX7_inkOne_29 : decode cX7_inkOne 29 = .ok (.iadd, 1) := by decide +kernel
theorem dX7_inkOne_30 : decode cX7_inkOne 30 = .ok (.putfield 131, 3) := by decide +kernel
theorem dX7_inkOne_33 : decode cX7_inkOne 33 = .ok (.return_, 1) := by decide +kernel
set_option maxRecDepth 20000 in
theorem ggX7_inkSide_X7_inkOne : GoodIn wsX7_inkSide wsX7_inkOne := goodIn_r _ [5, 6, 7, 8, 9, 10, 11, 12, 13, 14, 15, 16, 17, 18, 19, 20, 21, 22, 23, 24, 25, 26, 27, 28, 29, 30, 31, 32, 33, 34, 35, 36, 37, 38, 39, 40, 41, 42, 43, 44, 45, 46, 47, 48, 49, 50, 51, 52] (by decide +kernel) (by decide +kernel)
set_option maxRecDepth 20000 in
theorem gX7_inkSide_X7_inkOne : GoodIn wsX7_inkSide (wsV RX7 140 RX7 yX7_inkOne wsX7_inkOne) := goodIn_app (goodIn_of _ (by decide +kernel)) ggX7_inkSide_X7_inkOne
theorem dX7_inkSide_0 : decode cX7_inkSide 0 = .ok (.iload_n 1, 1) := by decide +kernel
theorem dX7_inkSide_1 : decode cX7_inkSide 1 = .ok (.bipush 9, 2) := by decide +kernel
theorem dX7_inkSide_3 : decode cX7_inkSide 3 = .ok (.if_icmp .le 14, 3) := by decide +kernel
theorem dX7_inkSide_6 : decode cX7_inkSide 6 = .ok (.aload_n 0, 1) := by decide +kernel
theorem dX7_inkSide_7 : decode cX7_inkSide 7 = .ok (.bipush 48, 2) := by decide +kernel
theorem dX7_inkSide_9 : decode cX7_inkSide 9 = .ok (.iload_n 1, 1) := by decide +kernel
theorem dX7_inkSide_10 : decode cX7_inkSide 10 = .ok (.bipush 10, 2) := by decide +kernel
theorem dX7_inkSide_12 : decode cX7_inkSide 12 = .ok (.idiv, 1) := by decide +kernel
theorem dX7_inkSide_13 : decode cX7_inkSide 13 = .ok (.iadd, 1) := by decide +kernel
theorem dX7_inkSide_14 : decode cX7_inkSide 14 = .ok (.invokevirtual 140, 3) := by decide +kernel
theorem dX7_inkSide_17 : decode cX7_inkSide 17 = .ok (.aload_n 0, 1) := by decide +kernel
theorem dX7_inkSide_18 : decode cX7_inkSide 18 = .ok (.bipush 48, 2) := by decide +kernel
theorem dX7_inkSide_20 : decode cX7_inkSide 20 = .ok (.iload_n 1, 1) := by decide +kernel
theorem dX7_inkSide_21 : decode cX7_inkSide 21 = .ok (.bipush 10, 2) := by decide +kernel
theorem dX7_inkSide_23 : decode cX7_inkSide 23 = .ok (.irem, 1) := by decide +kernel
theorem dX7_inkSide_24 : decode cX7_inkSide 24 = .ok (.iadd, 1) := by decide +kernel
theorem dX7_inkSide_25 : decode cX7_inkSide 25 = .ok (.invokevirtual 140, 3) := by decide +kernel
theorem dX7_inkSide_28 : decode cX7_inkSide 28 = .ok (.return_, 1) := by decide +kernel
theorem dX7_codeOf_0 : decode cX7_codeOf 0 = .ok (.iload_n 0, 1) := by decide +kernel
theorem dX7_codeOf_1 : decode cX7_codeOf 1 = .ok (.bipush 10, 2) := by decide +kernel
theorem dX7_codeOf_3 : decode cX7_codeOf 3 = .ok (.if_icmp .ge 10, 3) := by decide +kernel
theorem dX7_codeOf_6 : decode cX7_codeOf 6 = .ok (.bipush 48, 2) := by decide +kernel
theorem dX7_codeOf_8 : decode cX7_codeOf 8 = .ok (.iload_n 0, 1) := by decide +kernel
theorem dX7_codeOf_9 : decode cX7_codeOf 9 = .ok (.iadd, 1) := by decide +kernel
theorem dX7_codeOf_10 : decode cX7_codeOf 10 = .ok (.goto 10, 3) := by decide +kernel
theorem dX7_codeOf_13 : decode cX7_codeOf 13 = .ok (.bipush 97, 2) := by decide +kernel
theorem dX7_codeOf_15 : decode cX7_codeOf 15 = .ok (.iload_n 0, 1) := by decide +kernel
theorem dX7_codeOf_16 : decode cX7_codeOf 16 = .ok (.iadd, 1) := by decide +kernel
theorem dX7_codeOf_17 : decode cX7_codeOf 17 = .ok (.bipush 10, 2) := by decide +kernel
theorem dX7_codeOf_19 : decode cX7_codeOf 19 = .ok (.isub, 1) := by decide +kernel
theorem dX7_codeOf_20 : decode cX7_codeOf 20 = .ok (.ireturn, 1) := by decide +kernel
set_option maxRecDepth 20000 in
theorem ggX7_inkNow_X7_inkSide : GoodIn wsX7_inkNow wsX7_inkSide := goodIn_r _ [14, 15, 16, 17, 13, 18, 2, 1, 3, 22, 23, 24, 25, 26, 27, 28, 29, 30, 31, 32, 33, 34, 35, 36, 37, 38, 39, 40, 41, 42, 43, 44, 45, 46, 47, 48, 49, 50, 51, 52, 53, 54, 55, 56, 57, 58, 59, 60, 61, 62, 63, 64, 65] (by decide +kernel) (by decide +kernel)
set_option maxRecDepth 20000 in
theorem gX7_inkNow_X7_inkSide : GoodIn wsX7_inkNow (wsV RX7 144 RX7 yX7_inkSide wsX7_inkSide) := goodIn_app (goodIn_of _ (by decide +kernel)) ggX7_inkNow_X7_inkSide
set_option maxRecDepth 20000 in
theorem ggX7_inkNow_X7_inkOne : GoodIn wsX7_inkNow wsX7_inkOne := goodIn_r _ [18, 2, 1, 3, 22, 23, 24, 25, 26, 27, 28, 29, 30, 31, 32, 33, 34, 35, 36, 37, 38, 39, 40, 41, 42, 43, 44, 45, 46, 47, 48, 49, 50, 51, 52, 53, 54, 55, 56, 57, 58, 59, 60, 61, 62, 63, 64, 65] (by decide +kernel) (by decide +kernel)
set_option maxRecDepth 20000 in
theorem gX7_inkNow_X7_inkOne : GoodIn wsX7_inkNow (wsV RX7 140 RX7 yX7_inkOne wsX7_inkOne) := goodIn_app (goodIn_of _ (by decide +kernel)) ggX7_inkNow_X7_inkOne
set_option maxRecDepth 20000 in
theorem ggX7_inkNow_X7_codeOf : GoodIn wsX7_inkNow wsX7_codeOf := goodIn_r _ [21] (by decide +kernel) (by decide +kernel)
set_option maxRecDepth 20000 in
theorem gX7_inkNow_X7_codeOf : GoodIn wsX7_inkNow (va_wsS RX7 147 yX7_codeOf wsX7_codeOf) := goodIn_app (goodIn_of _ (by decide +kernel)) ggX7_inkNow_X7_codeOf
theorem dX7_inkNow_0 : decode cX7_inkNow 0 = .ok (.aload_n 0, 1) := by decide +kernel
theorem dX7_inkNow_1 : decode cX7_inkNow 1 = .ok (.iload_n 1, 1) := by decide +kernel
theorem dX7_inkNow_2 : decode cX7_inkNow 2 = .ok (.putfield 134, 3) := by decide +kernel
theorem dX7_inkNow_5 : decode cX7_inkNow 5 = .ok (.aload_n 0, 1) := by decide +kernel
theorem dX7_inkNow_6 : decode cX7_inkNow 6 = .ok (.iconst 0, 1) := by decide +kernel
theorem dX7_inkNow_7 : decode cX7_inkNow 7 = .ok (.putfield 131, 3) := by decide +kernel
theorem dX7_inkNow_10 : decode cX7_inkNow 10 = .ok (.aload_n 0, 1) := by decide +kernel
theorem dX7_inkNow_11 : decode cX7_inkNow 11 = .ok (.iconst (-1), 1) := by decide +kernel
theorem dX7_inkNow_12 : decode cX7_inkNow 12 = .ok (.putfield 137, 3) := by decide +kernel
theorem dX7_inkNow_15 : decode cX7_inkNow 15 = .ok (.aload_n 0, 1) := by decide +kernel
theorem dX7_inkNow_16 : decode cX7_inkNow 16 = .ok (.aload_n 0, 1) := by decide +kernel
theorem dX7_inkNow_17 : decode cX7_inkNow 17 = .ok (.getfield 115, 3) := by decide +kernel
theorem dX7_inkNow_20 : decode cX7_inkNow 20 = .ok (.invokevirtual 144, 3) := by decide +kernel
theorem dX7_inkNow_23 : decode cX7_inkNow 23 = .ok (.aload_n 0, 1) := by decide +kernel
theorem dX7_inkNow_24 : decode cX7_inkNow 24 = .ok (.bipush 120, 2) := by decide +kernel
theorem dX7_inkNow_26 : decode cX7_inkNow 26 = .ok (.invokevirtual 140, 3) := by decide +kernel
theorem dX7_inkNow_29 : decode cX7_inkNow 29 = .ok (.aload_n 0, 1) := by decide +kernel
theorem dX7_inkNow_30 : decode cX7_inkNow 30 = .ok (.aload_n 0, 1) := by decide +kernel
theorem dX7_inkNow_31 : decode cX7_inkNow 31 = .ok (.getfield 118, 3) := by decide +kernel
theorem dX7_inkNow_34 : decode cX7_inkNow 34 = .ok (.invokevirtual 144, 3) := by decide +kernel
theorem dX7_inkNow_37 : decode cX7_inkNow 37 = .ok (.aload_n 0, 1) := by decide +kernel
theorem dX7_inkNow_38 : decode cX7_inkNow 38 = .ok (.bipush 58, 2) := by decide +kernel
theorem dX7_inkNow_40 : decode cX7_inkNow 40 = .ok (.invokevirtual 140, 3) := by decide +kernel
theorem dX7_inkNow_43 : decode cX7_inkNow 43 = .ok (.iconst 0, 1) := by decide +kernel
theorem dX7_inkNow_44 : decode cX7_inkNow 44 = .ok (.istore_n 2, 1) := by decide +kernel
theorem dX7_inkNow_45 : decode cX7_inkNow 45 = .ok (.iload_n 2, 1) := by decide +kernel
theorem dX7_inkNow_46 : decode cX7_inkNow 46 = .ok (.aload_n 0, 1) := by decide +kernel
theorem dX7_inkNow_47 : decode cX7_inkNow 47 = .ok (.getfield 121, 3) := by decide +kernel
theorem dX7_inkNow_50 : decode cX7_inkNow 50 = .ok (.if_icmp .ge 63, 3) := by decide +kernel
theorem dX7_inkNow_53 : decode cX7_inkNow 53 = .ok (.aload_n 0, 1) := by decide +kernel
theorem dX7_inkNow_54 : decode cX7_inkNow 54 = .ok (.aload_n 0, 1) := by decide +kernel
theorem dX7_inkNow_55 : decode cX7_inkNow 55 = .ok (.getfield 13, 3) := by decide +kernel
theorem dX7_inkNow_58 : decode cX7_inkNow 58 = .ok (.iload_n 2, 1) := by decide +kernel
theorem dX7_inkNow_59 : decode cX7_inkNow 59 = .ok (.iaload, 1) := by decide +kernel
theorem dX7_inkNow_60 : decode cX7_inkNow 60 = .ok (.invokestatic 147, 3) := by decide +kernel
theorem dX7_inkNow_63 : decode cX7_inkNow 63 = .ok (.invokevirtual 140, 3) := by decide +kernel
theorem dX7_inkNow_66 : decode cX7_inkNow 66 = .ok (.aload_n 0, 1) := by decide +kernel
theorem dX7_inkNow_67 : decode cX7_inkNow 67 = .ok (.aload_n 0, 1) := by decide +kernel
theorem dX7_inkNow_68 : decode cX7_inkNow 68 = .ok (.getfield 16, 3) := by decide +kernel
theorem dX7_inkNow_71 : decode cX7_inkNow 71 = .ok (.iload_n 2, 1) := by decide +kernel
theorem dX7_inkNow_72 : decode cX7_inkNow 72 = .ok (.iaload, 1) := by decide +kernel
theorem dX7_inkNow_73 : decode cX7_inkNow 73 = .ok (.invokestatic 147, 3) := by decide +kernel
theorem dX7_inkNow_76 : decode cX7_inkNow 76 = .ok (.invokevirtual 140, 3) := by decide +kernel
theorem dX7_inkNow_79 : decode cX7_inkNow 79 = .ok (.aload_n 0, 1) := by decide +kernel
theorem dX7_inkNow_80 : decode cX7_inkNow 80 = .ok (.aload_n 0, 1) := by decide +kernel
theorem dX7_inkNow_81 : decode cX7_inkNow 81 = .ok (.getfield 19, 3) := by decide +kernel
theorem dX7_inkNow_84 : decode cX7_inkNow 84 = .ok (.iload_n 2, 1) := by decide +kernel
theorem dX7_inkNow_85 : decode cX7_inkNow 85 = .ok (.iaload, 1) := by decide +kernel
theorem dX7_inkNow_86 : decode cX7_inkNow 86 = .ok (.iconst (-1), 1) := by decide +kernel
theorem dX7_inkNow_87 : decode cX7_inkNow 87 = .ok (.if_icmp .ne 8, 3) := by decide +kernel
theorem dX7_inkNow_90 : decode cX7_inkNow 90 = .ok (.bipush 45, 2) := by decide +kernel
theorem dX7_inkNow_92 : decode cX7_inkNow 92 = .ok (.goto 12, 3) := by decide +kernel
theorem dX7_inkNow_95 : decode cX7_inkNow 95 = .ok (.bipush 48, 2) := by decide +kernel
theorem dX7_inkNow_97 : decode cX7_inkNow 97 = .ok (.aload_n 0, 1) := by decide +kernel
theorem dX7_inkNow_98 : decode cX7_inkNow 98 = .ok (.getfield 19, 3) := by decide +kernel
theorem dX7_inkNow_101 : decode cX7_inkNow 101 = .ok (.iload_n 2, 1) := by decide +kernel
theorem dX7_inkNow_102 : decode cX7_inkNow 102 = .ok (.iaload, 1) := by decide +kernel
theorem dX7_inkNow_103 : decode cX7_inkNow 103 = .ok (.iadd, 1) := by decide +kernel
theorem dX7_inkNow_104 : decode cX7_inkNow 104 = .ok (.invokevirtual 140, 3) := by decide +kernel
theorem dX7_inkNow_107 : decode cX7_inkNow 107 = .ok (.iinc 2 1, 3) := by decide +kernel
theorem dX7_inkNow_110 : decode cX7_inkNow 110 = .ok (.goto (-65), 3) := by decide +kernel
theorem dX7_inkNow_113 : decode cX7_inkNow 113 = .ok (.aload_n 0, 1) := by decide +kernel
theorem dX7_inkNow_114 : decode cX7_inkNow 114 = .ok (.getfield 137, 3) := by decide +kernel
theorem dX7_inkNow_117 : decode cX7_inkNow 117 = .ok (.ireturn, 1) := by decide +kernel
set_option maxRecDepth 20000 in
theorem ggX7_ink_X7_isSheet : GoodIn wsX7_ink wsX7_isSheet := goodIn_r _ [5, 6, 30, 31, 32, 33, 34, 35, 36, 37, 38, 39, 40, 41, 42, 43, 44, 45, 46, 47, 48, 49, 50, 51, 52, 53, 54, 55, 56, 57, 58, 59, 60, 61, 62, 63, 64, 65, 66, 67, 68, 69, 70, 71, 72, 73] (by decide +kernel) (by decide +kernel)
set_option maxRecDepth 20000 in
theorem gX7_ink_X7_isSheet : GoodIn wsX7_ink (wsV RX7 150 RX7 yX7_isSheet wsX7_isSheet) := goodIn_app (goodIn_of _ (by decide +kernel)) ggX7_ink_X7_isSheet
set_option maxRecDepth 20000 in
theorem ggX7_ink_X7_inkNow : GoodIn wsX7_ink wsX7_inkNow := goodIn_r _ [10, 11, 12, 13, 6, 14, 15, 16, 17, 18, 19, 20, 21, 4, 22, 23, 24, 25, 26, 27, 28, 29, 30, 31, 32, 33, 34, 35, 36, 37, 38, 39, 40, 41, 42, 43, 44, 45, 46, 47, 48, 49, 50, 51, 52, 53, 54, 55, 56, 57, 58, 59, 60, 61, 62, 63, 64, 65, 66, 67, 68, 69, 70, 71, 72, 73] (by decide +kernel) (by decide +kernel)
set_option maxRecDepth 20000 in
theorem gX7_ink_X7_inkNow : GoodIn wsX7_ink (wsV RX7 154 RX7 yX7_inkNow wsX7_inkNow) := goodIn_app (goodIn_of _ (by decide +kernel)) ggX7_ink_X7_inkNow
theorem dX7_ink_0 : decode cX7_ink 0 = .ok (.aload_n 0, 1) := by decide +kernel
theorem dX7_ink_1 : decode cX7_ink 1 = .ok (.invokevirtual 150, 3) := by decide +kernel
theorem dX7_ink_4 : decode cX7_ink 4 = .ok (.ifCond .ne 6, 3) := by decide +kernel
theorem dX7_ink_7 : decode cX7_ink 7 = .ok (.bipush (-103), 2) := by decide +kernel
theorem dX7_ink_9 : decode cX7_ink 9 = .ok (.ireturn, 1) := by decide +kernel
theorem dX7_ink_10 : decode cX7_ink 10 = .ok (.iload_n 1, 1) := by decide +kernel
theorem dX7_ink_11 : decode cX7_ink 11 = .ok (.ifCond .ge 8, 3) := by decide +kernel
theorem dX7_ink_14 : decode cX7_ink 14 = .ok (.bipush (-101), 2) := by decide +kernel
theorem dX7_ink_16 : decode cX7_ink 16 = .ok (.goto 8, 3) := by decide +kernel
theorem dX7_ink_19 : decode cX7_ink 19 = .ok (.aload_n 0, 1) := by decide +kernel
theorem dX7_ink_20 : decode cX7_ink 20 = .ok (.iload_n 1, 1) := by decide +kernel
theorem dX7_ink_21 : decode cX7_ink 21 = .ok (.invokevirtual 154, 3) := by decide +kernel
theorem dX7_ink_24 : decode cX7_ink 24 = .ok (.ireturn, 1) := by decide +kernel
set_option maxRecDepth 20000 in
theorem ggX7_isOn_X7_within : GoodIn wsX7_isOn wsX7_within := goodIn_r _ [6] (by decide +kernel) (by decide +kernel)
set_option maxRecDepth 20000 in
theorem gX7_isOn_X7_within : GoodIn wsX7_isOn (va_wsS RX7 58 yX7_within wsX7_within) := goodIn_app (goodIn_of _ (by decide +kernel)) ggX7_isOn_X7_within
theorem dX7_isOn_0 : decode cX7_isOn 0 = .ok (.iload_n 1, 1) := by decide +kernel
theorem dX7_isOn_1 : decode cX7_isOn 1 = .ok (.iconst 0, 1) := by decide +kernel
theorem dX7_isOn_2 : decode cX7_isOn 2 = .ok (.aload_n 0, 1) := by decide +kernel
theorem dX7_isOn_3 : decode cX7_isOn 3 = .ok (.getfield 115, 3) := by decide +kernel
theorem dX7_isOn_6 : decode cX7_isOn 6 = .ok (.iconst 1, 1) := by decide +kernel
theorem dX7_isOn_7 : decode cX7_isOn 7 = .ok (.isub, 1) := by decide +kernel
theorem dX7_isOn_8 : decode cX7_isOn 8 = .ok (.invokestatic 58, 3) := by decide +kernel
theorem dX7_isOn_11 : decode cX7_isOn 11 = .ok (.ifCond .eq 21, 3) := by decide +kernel
theorem dX7_isOn_14 : decode cX7_isOn 14 = .ok (.iload_n 2, 1) := by decide +kernel
theorem dX7_isOn_15 : decode cX7_isOn 15 = .ok (.iconst 0, 1) := by decide +kernel
theorem dX7_isOn_16 : decode cX7_isOn 16 = .ok (.aload_n 0, 1) := by decide +kernel
theorem dX7_isOn_17 : decode cX7_isOn 17 = .ok (.getfield 118, 3) := by decide +kernel
theorem dX7_isOn_20 : decode cX7_isOn 20 = .ok (.iconst 1, 1) := by decide +kernel
theorem dX7_isOn_21 : decode cX7_isOn 21 = .ok (.isub, 1) := by decide +kernel
theorem dX7_isOn_22 : decode cX7_isOn 22 = .ok (.invokestatic 58, 3) := by decide +kernel
theorem dX7_isOn_25 : decode cX7_isOn 25 = .ok (.ifCond .eq 7, 3) := by decide +kernel
theorem dX7_isOn_28 : decode cX7_isOn 28 = .ok (.iconst 1, 1) := by decide +kernel
theorem dX7_isOn_29 : decode cX7_isOn 29 = .ok (.goto 4, 3) := by decide +kernel
theorem dX7_isOn_32 : decode cX7_isOn 32 = .ok (.iconst 0, 1) := by decide +kernel
theorem dX7_isOn_33 : decode cX7_isOn 33 = .ok (.ireturn, 1) := by decide +kernel
theorem dX7_isTaken_0 : decode cX7_isTaken 0 = .ok (.iconst 0, 1) := by decide +kernel
theorem dX7_isTaken_1 : decode cX7_isTaken 1 = .ok (.istore_n 3, 1) := by decide +kernel
theorem dX7_isTaken_2 : decode cX7_isTaken 2 = .ok (.iconst 0, 1) := by decide +kernel
theorem dX7_isTaken_3 : decode cX7_isTaken 3 = .ok (.istore 4, 2) := by decide +kernel
theorem dX7_isTaken_5 : decode cX7_isTaken 5 = .ok (.iload 4, 2) := by decide +kernel
theorem dX7_isTaken_7 : decode cX7_isTaken 7 = .ok (.aload_n 0, 1) := by decide +kernel
theorem dX7_isTaken_8 : decode cX7_isTaken 8 = .ok (.getfield 121, 3) := by decide +kernel
theorem dX7_isTaken_11 : decode cX7_isTaken 11 = .ok (.if_icmp .ge 41, 3) := by decide +kernel
theorem dX7_isTaken_14 : decode cX7_isTaken 14 = .ok (.iload_n 3, 1) := by decide +kernel
theorem dX7_isTaken_15 : decode cX7_isTaken 15 = .ok (.ifCond .ne 25, 3) := by decide +kernel
theorem dX7_isTaken_18 : decode cX7_isTaken 18 = .ok (.aload_n 0, 1) := by decide +kernel
theorem dX7_isTaken_19 : decode cX7_isTaken 19 = .ok (.getfield 13, 3) := by decide +kernel
theorem dX7_isTaken_22 : decode cX7_isTaken 22 = .ok (.iload 4, 2) := by decide +kernel
theorem dX7_isTaken_24 : decode cX7_isTaken 24 = .ok (.iaload, 1) := by decide +kernel
theorem dX7_isTaken_25 : decode cX7_isTaken 25 = .ok (.iload_n 1, 1) := by decide +kernel
theorem dX7_isTaken_26 : decode cX7_isTaken 26 = .ok (.if_icmp .ne 18, 3) := by decide +kernel
theorem dX7_isTaken_29 : decode cX7_isTaken 29 = .ok (.aload_n 0, 1) := by decide +kernel
theorem dX7_isTaken_30 : decode cX7_isTaken 30 = .ok (.getfield 16, 3) := by decide +kernel
theorem dX7_isTaken_33 : decode cX7_isTaken 33 = .ok (.iload 4, 2) := by decide +kernel
theorem dX7_isTaken_35 : decode cX7_isTaken 35 = .ok (.iaload, 1) := by decide +kernel
theorem dX7_isTaken_36 : decode cX7_isTaken 36 = .ok (.iload_n 2, 1) := by decide +kernel
theorem dX7_isTaken_37 : decode cX7_isTaken 37 = .ok (.if_icmp .ne 7, 3) := by decide +kernel
theorem dX7_isTaken_40 : decode cX7_isTaken 40 = .ok (.iconst 1, 1) := by decide +kernel
theorem dX7_isTaken_41 : decode cX7_isTaken 41 = .ok (.goto 4, 3) := by decide +kernel
theorem dX7_isTaken_44 : decode cX7_isTaken 44 = .ok (.iconst 0, 1) := by decide +kernel
theorem dX7_isTaken_45 : decode cX7_isTaken 45 = .ok (.istore_n 3, 1) := by decide +kernel
theorem dX7_isTaken_46 : decode cX7_isTaken 46 = .ok (.iinc 4 1, 3) := by decide +kernel
theorem dX7_isTaken_49 : decode cX7_isTaken 49 = .ok (.goto (-44), 3) := by decide +kernel
theorem dX7_isTaken_52 : decode cX7_isTaken 52 = .ok (.iload_n 3, 1) := by decide +kernel
theorem dX7_isTaken_53 : decode cX7_isTaken 53 = .ok (.ireturn, 1) := by decide +kernel
set_option maxRecDepth 20000 in
theorem ggX7_isDot_X7_isSheet : GoodIn wsX7_isDot wsX7_isSheet := goodIn_r _ [6, 7, 11, 12, 13, 14, 15, 16, 17, 18, 19, 20, 21, 22, 23, 24, 25, 26, 27, 28, 29, 30, 31, 32, 33, 34, 35, 36, 37, 38, 39, 40, 41, 42, 43, 44, 45, 46, 47, 48, 49, 50, 51, 52, 53, 54] (by decide +kernel) (by decide +kernel)
set_option maxRecDepth 20000 in
theorem gX7_isDot_X7_isSheet : GoodIn wsX7_isDot (wsV RX7 150 RX7 yX7_isSheet wsX7_isSheet) := goodIn_app (goodIn_of _ (by decide +kernel)) ggX7_isDot_X7_isSheet
set_option maxRecDepth 20000 in
theorem ggX7_isDot_X7_within : GoodIn wsX7_isDot wsX7_within := goodIn_r _ [10] (by decide +kernel) (by decide +kernel)
set_option maxRecDepth 20000 in
theorem gX7_isDot_X7_within : GoodIn wsX7_isDot (va_wsS RX7 58 yX7_within wsX7_within) := goodIn_app (goodIn_of _ (by decide +kernel)) ggX7_isDot_X7_within
theorem dX7_isDot_0 : decode cX7_isDot 0 = .ok (.aload_n 0, 1) := by decide +kernel
theorem dX7_isDot_1 : decode cX7_isDot 1 = .ok (.invokevirtual 150, 3) := by decide +kernel
theorem dX7_isDot_4 : decode cX7_isDot 4 = .ok (.ifCond .eq 21, 3) := by decide +kernel
theorem dX7_isDot_7 : decode cX7_isDot 7 = .ok (.iload_n 1, 1) := by decide +kernel
theorem dX7_isDot_8 : decode cX7_isDot 8 = .ok (.iconst 0, 1) := by decide +kernel
theorem dX7_isDot_9 : decode cX7_isDot 9 = .ok (.aload_n 0, 1) := by decide +kernel
theorem dX7_isDot_10 : decode cX7_isDot 10 = .ok (.getfield 121, 3) := by decide +kernel
theorem dX7_isDot_13 : decode cX7_isDot 13 = .ok (.iconst 1, 1) := by decide +kernel
theorem dX7_isDot_14 : decode cX7_isDot 14 = .ok (.isub, 1) := by decide +kernel
theorem dX7_isDot_15 : decode cX7_isDot 15 = .ok (.invokestatic 58, 3) := by decide +kernel
theorem dX7_isDot_18 : decode cX7_isDot 18 = .ok (.ifCond .eq 7, 3) := by decide +kernel
theorem dX7_isDot_21 : decode cX7_isDot 21 = .ok (.iconst 1, 1) := by decide +kernel
theorem dX7_isDot_22 : decode cX7_isDot 22 = .ok (.goto 4, 3) := by decide +kernel
theorem dX7_isDot_25 : decode cX7_isDot 25 = .ok (.iconst 0, 1) := by decide +kernel
theorem dX7_isDot_26 : decode cX7_isDot 26 = .ok (.ireturn, 1) := by decide +kernel
theorem dX7_comes_0 : decode cX7_comes 0 = .ok (.aload_n 0, 1) := by decide +kernel
theorem dX7_comes_1 : decode cX7_comes 1 = .ok (.getfield 13, 3) := by decide +kernel
theorem dX7_comes_4 : decode cX7_comes 4 = .ok (.aload_n 0, 1) := by decide +kernel
theorem dX7_comes_5 : decode cX7_comes 5 = .ok (.getfield 121, 3) := by decide +kernel
theorem dX7_comes_8 : decode cX7_comes 8 = .ok (.iload_n 1, 1) := by decide +kernel
theorem dX7_comes_9 : decode cX7_comes 9 = .ok (.iastore, 1) := by decide +kernel
theorem dX7_comes_10 : decode cX7_comes 10 = .ok (.aload_n 0, 1) := by decide +kernel
theorem dX7_comes_11 : decode cX7_comes 11 = .ok (.getfield 16, 3) := by decide +kernel
theorem dX7_comes_14 : decode cX7_comes 14 = .ok (.aload_n 0, 1) := by decide +kernel
theorem dX7_comes_15 : decode cX7_comes 15 = .ok (.getfield 121, 3) := by decide +kernel
theorem dX7_comes_18 : decode cX7_comes 18 = .ok (.iload_n 2, 1) := by decide +kernel
theorem dX7_comes_19 : decode cX7_comes 19 = .ok (.iastore, 1) := by decide +kernel
theorem dX7_comes_20 : decode cX7_comes 20 = .ok (.aload_n 0, 1) := by decide +kernel
theorem dX7_comes_21 : decode cX7_comes 21 = .ok (.getfield 19, 3) := by decide +kernel
theorem dX7_comes_24 : decode cX7_comes 24 = .ok (.aload_n 0, 1) := by decide +kernel
theorem dX7_comes_25 : decode cX7_comes 25 = .ok (.getfield 121, 3) := by decide +kernel
theorem dX7_comes_28 : decode cX7_comes 28 = .ok (.iload_n 3, 1) := by decide +kernel
theorem dX7_comes_29 : decode cX7_comes 29 = .ok (.iastore, 1) := by decide +kernel
theorem dX7_comes_30 : decode cX7_comes 30 = .ok (.aload_n 0, 1) := by decide +kernel
theorem dX7_comes_31 : decode cX7_comes 31 = .ok (.dup, 1) := by decide +kernel
theorem dX7_comes_32 : decode cX7_comes 32 = .ok (.getfield 121, 3) := by decide +kernel
theorem dX7_comes_35 : decode cX7_comes 35 = .ok (.iconst 1, 1) := by decide +kernel
theorem dX7_comes_36 : decode cX7_comes 36 = .ok (.iadd, 1) := by decide +kernel
theorem dX7_comes_37 : decode cX7_comes 37 = .ok (.putfield 121, 3) := by decide +kernel
theorem dX7_comes_40 : decode cX7_comes 40 = .ok (.aload_n 0, 1) := by decide +kernel
theorem dX7_comes_41 : decode cX7_comes 41 = .ok (.iconst 0, 1) := by decide +kernel
theorem dX7_comes_42 : decode cX7_comes 42 = .ok (.putfield 124, 3) := by decide +kernel
theorem dX7_comes_45 : decode cX7_comes 45 = .ok (.return_, 1) := by decide +kernel
set_option maxRecDepth 20000 in
theorem ggX7_dot_X7_isSheet : GoodIn wsX7_dot wsX7_isSheet := goodIn_r _ [6, 7, 28, 29, 30, 31, 32, 33, 34, 35, 36, 37, 38, 39, 40, 41, 42, 43, 44, 45, 46, 47, 48, 49, 50, 51, 52, 53, 54, 55, 56, 57, 58, 59, 60, 61, 62, 63, 64, 65, 66, 67, 68, 69, 70, 71] (by decide +kernel) (by decide +kernel)
set_option maxRecDepth 20000 in
theorem gX7_dot_X7_isSheet : GoodIn wsX7_dot (wsV RX7 150 RX7 yX7_isSheet wsX7_isSheet) := goodIn_app (goodIn_of _ (by decide +kernel)) ggX7_dot_X7_isSheet
set_option maxRecDepth 20000 in
theorem ggX7_dot_X7_isOn : GoodIn wsX7_dot wsX7_isOn := goodIn_r _ [11, 7, 12, 13, 14, 5, 15, 28, 29, 30, 31, 32, 33, 34, 35, 36, 37, 38, 39, 40, 41, 42, 43, 44, 45, 46, 47, 48, 49, 50, 51, 52, 53, 54, 55, 56, 57, 58, 59, 60, 61, 62, 63, 64, 65, 66, 67, 68, 69, 70, 71] (by decide +kernel) (by decide +kernel)
set_option maxRecDepth 20000 in
theorem gX7_dot_X7_isOn : GoodIn wsX7_dot (wsV RX7 157 RX7 yX7_isOn wsX7_isOn) := goodIn_app (goodIn_of _ (by decide +kernel)) ggX7_dot_X7_isOn
set_option maxRecDepth 20000 in
theorem ggX7_dot_X7_within : GoodIn wsX7_dot wsX7_within := goodIn_r _ [15] (by decide +kernel) (by decide +kernel)
set_option maxRecDepth 20000 in
theorem gX7_dot_X7_within : GoodIn wsX7_dot (va_wsS RX7 58 yX7_within wsX7_within) := goodIn_app (goodIn_of _ (by decide +kernel)) ggX7_dot_X7_within
set_option maxRecDepth 20000 in
theorem ggX7_dot_X7_isTaken : GoodIn wsX7_dot wsX7_isTaken := goodIn_r _ [19, 1, 20, 21, 28, 29, 30, 31, 32, 33, 34, 35, 36, 37, 38, 39, 40, 41, 42, 43, 44, 45, 46, 47, 48, 49, 50, 51, 52, 53, 54, 55, 56, 57, 58, 59, 60, 61, 62, 63, 64, 65, 66, 67, 68, 69, 70, 71] (by decide +kernel) (by decide +kernel)
set_option maxRecDepth 20000 in
theorem gX7_dot_X7_isTaken : GoodIn wsX7_dot (wsV RX7 160 RX7 yX7_isTaken wsX7_isTaken) := goodIn_app (goodIn_of _ (by decide +kernel)) ggX7_dot_X7_isTaken
set_option maxRecDepth 20000 in
theorem ggX7_dot_X7_comes : GoodIn wsX7_dot wsX7_comes := goodIn_r _ [25, 20, 1, 21, 26, 27, 28, 29, 30, 31, 32, 33, 34, 35, 36, 37, 38, 39, 40, 41, 42, 43, 44, 45, 46, 47, 48, 49, 50, 51, 52, 53, 54, 55, 56, 57, 58, 59, 60, 61, 62, 63, 64, 65, 66, 67, 68, 69, 70, 71] (by decide +kernel) (by decide +kernel)
set_option maxRecDepth 20000 in
theorem gX7_dot_X7_comes : GoodIn wsX7_dot (wsV RX7 163 RX7 yX7_comes wsX7_comes) := goodIn_app (goodIn_of _ (by decide +kernel)) ggX7_dot_X7_comes
theorem dX7_dot_0 : decode cX7_dot 0 = .ok (.aload_n 0, 1) := by decide +kernel
theorem dX7_dot_1 : decode cX7_dot 1 = .ok (.invokevirtual 150, 3) := by decide +kernel
theorem dX7_dot_4 : decode cX7_dot 4 = .ok (.ifCond .ne 6, 3) := by decide +kernel
theorem dX7_dot_7 : decode cX7_dot 7 = .ok (.bipush (-103), 2) := by decide +kernel
theorem dX7_dot_9 : decode cX7_dot 9 = .ok (.ireturn, 1) := by decide +kernel
theorem dX7_dot_10 : decode cX7_dot 10 = .ok (.aload_n 0, 1) := by decide +kernel
theorem dX7_dot_11 : decode cX7_dot 11 = .ok (.iload_n 1, 1) := by decide +kernel
theorem dX7_dot_12 : decode cX7_dot 12 = .ok (.iload_n 2, 1) := by decide +kernel
theorem dX7_dot_13 : decode cX7_dot 13 = .ok (.invokevirtual 157, 3) := by decide +kernel
theorem dX7_dot_16 : decode cX7_dot 16 = .ok (.ifCond .eq 13, 3) := by decide +kernel
theorem dX7_dot_19 : decode cX7_dot 19 = .ok (.iload_n 3, 1) := by decide +kernel
theorem dX7_dot_20 : decode cX7_dot 20 = .ok (.iconst (-1), 1) := by decide +kernel
theorem dX7_dot_21 : decode cX7_dot 21 = .ok (.bipush 7, 2) := by decide +kernel
theorem dX7_dot_23 : decode cX7_dot 23 = .ok (.invokestatic 58, 3) := by decide +kernel
theorem dX7_dot_26 : decode cX7_dot 26 = .ok (.ifCond .ne 6, 3) := by decide +kernel
theorem dX7_dot_29 : decode cX7_dot 29 = .ok (.bipush (-102), 2) := by decide +kernel
theorem dX7_dot_31 : decode cX7_dot 31 = .ok (.ireturn, 1) := by decide +kernel
theorem dX7_dot_32 : decode cX7_dot 32 = .ok (.aload_n 0, 1) := by decide +kernel
theorem dX7_dot_33 : decode cX7_dot 33 = .ok (.iload_n 1, 1) := by decide +kernel
theorem dX7_dot_34 : decode cX7_dot 34 = .ok (.iload_n 2, 1) := by decide +kernel
theorem dX7_dot_35 : decode cX7_dot 35 = .ok (.invokevirtual 160, 3) := by decide +kernel
theorem dX7_dot_38 : decode cX7_dot 38 = .ok (.ifCond .eq 6, 3) := by decide +kernel
theorem dX7_dot_41 : decode cX7_dot 41 = .ok (.bipush (-103), 2) := by decide +kernel
theorem dX7_dot_43 : decode cX7_dot 43 = .ok (.ireturn, 1) := by decide +kernel
theorem dX7_dot_44 : decode cX7_dot 44 = .ok (.aload_n 0, 1) := by decide +kernel
theorem dX7_dot_45 : decode cX7_dot 45 = .ok (.getfield 121, 3) := by decide +kernel
theorem dX7_dot_48 : decode cX7_dot 48 = .ok (.bipush 14, 2) := by decide +kernel
theorem dX7_dot_50 : decode cX7_dot 50 = .ok (.if_icmp .ne 6, 3) := by decide +kernel
theorem dX7_dot_53 : decode cX7_dot 53 = .ok (.bipush (-104), 2) := by decide +kernel
theorem dX7_dot_55 : decode cX7_dot 55 = .ok (.ireturn, 1) := by decide +kernel
theorem dX7_dot_56 : decode cX7_dot 56 = .ok (.aload_n 0, 1) := by decide +kernel
theorem dX7_dot_57 : decode cX7_dot 57 = .ok (.iload_n 1, 1) := by decide +kernel
theorem dX7_dot_58 : decode cX7_dot 58 = .ok (.iload_n 2, 1) := by decide +kernel
theorem dX7_dot_59 : decode cX7_dot 59 = .ok (.iload_n 3, 1) := by decide +kernel
theorem dX7_dot_60 : decode cX7_dot 60 = .ok (.invokevirtual 163, 3) := by decide +kernel
theorem dX7_dot_63 : decode cX7_dot 63 = .ok (.aload_n 0, 1) := by decide +kernel
theorem dX7_dot_64 : decode cX7_dot 64 = .ok (.getfield 121, 3) := by decide +kernel
theorem dX7_dot_67 : decode cX7_dot 67 = .ok (.iconst 1, 1) := by decide +kernel
theorem dX7_dot_68 : decode cX7_dot 68 = .ok (.isub, 1) := by decide +kernel
theorem dX7_dot_69 : decode cX7_dot 69 = .ok (.ireturn, 1) := by decide +kernel
set_option maxRecDepth 20000 in
theorem ggX7_lift_X7_isDot : GoodIn wsX7_lift wsX7_isDot := goodIn_r _ [10, 1, 11, 12, 13, 9, 14, 15, 16, 17, 18, 19, 20, 21, 22, 23, 24, 25, 26, 27, 28, 29, 30, 31, 32, 33, 34, 35, 36, 37, 38, 39, 40, 41, 42, 43, 44, 45, 46, 47, 48, 49, 50, 51, 52, 53, 54, 55, 56, 57, 58, 59, 60, 61, 62] (by decide +kernel) (by decide +kernel)
set_option maxRecDepth 20000 in
theorem gX7_lift_X7_isDot : GoodIn wsX7_lift (wsV RX7 167 RX7 yX7_isDot wsX7_isDot) := goodIn_app (goodIn_of _ (by decide +kernel)) ggX7_lift_X7_isDot
theorem dX7_lift_0 : decode cX7_lift 0 = .ok (.aload_n 0, 1) := by decide +kernel
theorem dX7_lift_1 : decode cX7_lift 1 = .ok (.iload_n 1, 1) := by decide +kernel
theorem dX7_lift_2 : decode cX7_lift 2 = .ok (.invokevirtual 167, 3) := by decide +kernel
theorem dX7_lift_5 : decode cX7_lift 5 = .ok (.ifCond .ne 6, 3) := by decide +kernel
theorem dX7_lift_8 : decode cX7_lift 8 = .ok (.bipush (-101), 2) := by decide +kernel
theorem dX7_lift_10 : decode cX7_lift 10 = .ok (.ireturn, 1) := by decide +kernel
theorem dX7_lift_11 : decode cX7_lift 11 = .ok (.aload_n 0, 1) := by decide +kernel
theorem dX7_lift_12 : decode cX7_lift 12 = .ok (.dup, 1) := by decide +kernel
theorem dX7_lift_13 : decode cX7_lift 13 = .ok (.getfield 121, 3) := by decide +kernel
theorem dX7_lift_16 : decode cX7_lift 16 = .ok (.iconst 1, 1) := by decide +kernel
theorem dX7_lift_17 : decode cX7_lift 17 = .ok (.isub, 1) := by decide +kernel
theorem dX7_lift_18 : decode cX7_lift 18 = .ok (.putfield 121, 3) := by decide +kernel
theorem dX7_lift_21 : decode cX7_lift 21 = .ok (.iload_n 1, 1) := by decide +kernel
theorem dX7_lift_22 : decode cX7_lift 22 = .ok (.istore_n 2, 1) := by decide +kernel
theorem dX7_lift_23 : decode cX7_lift 23 = .ok (.iload_n 2, 1) := by decide +kernel
theorem dX7_lift_24 : decode cX7_lift 24 = .ok (.aload_n 0, 1) := by decide +kernel
theorem dX7_lift_25 : decode cX7_lift 25 = .ok (.getfield 121, 3) := by decide +kernel
theorem dX7_lift_28 : decode cX7_lift 28 = .ok (.if_icmp .ge 51, 3) := by decide +kernel
theorem dX7_lift_31 : decode cX7_lift 31 = .ok (.aload_n 0, 1) := by decide +kernel
theorem dX7_lift_32 : decode cX7_lift 32 = .ok (.getfield 13, 3) := by decide +kernel
theorem dX7_lift_35 : decode cX7_lift 35 = .ok (.iload_n 2, 1) := by decide +kernel
theorem dX7_lift_36 : decode cX7_lift 36 = .ok (.aload_n 0, 1) := by decide +kernel
theorem dX7_lift_37 : decode cX7_lift 37 = .ok (.getfield 13, 3) := by decide +kernel
theorem dX7_lift_40 : decode cX7_lift 40 = .ok (.iload_n 2, 1) := by decide +kernel
theorem dX7_lift_41 : decode cX7_lift 41 = .ok (.iconst 1, 1) := by decide +kernel
theorem dX7_lift_42 : decode cX7_lift 42 = .ok (.iadd, 1) := by decide +kernel
theorem dX7_lift_43 : decode cX7_lift 43 = .ok (.iaload, 1) := by decide +kernel
theorem dX7_lift_44 : decode cX7_lift 44 = .ok (.iastore, 1) := by decide +kernel
theorem dX7_lift_45 : decode cX7_lift 45 = .ok (.aload_n 0, 1) := by decide +kernel
theorem dX7_lift_46 : decode cX7_lift 46 = .ok (.getfield 16, 3) := by decide +kernel
theorem dX7_lift_49 : decode cX7_lift 49 = .ok (.iload_n 2, 1) := by decide +kernel
theorem dX7_lift_50 : decode cX7_lift 50 = .ok (.aload_n 0, 1) := by decide +kernel
theorem dX7_lift_51 : decode cX7_lift 51 = .ok (.getfield 16, 3) := by decide +kernel
theorem dX7_lift_54 : decode cX7_lift 54 = .ok (.iload_n 2, 1) := by decide +kernel
theorem dX7_lift_55 : decode cX7_lift 55 = .ok (.iconst 1, 1) := by decide +kernel
theorem dX7_lift_56 : decode cX7_lift 56 = .ok (.iadd, 1) := by decide +kernel
theorem dX7_lift_57 : decode cX7_lift 57 = .ok (.iaload, 1) := by decide +kernel
theorem dX7_lift_58 : decode cX7_lift 58 = .ok (.iastore, 1) := by decide +kernel
theorem dX7_lift_59 : decode cX7_lift 59 = .ok (.aload_n 0, 1) := by decide +kernel
theorem dX7_lift_60 : decode cX7_lift 60 = .ok (.getfield 19, 3) := by decide +kernel
theorem dX7_lift_63 : decode cX7_lift 63 = .ok (.iload_n 2, 1) := by decide +kernel
theorem dX7_lift_64 : decode cX7_lift 64 = .ok (.aload_n 0, 1) := by decide +kernel
theorem dX7_lift_65 : decode cX7_lift 65 = .ok (.getfield 19, 3) := by decide +kernel
theorem dX7_lift_68 : decode cX7_lift 68 = .ok (.iload_n 2, 1) := by decide +kernel
theorem dX7_lift_69 : decode cX7_lift 69 = .ok (.iconst 1, 1) := by decide +kernel
theorem dX7_lift_70 : decode cX7_lift 70 = .ok (.iadd, 1) := by decide +kernel
theorem dX7_lift_71 : decode cX7_lift 71 = .ok (.iaload, 1) := by decide +kernel
theorem dX7_lift_72 : decode cX7_lift 72 = .ok (.iastore, 1) := by decide +kernel
theorem dX7_lift_73 : decode cX7_lift 73 = .ok (.iinc 2 1, 3) := by decide +kernel
theorem dX7_lift_76 : decode cX7_lift 76 = .ok (.goto (-53), 3) := by decide +kernel
theorem dX7_lift_79 : decode cX7_lift 79 = .ok (.aload_n 0, 1) := by decide +kernel
theorem dX7_lift_80 : decode cX7_lift 80 = .ok (.iconst 0, 1) := by decide +kernel
theorem dX7_lift_81 : decode cX7_lift 81 = .ok (.putfield 124, 3) := by decide +kernel
theorem dX7_lift_84 : decode cX7_lift 84 = .ok (.aload_n 0, 1) := by decide +kernel
theorem dX7_lift_85 : decode cX7_lift 85 = .ok (.getfield 121, 3) := by decide +kernel
theorem dX7_lift_88 : decode cX7_lift 88 = .ok (.ireturn, 1) := by decide +kernel
theorem dX7_turnX_0 : decode cX7_turnX 0 = .ok (.iload_n 0, 1) := by decide +kernel
theorem dX7_turnX_1 : decode cX7_turnX 1 = .ok (.iconst 2, 1) := by decide +kernel
theorem dX7_turnX_2 : decode cX7_turnX 2 = .ok (.if_icmp .eq 9, 3) := by decide +kernel
theorem dX7_turnX_5 : decode cX7_turnX 5 = .ok (.iload_n 0, 1) := by decide +kernel
theorem dX7_turnX_6 : decode cX7_turnX 6 = .ok (.bipush 6, 2) := by decide +kernel
theorem dX7_turnX_8 : decode cX7_turnX 8 = .ok (.if_icmp .ne 7, 3) := by decide +kernel
theorem dX7_turnX_11 : decode cX7_turnX 11 = .ok (.iconst 0, 1) := by decide +kernel
theorem dX7_turnX_12 : decode cX7_turnX 12 = .ok (.goto 19, 3) := by decide +kernel
theorem dX7_turnX_15 : decode cX7_turnX 15 = .ok (.iload_n 0, 1) := by decide +kernel
theorem dX7_turnX_16 : decode cX7_turnX 16 = .ok (.iconst 2, 1) := by decide +kernel
theorem dX7_turnX_17 : decode cX7_turnX 17 = .ok (.if_icmp .le 13, 3) := by decide +kernel
theorem dX7_turnX_20 : decode cX7_turnX 20 = .ok (.iload_n 0, 1) := by decide +kernel
theorem dX7_turnX_21 : decode cX7_turnX 21 = .ok (.bipush 6, 2) := by decide +kernel
theorem dX7_turnX_23 : decode cX7_turnX 23 = .ok (.if_icmp .ge 7, 3) := by decide +kernel
theorem dX7_turnX_26 : decode cX7_turnX 26 = .ok (.iconst (-1), 1) := by decide +kernel
theorem dX7_turnX_27 : decode cX7_turnX 27 = .ok (.goto 4, 3) := by decide +kernel
theorem dX7_turnX_30 : decode cX7_turnX 30 = .ok (.iconst 1, 1) := by decide +kernel
theorem dX7_turnX_31 : decode cX7_turnX 31 = .ok (.ireturn, 1) := by decide +kernel
theorem dX7_turnY_0 : decode cX7_turnY 0 = .ok (.iload_n 0, 1) := by decide +kernel
theorem dX7_turnY_1 : decode cX7_turnY 1 = .ok (.ifCond .eq 8, 3) := by decide +kernel
theorem dX7_turnY_4 : decode cX7_turnY 4 = .ok (.iload_n 0, 1) := by decide +kernel
theorem dX7_turnY_5 : decode cX7_turnY 5 = .ok (.iconst 4, 1) := by decide +kernel
theorem dX7_turnY_6 : decode cX7_turnY 6 = .ok (.if_icmp .ne 7, 3) := by decide +kernel
theorem dX7_turnY_9 : decode cX7_turnY 9 = .ok (.iconst 0, 1) := by decide +kernel
theorem dX7_turnY_10 : decode cX7_turnY 10 = .ok (.goto 13, 3) := by decide +kernel
theorem dX7_turnY_13 : decode cX7_turnY 13 = .ok (.iload_n 0, 1) := by decide +kernel
theorem dX7_turnY_14 : decode cX7_turnY 14 = .ok (.iconst 4, 1) := by decide +kernel
theorem dX7_turnY_15 : decode cX7_turnY 15 = .ok (.if_icmp .ge 7, 3) := by decide +kernel
theorem dX7_turnY_18 : decode cX7_turnY 18 = .ok (.iconst 1, 1) := by decide +kernel
theorem dX7_turnY_19 : decode cX7_turnY 19 = .ok (.goto 4, 3) := by decide +kernel
theorem dX7_turnY_22 : decode cX7_turnY 22 = .ok (.iconst (-1), 1) := by decide +kernel
theorem dX7_turnY_23 : decode cX7_turnY 23 = .ok (.ireturn, 1) := by decide +kernel
set_option maxRecDepth 20000 in
theorem ggX7_comesIfFree_X7_isOn : GoodIn wsX7_comesIfFree wsX7_isOn := goodIn_r _ [6, 7, 8, 9, 10, 5, 11, 24, 25, 26, 27, 28, 29, 30, 31, 32, 33, 34, 35, 36, 37, 38, 39, 40, 41, 42, 43, 44, 45, 46, 47, 48, 49, 50, 51, 52, 53, 54, 55, 56, 57, 58, 59, 60, 61, 62, 63, 64, 65, 66, 67] (by decide +kernel) (by decide +kernel)
set_option maxRecDepth 20000 in
theorem gX7_comesIfFree_X7_isOn : GoodIn wsX7_comesIfFree (wsV RX7 157 RX7 yX7_isOn wsX7_isOn) := goodIn_app (goodIn_of _ (by decide +kernel)) ggX7_comesIfFree_X7_isOn
set_option maxRecDepth 20000 in
theorem ggX7_comesIfFree_X7_isTaken : GoodIn wsX7_comesIfFree wsX7_isTaken := goodIn_r _ [15, 1, 16, 17, 24, 25, 26, 27, 28, 29, 30, 31, 32, 33, 34, 35, 36, 37, 38, 39, 40, 41, 42, 43, 44, 45, 46, 47, 48, 49, 50, 51, 52, 53, 54, 55, 56, 57, 58, 59, 60, 61, 62, 63, 64, 65, 66, 67] (by decide +kernel) (by decide +kernel)
set_option maxRecDepth 20000 in
theorem gX7_comesIfFree_X7_isTaken : GoodIn wsX7_comesIfFree (wsV RX7 160 RX7 yX7_isTaken wsX7_isTaken) := goodIn_app (goodIn_of _ (by decide +kernel)) ggX7_comesIfFree_X7_isTaken
set_option maxRecDepth 20000 in
theorem ggX7_comesIfFree_X7_comes : GoodIn wsX7_comesIfFree wsX7_comes := goodIn_r _ [21, 16, 1, 17, 22, 23, 24, 25, 26, 27, 28, 29, 30, 31, 32, 33, 34, 35, 36, 37, 38, 39, 40, 41, 42, 43, 44, 45, 46, 47, 48, 49, 50, 51, 52, 53, 54, 55, 56, 57, 58, 59, 60, 61, 62, 63, 64, 65, 66, 67] (by decide +kernel) (by decide +kernel)
set_option maxRecDepth 20000 in
theorem gX7_comesIfFree_X7_comes : GoodIn wsX7_comesIfFree (wsV RX7 163 RX7 yX7_comes wsX7_comes) := goodIn_app (goodIn_of _ (by decide +kernel)) ggX7_comesIfFree_X7_comes
theorem dX7_comesIfFree_0 : decode cX7_comesIfFree 0 = .ok (.aload_n 0, 1) := by decide +kernel
theorem dX7_comesIfFree_1 : decode cX7_comesIfFree 1 = .ok (.iload_n 1, 1) := by decide +kernel
theorem dX7_comesIfFree_2 : decode cX7_comesIfFree 2 = .ok (.iload_n 2, 1) := by decide +kernel
theorem dX7_comesIfFree_3 : decode cX7_comesIfFree 3 = .ok (.invokevirtual 157, 3) := by decide +kernel
theorem dX7_comesIfFree_6 : decode cX7_comesIfFree 6 = .ok (.ifCond .eq 25, 3) := by decide +kernel
theorem dX7_comesIfFree_9 : decode cX7_comesIfFree 9 = .ok (.aload_n 0, 1) := by decide +kernel
theorem dX7_comesIfFree_10 : decode cX7_comesIfFree 10 = .ok (.iload_n 1, 1) := by decide +kernel
theorem dX7_comesIfFree_11 : decode cX7_comesIfFree 11 = .ok (.iload_n 2, 1) := by decide +kernel
theorem dX7_comesIfFree_12 : decode cX7_comesIfFree 12 = .ok (.invokevirtual 160, 3) := by decide +kernel
theorem dX7_comesIfFree_15 : decode cX7_comesIfFree 15 = .ok (.ifCond .ne 16, 3) := by decide +kernel
theorem dX7_comesIfFree_18 : decode cX7_comesIfFree 18 = .ok (.aload_n 0, 1) := by decide +kernel
theorem dX7_comesIfFree_19 : decode cX7_comesIfFree 19 = .ok (.getfield 121, 3) := by decide +kernel
theorem dX7_comesIfFree_22 : decode cX7_comesIfFree 22 = .ok (.bipush 14, 2) := by decide +kernel
theorem dX7_comesIfFree_24 : decode cX7_comesIfFree 24 = .ok (.if_icmp .ge 7, 3) := by decide +kernel
theorem dX7_comesIfFree_27 : decode cX7_comesIfFree 27 = .ok (.iconst 1, 1) := by decide +kernel
theorem dX7_comesIfFree_28 : decode cX7_comesIfFree 28 = .ok (.goto 4, 3) := by decide +kernel
theorem dX7_comesIfFree_31 : decode cX7_comesIfFree 31 = .ok (.iconst 0, 1) := by decide +kernel
theorem dX7_comesIfFree_32 : decode cX7_comesIfFree 32 = .ok (.istore 4, 2) := by decide +kernel
theorem dX7_comesIfFree_34 : decode cX7_comesIfFree 34 = .ok (.iload 4, 2) := by decide +kernel
theorem dX7_comesIfFree_36 : decode cX7_comesIfFree 36 = .ok (.ifCond .eq 10, 3) := by decide +kernel
theorem dX7_comesIfFree_39 : decode cX7_comesIfFree 39 = .ok (.aload_n 0, 1) := by decide +kernel
theorem dX7_comesIfFree_40 : decode cX7_comesIfFree 40 = .ok (.iload_n 1, 1) := by decide +kernel
theorem dX7_comesIfFree_41 : decode cX7_comesIfFree 41 = .ok (.iload_n 2, 1) := by decide +kernel
theorem dX7_comesIfFree_42 : decode cX7_comesIfFree 42 = .ok (.iload_n 3, 1) := by decide +kernel
theorem dX7_comesIfFree_43 : decode cX7_comesIfFree 43 = .ok (.invokevirtual 163, 3) := by decide +kernel
theorem dX7_comesIfFree_46 : decode cX7_comesIfFree 46 = .ok (.iload 4, 2) := by decide +kernel
theorem dX7_comesIfFree_48 : decode cX7_comesIfFree 48 = .ok (.ireturn, 1) := by decide +kernel
theorem dX7_stepsOf_0 : decode cX7_stepsOf 0 = .ok (.iload_n 1, 1) := by decide +kernel
theorem dX7_stepsOf_1 : decode cX7_stepsOf 1 = .ok (.istore_n 2, 1) := by decide +kernel
theorem dX7_stepsOf_2 : decode cX7_stepsOf 2 = .ok (.iload_n 0, 1) := by decide +kernel
theorem dX7_stepsOf_3 : decode cX7_stepsOf 3 = .ok (.iconst 2, 1) := by decide +kernel
theorem dX7_stepsOf_4 : decode cX7_stepsOf 4 = .ok (.irem, 1) := by decide +kernel
theorem dX7_stepsOf_5 : decode cX7_stepsOf 5 = .ok (.iconst 1, 1) := by decide +kernel
theorem dX7_stepsOf_6 : decode cX7_stepsOf 6 = .ok (.if_icmp .ne 20, 3) := by decide +kernel
theorem dX7_stepsOf_9 : decode cX7_stepsOf 9 = .ok (.iconst 2, 1) := by decide +kernel
theorem dX7_stepsOf_10 : decode cX7_stepsOf 10 = .ok (.iload_n 2, 1) := by decide +kernel
theorem dX7_stepsOf_11 : decode cX7_stepsOf 11 = .ok (.imul, 1) := by decide +kernel
theorem dX7_stepsOf_12 : decode cX7_stepsOf 12 = .ok (.iload_n 2, 1) := by decide +kernel
theorem dX7_stepsOf_13 : decode cX7_stepsOf 13 = .ok (.imul, 1) := by decide +kernel
theorem dX7_stepsOf_14 : decode cX7_stepsOf 14 = .ok (.iload_n 1, 1) := by decide +kernel
theorem dX7_stepsOf_15 : decode cX7_stepsOf 15 = .ok (.iload_n 1, 1) := by decide +kernel
theorem dX7_stepsOf_16 : decode cX7_stepsOf 16 = .ok (.imul, 1) := by decide +kernel
theorem dX7_stepsOf_17 : decode cX7_stepsOf 17 = .ok (.if_icmp .le 9, 3) := by decide +kernel
theorem dX7_stepsOf_20 : decode cX7_stepsOf 20 = .ok (.iinc 2 (-1), 3) := by decide +kernel
theorem dX7_stepsOf_23 : decode cX7_stepsOf 23 = .ok (.goto (-21), 3) := by decide +kernel
theorem dX7_stepsOf_26 : decode cX7_stepsOf 26 = .ok (.iload_n 2, 1) := by decide +kernel
theorem dX7_stepsOf_27 : decode cX7_stepsOf 27 = .ok (.ireturn, 1) := by decide +kernel
set_option maxRecDepth 20000 in
theorem ggX7_arc_X7_isSheet : GoodIn wsX7_arc wsX7_isSheet := goodIn_r _ [5, 6, 41, 42, 43, 44, 45, 46, 47, 48, 49, 50, 51, 52, 53, 54, 55, 56, 57, 58, 59, 60, 61, 62, 63, 64, 65, 66, 67, 68, 69, 70, 71, 72, 73, 74, 75, 76, 77, 78, 79, 80, 81, 82, 83, 84] (by decide +kernel) (by decide +kernel)
set_option maxRecDepth 20000 in
theorem gX7_arc_X7_isSheet : GoodIn wsX7_arc (wsV RX7 150 RX7 yX7_isSheet wsX7_isSheet) := goodIn_app (goodIn_of _ (by decide +kernel)) ggX7_arc_X7_isSheet
set_option maxRecDepth 20000 in
theorem ggX7_arc_X7_within : GoodIn wsX7_arc wsX7_within := goodIn_r _ [9] (by decide +kernel) (by decide +kernel)
set_option maxRecDepth 20000 in
theorem gX7_arc_X7_within : GoodIn wsX7_arc (va_wsS RX7 58 yX7_within wsX7_within) := goodIn_app (goodIn_of _ (by decide +kernel)) ggX7_arc_X7_within
set_option maxRecDepth 20000 in
theorem ggX7_arc_X7_stepsOf : GoodIn wsX7_arc wsX7_stepsOf := goodIn_r _ [12] (by decide +kernel) (by decide +kernel)
set_option maxRecDepth 20000 in
theorem gX7_arc_X7_stepsOf : GoodIn wsX7_arc (va_wsS RX7 170 yX7_stepsOf wsX7_stepsOf) := goodIn_app (goodIn_of _ (by decide +kernel)) ggX7_arc_X7_stepsOf
set_option maxRecDepth 20000 in
theorem ggX7_arc_X7_turnX : GoodIn wsX7_arc wsX7_turnX := goodIn_r _ [15] (by decide +kernel) (by decide +kernel)
set_option maxRecDepth 20000 in
theorem gX7_arc_X7_turnX : GoodIn wsX7_arc (va_wsS RX7 174 yX7_turnX wsX7_turnX) := goodIn_app (goodIn_of _ (by decide +kernel)) ggX7_arc_X7_turnX
set_option maxRecDepth 20000 in
theorem ggX7_arc_X7_turnY : GoodIn wsX7_arc wsX7_turnY := goodIn_r _ [18] (by decide +kernel) (by decide +kernel)
set_option maxRecDepth 20000 in
theorem gX7_arc_X7_turnY : GoodIn wsX7_arc (va_wsS RX7 177 yX7_turnY wsX7_turnY) := goodIn_app (goodIn_of _ (by decide +kernel)) ggX7_arc_X7_turnY
set_option maxRecDepth 20000 in
theorem ggX7_arc_X7_comesIfFree : GoodIn wsX7_arc wsX7_comesIfFree := goodIn_r _ [22, 23, 24, 25, 26, 4, 27, 6, 28, 7, 8, 9, 29, 30, 31, 32, 33, 34, 35, 36, 37, 38, 39, 40, 41, 42, 43, 44, 45, 46, 47, 48, 49, 50, 51, 52, 53, 54, 55, 56, 57, 58, 59, 60, 61, 62, 63, 64, 65, 66, 67, 68, 69, 70, 71, 72, 73, 74, 75, 76, 77, 78, 79, 80, 81, 82, 83, 84] (by decide +kernel) (by decide +kernel)
set_option maxRecDepth 20000 in
theorem gX7_arc_X7_comesIfFree : GoodIn wsX7_arc (wsV RX7 180 RX7 yX7_comesIfFree wsX7_comesIfFree) := goodIn_app (goodIn_of _ (by decide +kernel)) ggX7_arc_X7_comesIfFree
theorem dX7_arc_0 : decode cX7_arc 0 = .ok (.aload_n 0, 1) := by decide +kernel
theorem dX7_arc_1 : decode cX7_arc 1 = .ok (.invokevirtual 150, 3) := by decide +kernel
theorem dX7_arc_4 : decode cX7_arc 4 = .ok (.ifCond .ne 6, 3) := by decide +kernel
theorem dX7_arc_7 : decode cX7_arc 7 = .ok (.bipush (-103), 2) := by decide +kernel
theorem dX7_arc_9 : decode cX7_arc 9 = .ok (.ireturn, 1) := by decide +kernel
theorem dX7_arc_10 : decode cX7_arc 10 = .ok (.iload_n 1, 1) := by decide +kernel
theorem dX7_arc_11 : decode cX7_arc 11 = .ok (.bipush (-31), 2) := by decide +kernel
theorem dX7_arc_13 : decode cX7_arc 13 = .ok (.bipush 62, 2) := by decide +kernel
theorem dX7_arc_15 : decode cX7_arc 15 = .ok (.invokestatic 58, 3) := by decide +kernel
theorem dX7_arc_18 : decode cX7_arc 18 = .ok (.ifCond .eq 36, 3) := by decide +kernel
theorem dX7_arc_21 : decode cX7_arc 21 = .ok (.iload_n 2, 1) := by decide +kernel
theorem dX7_arc_22 : decode cX7_arc 22 = .ok (.bipush (-31), 2) := by decide +kernel
theorem dX7_arc_24 : decode cX7_arc 24 = .ok (.bipush 62, 2) := by decide +kernel
theorem dX7_arc_26 : decode cX7_arc 26 = .ok (.invokestatic 58, 3) := by decide +kernel
theorem dX7_arc_29 : decode cX7_arc 29 = .ok (.ifCond .eq 25, 3) := by decide +kernel
theorem dX7_arc_32 : decode cX7_arc 32 = .ok (.iload_n 3, 1) := by decide +kernel
theorem dX7_arc_33 : decode cX7_arc 33 = .ok (.iconst 1, 1) := by decide +kernel
theorem dX7_arc_34 : decode cX7_arc 34 = .ok (.bipush 31, 2) := by decide +kernel
theorem dX7_arc_36 : decode cX7_arc 36 = .ok (.invokestatic 58, 3) := by decide +kernel
theorem dX7_arc_39 : decode cX7_arc 39 = .ok (.ifCond .eq 15, 3) := by decide +kernel
theorem dX7_arc_42 : decode cX7_arc 42 = .ok (.iload 4, 2) := by decide +kernel
theorem dX7_arc_44 : decode cX7_arc 44 = .ok (.iconst 0, 1) := by decide +kernel
theorem dX7_arc_45 : decode cX7_arc 45 = .ok (.sipush 255, 3) := by decide +kernel
theorem dX7_arc_48 : decode cX7_arc 48 = .ok (.invokestatic 58, 3) := by decide +kernel
theorem dX7_arc_51 : decode cX7_arc 51 = .ok (.ifCond .ne 6, 3) := by decide +kernel
theorem dX7_arc_54 : decode cX7_arc 54 = .ok (.bipush (-102), 2) := by decide +kernel
theorem dX7_arc_56 : decode cX7_arc 56 = .ok (.ireturn, 1) := by decide +kernel
theorem dX7_arc_57 : decode cX7_arc 57 = .ok (.iconst 0, 1) := by decide +kernel
theorem dX7_arc_58 : decode cX7_arc 58 = .ok (.istore 5, 2) := by decide +kernel
theorem dX7_arc_60 : decode cX7_arc 60 = .ok (.iconst 0, 1) := by decide +kernel
theorem dX7_arc_61 : decode cX7_arc 61 = .ok (.istore 6, 2) := by decide +kernel
theorem dX7_arc_63 : decode cX7_arc 63 = .ok (.iload 6, 2) := by decide +kernel
theorem dX7_arc_65 : decode cX7_arc 65 = .ok (.bipush 8, 2) := by decide +kernel
theorem dX7_arc_67 : decode cX7_arc 67 = .ok (.if_icmp .ge 79, 3) := by decide +kernel
theorem dX7_arc_70 : decode cX7_arc 70 = .ok (.iload 6, 2) := by decide +kernel
theorem dX7_arc_72 : decode cX7_arc 72 = .ok (.iload_n 3, 1) := by decide +kernel
theorem dX7_arc_73 : decode cX7_arc 73 = .ok (.invokestatic 170, 3) := by decide +kernel
theorem dX7_arc_76 : decode cX7_arc 76 = .ok (.istore 7, 2) := by decide +kernel
theorem dX7_arc_78 : decode cX7_arc 78 = .ok (.iload 4, 2) := by decide +kernel
theorem dX7_arc_80 : decode cX7_arc 80 = .ok (.iload 6, 2) := by decide +kernel
theorem dX7_arc_82 : decode cX7_arc 82 = .ok (.ishr, 1) := by decide +kernel
theorem dX7_arc_83 : decode cX7_arc 83 = .ok (.iconst 1, 1) := by decide +kernel
theorem dX7_arc_84 : decode cX7_arc 84 = .ok (.iand, 1) := by decide +kernel
theorem dX7_arc_85 : decode cX7_arc 85 = .ok (.iconst 1, 1) := by decide +kernel
theorem dX7_arc_86 : decode cX7_arc 86 = .ok (.if_icmp .ne 36, 3) := by decide +kernel
theorem dX7_arc_89 : decode cX7_arc 89 = .ok (.aload_n 0, 1) := by decide +kernel
theorem dX7_arc_90 : decode cX7_arc 90 = .ok (.iload_n 1, 1) := by decide +kernel
theorem dX7_arc_91 : decode cX7_arc 91 = .ok (.iload 7, 2) := by decide +kernel
theorem dX7_arc_93 : decode cX7_arc 93 = .ok (.iload 6, 2) := by decide +kernel
theorem dX7_arc_95 : decode cX7_arc 95 = .ok (.invokestatic 174, 3) := by decide +kernel
theorem dX7_arc_98 : decode cX7_arc 98 = .ok (.imul, 1) := by decide +kernel
theorem dX7_arc_99 : decode cX7_arc 99 = .ok (.isub, 1) := by decide +kernel
theorem dX7_arc_100 : decode cX7_arc 100 = .ok (.iload_n 2, 1) := by decide +kernel
theorem dX7_arc_101 : decode cX7_arc 101 = .ok (.iload 7, 2) := by decide +kernel
theorem dX7_arc_103 : decode cX7_arc 103 = .ok (.iload 6, 2) := by decide +kernel
theorem dX7_arc_105 : decode cX7_arc 105 = .ok (.invokestatic 177, 3) := by decide +kernel
theorem dX7_arc_108 : decode cX7_arc 108 = .ok (.imul, 1) := by decide +kernel
theorem dX7_arc_109 : decode cX7_arc 109 = .ok (.isub, 1) := by decide +kernel
theorem dX7_arc_110 : decode cX7_arc 110 = .ok (.iload 6, 2) := by decide +kernel
theorem dX7_arc_112 : decode cX7_arc 112 = .ok (.invokevirtual 180, 3) := by decide +kernel
theorem dX7_arc_115 : decode cX7_arc 115 = .ok (.ifCond .eq 7, 3) := by decide +kernel
theorem dX7_arc_118 : decode cX7_arc 118 = .ok (.iconst 1, 1) := by decide +kernel
theorem dX7_arc_119 : decode cX7_arc 119 = .ok (.goto 4, 3) := by decide +kernel
theorem dX7_arc_122 : decode cX7_arc 122 = .ok (.iconst 0, 1) := by decide +kernel
theorem dX7_arc_123 : decode cX7_arc 123 = .ok (.istore 8, 2) := by decide +kernel
theorem dX7_arc_125 : decode cX7_arc 125 = .ok (.iload 5, 2) := by decide +kernel
theorem dX7_arc_127 : decode cX7_arc 127 = .ok (.iload 8, 2) := by decide +kernel
theorem dX7_arc_129 : decode cX7_arc 129 = .ok (.ifCond .eq 7, 3) := by decide +kernel
theorem dX7_arc_132 : decode cX7_arc 132 = .ok (.iconst 1, 1) := by decide +kernel
theorem dX7_arc_133 : decode cX7_arc 133 = .ok (.goto 4, 3) := by decide +kernel
theorem dX7_arc_136 : decode cX7_arc 136 = .ok (.iconst 0, 1) := by decide +kernel
theorem dX7_arc_137 : decode cX7_arc 137 = .ok (.iadd, 1) := by decide +kernel
theorem dX7_arc_138 : decode cX7_arc 138 = .ok (.istore 5, 2) := by decide +kernel
theorem dX7_arc_140 : decode cX7_arc 140 = .ok (.iinc 6 1, 3) := by decide +kernel
theorem dX7_arc_143 : decode cX7_arc 143 = .ok (.goto (-80), 3) := by decide +kernel
theorem dX7_arc_146 : decode cX7_arc 146 = .ok (.iload 5, 2) := by decide +kernel
theorem dX7_arc_148 : decode cX7_arc 148 = .ok (.ireturn, 1) := by decide +kernel
theorem dX7_drawOf_0 : decode cX7_drawOf 0 = .ok (.aload_n 0, 1) := by decide +kernel
theorem dX7_drawOf_1 : decode cX7_drawOf 1 = .ok (.ldc2_w 183, 3) := by decide +kernel
theorem dX7_drawOf_4 : decode cX7_drawOf 4 = .ok (.aload_n 0, 1) := by decide +kernel
theorem dX7_drawOf_5 : decode cX7_drawOf 5 = .ok (.getfield 185, 3) := by decide +kernel
theorem dX7_drawOf_8 : decode cX7_drawOf 8 = .ok (.lmul, 1) := by decide +kernel
theorem dX7_drawOf_9 : decode cX7_drawOf 9 = .ok (.ldc2_w 189, 3) := by decide +kernel
theorem dX7_drawOf_12 : decode cX7_drawOf 12 = .ok (.ladd, 1) := by decide +kernel
theorem dX7_drawOf_13 : decode cX7_drawOf 13 = .ok (.ldc2_w 191, 3) := by decide +kernel
theorem dX7_drawOf_16 : decode cX7_drawOf 16 = .ok (.lrem, 1) := by decide +kernel
theorem dX7_drawOf_17 : decode cX7_drawOf 17 = .ok (.putfield 185, 3) := by decide +kernel
theorem dX7_drawOf_20 : decode cX7_drawOf 20 = .ok (.aload_n 0, 1) := by decide +kernel
theorem dX7_drawOf_21 : decode cX7_drawOf 21 = .ok (.getfield 185, 3) := by decide +kernel
theorem dX7_drawOf_24 : decode cX7_drawOf 24 = .ok (.ldc2_w 193, 3) := by decide +kernel
theorem dX7_drawOf_27 : decode cX7_drawOf 27 = .ok (.ldiv, 1) := by decide +kernel
theorem dX7_drawOf_28 : decode cX7_drawOf 28 = .ok (.iload_n 1, 1) := by decide +kernel
theorem dX7_drawOf_29 : decode cX7_drawOf 29 = .ok (.i2l, 1) := by decide +kernel
theorem dX7_drawOf_30 : decode cX7_drawOf 30 = .ok (.lrem, 1) := by decide +kernel
theorem dX7_drawOf_31 : decode cX7_drawOf 31 = .ok (.l2i, 1) := by decide +kernel
theorem dX7_drawOf_32 : decode cX7_drawOf 32 = .ok (.ireturn, 1) := by decide +kernel
set_option maxRecDepth 20000 in
theorem ggX7_strew_X7_isSheet : GoodIn wsX7_strew wsX7_isSheet := goodIn_r _ [8, 2, 41, 42, 43, 44, 45, 46, 47, 48, 49, 50, 51, 52, 53, 54, 55, 56, 57, 58, 59, 60, 61, 62, 63, 64, 65, 66, 67, 68, 69, 70, 71, 72, 73, 74, 75, 76, 77, 78, 79, 80, 81, 82, 83, 84] (by decide +kernel) (by decide +kernel)
set_option maxRecDepth 20000 in
theorem gX7_strew_X7_isSheet : GoodIn wsX7_strew (wsV RX7 150 RX7 yX7_isSheet wsX7_isSheet) := goodIn_app (goodIn_of _ (by decide +kernel)) ggX7_strew_X7_isSheet
set_option maxRecDepth 20000 in
theorem ggX7_strew_X7_within : GoodIn wsX7_strew wsX7_within := goodIn_r _ [11] (by decide +kernel) (by decide +kernel)
set_option maxRecDepth 20000 in
theorem gX7_strew_X7_within : GoodIn wsX7_strew (va_wsS RX7 58 yX7_within wsX7_within) := goodIn_app (goodIn_of _ (by decide +kernel)) ggX7_strew_X7_within
set_option maxRecDepth 20000 in
theorem ggX7_strew_X7_drawOf : GoodIn wsX7_strew wsX7_drawOf := goodIn_r _ [15, 16, 1, 17, 18, 19, 41, 42, 43, 44, 45, 46, 47, 48, 49, 50, 51, 52, 53, 54, 55, 56, 57, 58, 59, 60, 61, 62, 63, 64, 65, 66, 67, 68, 69, 70, 71, 72, 73, 74, 75, 76, 77, 78, 79, 80, 81, 82, 83, 84] (by decide +kernel) (by decide +kernel)
set_option maxRecDepth 20000 in
theorem gX7_strew_X7_drawOf : GoodIn wsX7_strew (wsV RX7 195 RX7 yX7_drawOf wsX7_drawOf) := goodIn_app (goodIn_of _ (by decide +kernel)) ggX7_strew_X7_drawOf
set_option maxRecDepth 20000 in
theorem ggX7_strew_X7_comesIfFree : GoodIn wsX7_strew wsX7_comesIfFree := goodIn_r _ [23, 24, 25, 26, 27, 7, 28, 2, 3, 9, 10, 11, 29, 30, 31, 32, 33, 34, 35, 36, 37, 38, 39, 40, 41, 42, 43, 44, 45, 46, 47, 48, 49, 50, 51, 52, 53, 54, 55, 56, 57, 58, 59, 60, 61, 62, 63, 64, 65, 66, 67, 68, 69, 70, 71, 72, 73, 74, 75, 76, 77, 78, 79, 80, 81, 82, 83, 84] (by decide +kernel) (by decide +kernel)
set_option maxRecDepth 20000 in
theorem gX7_strew_X7_comesIfFree : GoodIn wsX7_strew (wsV RX7 180 RX7 yX7_comesIfFree wsX7_comesIfFree) := goodIn_app (goodIn_of _ (by decide +kernel)) ggX7_strew_X7_comesIfFree
theorem dX7_strew_0 : decode cX7_strew 0 = .ok (.aload_n 0, 1) := by decide +kernel
theorem dX7_strew_1 : decode cX7_strew 1 = .ok (.invokevirtual 150, 3) := by decide +kernel
theorem dX7_strew_4 : decode cX7_strew 4 = .ok (.ifCond .ne 6, 3) := by decide +kernel
theorem dX7_strew_7 : decode cX7_strew 7 = .ok (.bipush (-103), 2) := by decide +kernel
theorem dX7_strew_9 : decode cX7_strew 9 = .ok (.ireturn, 1) := by decide +kernel
theorem dX7_strew_10 : decode cX7_strew 10 = .ok (.iload_n 1, 1) := by decide +kernel
theorem dX7_strew_11 : decode cX7_strew 11 = .ok (.iconst 1, 1) := by decide +kernel
theorem dX7_strew_12 : decode cX7_strew 12 = .ok (.bipush 14, 2) := by decide +kernel
theorem dX7_strew_14 : decode cX7_strew 14 = .ok (.invokestatic 58, 3) := by decide +kernel
theorem dX7_strew_17 : decode cX7_strew 17 = .ok (.ifCond .eq 7, 3) := by decide +kernel
theorem dX7_strew_20 : decode cX7_strew 20 = .ok (.iload_n 2, 1) := by decide +kernel
theorem dX7_strew_21 : decode cX7_strew 21 = .ok (.ifCond .ge 6, 3) := by decide +kernel
theorem dX7_strew_24 : decode cX7_strew 24 = .ok (.bipush (-102), 2) := by decide +kernel
theorem dX7_strew_26 : decode cX7_strew 26 = .ok (.ireturn, 1) := by decide +kernel
theorem dX7_strew_27 : decode cX7_strew 27 = .ok (.aload_n 0, 1) := by decide +kernel
theorem dX7_strew_28 : decode cX7_strew 28 = .ok (.iload_n 2, 1) := by decide +kernel
theorem dX7_strew_29 : decode cX7_strew 29 = .ok (.i2l, 1) := by decide +kernel
theorem dX7_strew_30 : decode cX7_strew 30 = .ok (.putfield 185, 3) := by decide +kernel
theorem dX7_strew_33 : decode cX7_strew 33 = .ok (.iconst 0, 1) := by decide +kernel
theorem dX7_strew_34 : decode cX7_strew 34 = .ok (.istore_n 3, 1) := by decide +kernel
theorem dX7_strew_35 : decode cX7_strew 35 = .ok (.iconst 0, 1) := by decide +kernel
theorem dX7_strew_36 : decode cX7_strew 36 = .ok (.istore 4, 2) := by decide +kernel
theorem dX7_strew_38 : decode cX7_strew 38 = .ok (.iload 4, 2) := by decide +kernel
theorem dX7_strew_40 : decode cX7_strew 40 = .ok (.iload_n 1, 1) := by decide +kernel
theorem dX7_strew_41 : decode cX7_strew 41 = .ok (.if_icmp .ge 69, 3) := by decide +kernel
theorem dX7_strew_44 : decode cX7_strew 44 = .ok (.aload_n 0, 1) := by decide +kernel
theorem dX7_strew_45 : decode cX7_strew 45 = .ok (.aload_n 0, 1) := by decide +kernel
theorem dX7_strew_46 : decode cX7_strew 46 = .ok (.getfield 115, 3) := by decide +kernel
theorem dX7_strew_49 : decode cX7_strew 49 = .ok (.invokevirtual 195, 3) := by decide +kernel
theorem dX7_strew_52 : decode cX7_strew 52 = .ok (.istore 5, 2) := by decide +kernel
theorem dX7_strew_54 : decode cX7_strew 54 = .ok (.aload_n 0, 1) := by decide +kernel
theorem dX7_strew_55 : decode cX7_strew 55 = .ok (.aload_n 0, 1) := by decide +kernel
theorem dX7_strew_56 : decode cX7_strew 56 = .ok (.getfield 118, 3) := by decide +kernel
theorem dX7_strew_59 : decode cX7_strew 59 = .ok (.invokevirtual 195, 3) := by decide +kernel
theorem dX7_strew_62 : decode cX7_strew 62 = .ok (.istore 6, 2) := by decide +kernel
theorem dX7_strew_64 : decode cX7_strew 64 = .ok (.aload_n 0, 1) := by decide +kernel
theorem dX7_strew_65 : decode cX7_strew 65 = .ok (.bipush 9, 2) := by decide +kernel
theorem dX7_strew_67 : decode cX7_strew 67 = .ok (.invokevirtual 195, 3) := by decide +kernel
theorem dX7_strew_70 : decode cX7_strew 70 = .ok (.istore 7, 2) := by decide +kernel
theorem dX7_strew_72 : decode cX7_strew 72 = .ok (.iload_n 3, 1) := by decide +kernel
theorem dX7_strew_73 : decode cX7_strew 73 = .ok (.aload_n 0, 1) := by decide +kernel
theorem dX7_strew_74 : decode cX7_strew 74 = .ok (.iload 5, 2) := by decide +kernel
theorem dX7_strew_76 : decode cX7_strew 76 = .ok (.iload 6, 2) := by decide +kernel
theorem dX7_strew_78 : decode cX7_strew 78 = .ok (.iload 7, 2) := by decide +kernel
theorem dX7_strew_80 : decode cX7_strew 80 = .ok (.bipush 8, 2) := by decide +kernel
theorem dX7_strew_82 : decode cX7_strew 82 = .ok (.if_icmp .ne 7, 3) := by decide +kernel
theorem dX7_strew_85 : decode cX7_strew 85 = .ok (.iconst (-1), 1) := by decide +kernel
theorem dX7_strew_86 : decode cX7_strew 86 = .ok (.goto 5, 3) := by decide +kernel
theorem dX7_strew_89 : decode cX7_strew 89 = .ok (.iload 7, 2) := by decide +kernel
theorem dX7_strew_91 : decode cX7_strew 91 = .ok (.invokevirtual 180, 3) := by decide +kernel
theorem dX7_strew_94 : decode cX7_strew 94 = .ok (.ifCond .eq 7, 3) := by decide +kernel
theorem dX7_strew_97 : decode cX7_strew 97 = .ok (.iconst 1, 1) := by decide +kernel
theorem dX7_strew_98 : decode cX7_strew 98 = .ok (.goto 4, 3) := by decide +kernel
theorem dX7_strew_101 : decode cX7_strew 101 = .ok (.iconst 0, 1) := by decide +kernel
theorem dX7_strew_102 : decode cX7_strew 102 = .ok (.iadd, 1) := by decide +kernel
theorem dX7_strew_103 : decode cX7_strew 103 = .ok (.istore_n 3, 1) := by decide +kernel
theorem dX7_strew_104 : decode cX7_strew 104 = .ok (.iinc 4 1, 3) := by decide +kernel
theorem dX7_strew_107 : decode cX7_strew 107 = .ok (.goto (-69), 3) := by decide +kernel
theorem dX7_strew_110 : decode cX7_strew 110 = .ok (.iload_n 3, 1) := by decide +kernel
theorem dX7_strew_111 : decode cX7_strew 111 = .ok (.ireturn, 1) := by decide +kernel
theorem dX7_ringOf_0 : decode cX7_ringOf 0 = .ok (.aload_n 0, 1) := by decide +kernel
theorem dX7_ringOf_1 : decode cX7_ringOf 1 = .ok (.getfield 124, 3) := by decide +kernel
theorem dX7_ringOf_4 : decode cX7_ringOf 4 = .ok (.ifCond .eq 12, 3) := by decide +kernel
theorem dX7_ringOf_7 : decode cX7_ringOf 7 = .ok (.aload_n 0, 1) := by decide +kernel
theorem dX7_ringOf_8 : decode cX7_ringOf 8 = .ok (.getfield 34, 3) := by decide +kernel
theorem dX7_ringOf_11 : decode cX7_ringOf 11 = .ok (.iload_n 1, 1) := by decide +kernel
theorem dX7_ringOf_12 : decode cX7_ringOf 12 = .ok (.iaload, 1) := by decide +kernel
theorem dX7_ringOf_13 : decode cX7_ringOf 13 = .ok (.goto 4, 3) := by decide +kernel
theorem dX7_ringOf_16 : decode cX7_ringOf 16 = .ok (.iconst (-1), 1) := by decide +kernel
theorem dX7_ringOf_17 : decode cX7_ringOf 17 = .ok (.ireturn, 1) := by decide +kernel
set_option maxRecDepth 20000 in
theorem ggX7_toldNow_X7_ringOf : GoodIn wsX7_toldNow wsX7_ringOf := goodIn_r _ [8, 9, 10, 11, 12, 13, 14, 15, 16, 17, 18, 19, 20, 21, 22, 23, 24, 25, 26, 27, 28, 29, 30, 31, 32, 33, 34, 35, 36, 37, 38, 39, 40, 41, 42, 43, 44, 45, 46, 47, 48, 49, 50, 51, 52, 53, 54] (by decide +kernel) (by decide +kernel)
set_option maxRecDepth 20000 in
theorem gX7_toldNow_X7_ringOf : GoodIn wsX7_toldNow (wsV RX7 198 RX7 yX7_ringOf wsX7_ringOf) := goodIn_app (goodIn_of _ (by decide +kernel)) ggX7_toldNow_X7_ringOf
theorem dX7_toldNow_0 : decode cX7_toldNow 0 = .ok (.iload_n 2, 1) := by decide +kernel
theorem dX7_toldNow_1 : decode cX7_toldNow 1 = .ok (.ifCond .ne 12, 3) := by decide +kernel
theorem dX7_toldNow_4 : decode cX7_toldNow 4 = .ok (.aload_n 0, 1) := by decide +kernel
theorem dX7_toldNow_5 : decode cX7_toldNow 5 = .ok (.getfield 13, 3) := by decide +kernel
theorem dX7_toldNow_8 : decode cX7_toldNow 8 = .ok (.iload_n 1, 1) := by decide +kernel
theorem dX7_toldNow_9 : decode cX7_toldNow 9 = .ok (.iaload, 1) := by decide +kernel
theorem dX7_toldNow_10 : decode cX7_toldNow 10 = .ok (.goto 36, 3) := by decide +kernel
theorem dX7_toldNow_13 : decode cX7_toldNow 13 = .ok (.iload_n 2, 1) := by decide +kernel
theorem dX7_toldNow_14 : decode cX7_toldNow 14 = .ok (.iconst 1, 1) := by decide +kernel
theorem dX7_toldNow_15 : decode cX7_toldNow 15 = .ok (.if_icmp .ne 12, 3) := by decide +kernel
theorem dX7_toldNow_18 : decode cX7_toldNow 18 = .ok (.aload_n 0, 1) := by decide +kernel
theorem dX7_toldNow_19 : decode cX7_toldNow 19 = .ok (.getfield 16, 3) := by decide +kernel
theorem dX7_toldNow_22 : decode cX7_toldNow 22 = .ok (.iload_n 1, 1) := by decide +kernel
theorem dX7_toldNow_23 : decode cX7_toldNow 23 = .ok (.iaload, 1) := by decide +kernel
theorem dX7_toldNow_24 : decode cX7_toldNow 24 = .ok (.goto 22, 3) := by decide +kernel
theorem dX7_toldNow_27 : decode cX7_toldNow 27 = .ok (.iload_n 2, 1) := by decide +kernel
theorem dX7_toldNow_28 : decode cX7_toldNow 28 = .ok (.iconst 2, 1) := by decide +kernel
theorem dX7_toldNow_29 : decode cX7_toldNow 29 = .ok (.if_icmp .ne 12, 3) := by decide +kernel
theorem dX7_toldNow_32 : decode cX7_toldNow 32 = .ok (.aload_n 0, 1) := by decide +kernel
theorem dX7_toldNow_33 : decode cX7_toldNow 33 = .ok (.getfield 19, 3) := by decide +kernel
theorem dX7_toldNow_36 : decode cX7_toldNow 36 = .ok (.iload_n 1, 1) := by decide +kernel
theorem dX7_toldNow_37 : decode cX7_toldNow 37 = .ok (.iaload, 1) := by decide +kernel
theorem dX7_toldNow_38 : decode cX7_toldNow 38 = .ok (.goto 8, 3) := by decide +kernel
theorem dX7_toldNow_41 : decode cX7_toldNow 41 = .ok (.aload_n 0, 1) := by decide +kernel
theorem dX7_toldNow_42 : decode cX7_toldNow 42 = .ok (.iload_n 1, 1) := by decide +kernel
theorem dX7_toldNow_43 : decode cX7_toldNow 43 = .ok (.invokevirtual 198, 3) := by decide +kernel
theorem dX7_toldNow_46 : decode cX7_toldNow 46 = .ok (.ireturn, 1) := by decide +kernel
set_option maxRecDepth 20000 in
theorem ggX7_told_X7_isDot : GoodIn wsX7_told wsX7_isDot := goodIn_r _ [5, 6, 7, 8, 9, 4, 10, 11, 12, 13, 14, 28, 29, 30, 31, 32, 33, 34, 35, 36, 37, 38, 39, 40, 41, 42, 43, 44, 45, 46, 47, 48, 49, 50, 51, 52, 53, 54, 55, 56, 57, 58, 59, 60, 61, 62, 63, 64, 65, 66, 67, 68, 69, 70, 71] (by decide +kernel) (by decide +kernel)
set_option maxRecDepth 20000 in
theorem gX7_told_X7_isDot : GoodIn wsX7_told (wsV RX7 167 RX7 yX7_isDot wsX7_isDot) := goodIn_app (goodIn_of _ (by decide +kernel)) ggX7_told_X7_isDot
set_option maxRecDepth 20000 in
theorem ggX7_told_X7_within : GoodIn wsX7_told wsX7_within := goodIn_r _ [14] (by decide +kernel) (by decide +kernel)
set_option maxRecDepth 20000 in
theorem gX7_told_X7_within : GoodIn wsX7_told (va_wsS RX7 58 yX7_within wsX7_within) := goodIn_app (goodIn_of _ (by decide +kernel)) ggX7_told_X7_within
set_option maxRecDepth 20000 in
theorem ggX7_told_X7_toldNow : GoodIn wsX7_told wsX7_toldNow := goodIn_r _ [18, 19, 20, 21, 22, 23, 24, 4, 25, 26, 27, 28, 29, 30, 31, 32, 33, 34, 35, 36, 37, 38, 39, 40, 41, 42, 43, 44, 45, 46, 47, 48, 49, 50, 51, 52, 53, 54, 55, 56, 57, 58, 59, 60, 61, 62, 63, 64, 65, 66, 67, 68, 69, 70, 71] (by decide +kernel) (by decide +kernel)
set_option maxRecDepth 20000 in
theorem gX7_told_X7_toldNow : GoodIn wsX7_told (wsV RX7 201 RX7 yX7_toldNow wsX7_toldNow) := goodIn_app (goodIn_of _ (by decide +kernel)) ggX7_told_X7_toldNow
theorem dX7_told_0 : decode cX7_told 0 = .ok (.aload_n 0, 1) := by decide +kernel
theorem dX7_told_1 : decode cX7_told 1 = .ok (.iload_n 1, 1) := by decide +kernel
theorem dX7_told_2 : decode cX7_told 2 = .ok (.invokevirtual 167, 3) := by decide +kernel
theorem dX7_told_5 : decode cX7_told 5 = .ok (.ifCond .ne 6, 3) := by decide +kernel
theorem dX7_told_8 : decode cX7_told 8 = .ok (.bipush (-101), 2) := by decide +kernel
theorem dX7_told_10 : decode cX7_told 10 = .ok (.ireturn, 1) := by decide +kernel
theorem dX7_told_11 : decode cX7_told 11 = .ok (.iload_n 2, 1) := by decide +kernel
theorem dX7_told_12 : decode cX7_told 12 = .ok (.iconst 0, 1) := by decide +kernel
theorem dX7_told_13 : decode cX7_told 13 = .ok (.iconst 3, 1) := by decide +kernel
theorem dX7_told_14 : decode cX7_told 14 = .ok (.invokestatic 58, 3) := by decide +kernel
theorem dX7_told_17 : decode cX7_told 17 = .ok (.ifCond .eq 12, 3) := by decide +kernel
theorem dX7_told_20 : decode cX7_told 20 = .ok (.aload_n 0, 1) := by decide +kernel
theorem dX7_told_21 : decode cX7_told 21 = .ok (.iload_n 1, 1) := by decide +kernel
theorem dX7_told_22 : decode cX7_told 22 = .ok (.iload_n 2, 1) := by decide +kernel
theorem dX7_told_23 : decode cX7_told 23 = .ok (.invokevirtual 201, 3) := by decide +kernel
theorem dX7_told_26 : decode cX7_told 26 = .ok (.goto 5, 3) := by decide +kernel
theorem dX7_told_29 : decode cX7_told 29 = .ok (.bipush (-102), 2) := by decide +kernel
theorem dX7_told_31 : decode cX7_told 31 = .ok (.ireturn, 1) := by decide +kernel
theorem dX7_aboutNow_0 : decode cX7_aboutNow 0 = .ok (.iload_n 1, 1) := by decide +kernel
theorem dX7_aboutNow_1 : decode cX7_aboutNow 1 = .ok (.tableswitch 42 0 2 #[27, 32, 37], 27) := by decide +kernel
theorem dX7_aboutNow_28 : decode cX7_aboutNow 28 = .ok (.aload_n 0, 1) := by decide +kernel
theorem dX7_aboutNow_29 : decode cX7_aboutNow 29 = .ok (.getfield 115, 3) := by decide +kernel
theorem dX7_aboutNow_32 : decode cX7_aboutNow 32 = .ok (.ireturn, 1) := by decide +kernel
theorem dX7_aboutNow_33 : decode cX7_aboutNow 33 = .ok (.aload_n 0, 1) := by decide +kernel
theorem dX7_aboutNow_34 : decode cX7_aboutNow 34 = .ok (.getfield 118, 3) := by decide +kernel
theorem dX7_aboutNow_37 : decode cX7_aboutNow 37 = .ok (.ireturn, 1) := by decide +kernel
theorem dX7_aboutNow_38 : decode cX7_aboutNow 38 = .ok (.aload_n 0, 1) := by decide +kernel
theorem dX7_aboutNow_39 : decode cX7_aboutNow 39 = .ok (.getfield 121, 3) := by decide +kernel
theorem dX7_aboutNow_42 : decode cX7_aboutNow 42 = .ok (.ireturn, 1) := by decide +kernel
theorem dX7_aboutNow_43 : decode cX7_aboutNow 43 = .ok (.aload_n 0, 1) := by decide +kernel
theorem dX7_aboutNow_44 : decode cX7_aboutNow 44 = .ok (.getfield 22, 3) := by decide +kernel
theorem dX7_aboutNow_47 : decode cX7_aboutNow 47 = .ok (.iload_n 1, 1) := by decide +kernel
theorem dX7_aboutNow_48 : decode cX7_aboutNow 48 = .ok (.iconst 3, 1) := by decide +kernel
theorem dX7_aboutNow_49 : decode cX7_aboutNow 49 = .ok (.isub, 1) := by decide +kernel
theorem dX7_aboutNow_50 : decode cX7_aboutNow 50 = .ok (.iaload, 1) := by decide +kernel
theorem dX7_aboutNow_51 : decode cX7_aboutNow 51 = .ok (.ireturn, 1) := by decide +kernel
set_option maxRecDepth 20000 in
theorem ggX7_about_X7_within : GoodIn wsX7_about wsX7_within := goodIn_r _ [4] (by decide +kernel) (by decide +kernel)
set_option maxRecDepth 20000 in
theorem gX7_about_X7_within : GoodIn wsX7_about (va_wsS RX7 58 yX7_within wsX7_within) := goodIn_app (goodIn_of _ (by decide +kernel)) ggX7_about_X7_within
set_option maxRecDepth 20000 in
theorem ggX7_about_X7_isSheet : GoodIn wsX7_about wsX7_isSheet := goodIn_r _ [8, 9, 17, 18, 19, 20, 21, 22, 23, 24, 25, 26, 27, 28, 29, 30, 31, 32, 33, 34, 35, 36, 37, 38, 39, 40, 41, 42, 43, 44, 45, 46, 47, 48, 49, 50, 51, 52, 53, 54, 55, 56, 57, 58, 59, 60] (by decide +kernel) (by decide +kernel)
set_option maxRecDepth 20000 in
theorem gX7_about_X7_isSheet : GoodIn wsX7_about (wsV RX7 150 RX7 yX7_isSheet wsX7_isSheet) := goodIn_app (goodIn_of _ (by decide +kernel)) ggX7_about_X7_isSheet
set_option maxRecDepth 20000 in
theorem ggX7_about_X7_aboutNow : GoodIn wsX7_about wsX7_aboutNow := goodIn_r _ [13, 9, 14, 15, 16, 17, 18, 19, 20, 21, 22, 23, 24, 25, 26, 27, 28, 29, 30, 31, 32, 33, 34, 35, 36, 37, 38, 39, 40, 41, 42, 43, 44, 45, 46, 47, 48, 49, 50, 51, 52, 53, 54, 55, 56, 57, 58, 59, 60] (by decide +kernel) (by decide +kernel)
set_option maxRecDepth 20000 in
theorem gX7_about_X7_aboutNow : GoodIn wsX7_about (wsV RX7 204 RX7 yX7_aboutNow wsX7_aboutNow) := goodIn_app (goodIn_of _ (by decide +kernel)) ggX7_about_X7_aboutNow
theorem dX7_about_0 : decode cX7_about 0 = .ok (.iload_n 1, 1) := by decide +kernel
theorem dX7_about_1 : decode cX7_about 1 = .ok (.iconst 0, 1) := by decide +kernel
theorem dX7_about_2 : decode cX7_about 2 = .ok (.bipush 7, 2) := by decide +kernel
theorem dX7_about_4 : decode cX7_about 4 = .ok (.invokestatic 58, 3) := by decide +kernel
theorem dX7_about_7 : decode cX7_about 7 = .ok (.ifCond .ne 6, 3) := by decide +kernel
theorem dX7_about_10 : decode cX7_about 10 = .ok (.bipush (-102), 2) := by decide +kernel
theorem dX7_about_12 : decode cX7_about 12 = .ok (.ireturn, 1) := by decide +kernel
theorem dX7_about_13 : decode cX7_about 13 = .ok (.aload_n 0, 1) := by decide +kernel
theorem dX7_about_14 : decode cX7_about 14 = .ok (.invokevirtual 150, 3) := by decide +kernel
theorem dX7_about_17 : decode cX7_about 17 = .ok (.ifCond .eq 11, 3) := by decide +kernel
theorem dX7_about_20 : decode cX7_about 20 = .ok (.aload_n 0, 1) := by decide +kernel
theorem dX7_about_21 : decode cX7_about 21 = .ok (.iload_n 1, 1) := by decide +kernel
theorem dX7_about_22 : decode cX7_about 22 = .ok (.invokevirtual 204, 3) := by decide +kernel
theorem dX7_about_25 : decode cX7_about 25 = .ok (.goto 5, 3) := by decide +kernel
theorem dX7_about_28 : decode cX7_about 28 = .ok (.bipush (-103), 2) := by decide +kernel
theorem dX7_about_30 : decode cX7_about 30 = .ok (.ireturn, 1) := by decide +kernel
set_option maxRecDepth 20000 in
theorem ggX7_isBound_X7_within : GoodIn wsX7_isBound wsX7_within := goodIn_r _ [5] (by decide +kernel) (by decide +kernel)
set_option maxRecDepth 20000 in
theorem gX7_isBound_X7_within : GoodIn wsX7_isBound (va_wsS RX7 58 yX7_within wsX7_within) := goodIn_app (goodIn_of _ (by decide +kernel)) ggX7_isBound_X7_within
theorem dX7_isBound_0 : decode cX7_isBound 0 = .ok (.iload_n 1, 1) := by decide +kernel
theorem dX7_isBound_1 : decode cX7_isBound 1 = .ok (.tableswitch 83 0 4 #[35, 47, 60, 67, 75], 35) := by decide +kernel
theorem dX7_isBound_36 : decode cX7_isBound 36 = .ok (.iload_n 2, 1) := by decide +kernel
theorem dX7_isBound_37 : decode cX7_isBound 37 = .ok (.iconst 1, 1) := by decide +kernel
theorem dX7_isBound_38 : decode cX7_isBound 38 = .ok (.aload_n 0, 1) := by decide +kernel
theorem dX7_isBound_39 : decode cX7_isBound 39 = .ok (.getfield 22, 3) := by decide +kernel
theorem dX7_isBound_42 : decode cX7_isBound 42 = .ok (.iconst 1, 1) := by decide +kernel
theorem dX7_isBound_43 : decode cX7_isBound 43 = .ok (.iaload, 1) := by decide +kernel
theorem dX7_isBound_44 : decode cX7_isBound 44 = .ok (.invokestatic 58, 3) := by decide +kernel
theorem dX7_isBound_47 : decode cX7_isBound 47 = .ok (.ireturn, 1) := by decide +kernel
theorem dX7_isBound_48 : decode cX7_isBound 48 = .ok (.iload_n 2, 1) := by decide +kernel
theorem dX7_isBound_49 : decode cX7_isBound 49 = .ok (.aload_n 0, 1) := by decide +kernel
theorem dX7_isBound_50 : decode cX7_isBound 50 = .ok (.getfield 22, 3) := by decide +kernel
theorem dX7_isBound_53 : decode cX7_isBound 53 = .ok (.iconst 0, 1) := by decide +kernel
theorem dX7_isBound_54 : decode cX7_isBound 54 = .ok (.iaload, 1) := by decide +kernel
theorem dX7_isBound_55 : decode cX7_isBound 55 = .ok (.bipush 22, 2) := by decide +kernel
theorem dX7_isBound_57 : decode cX7_isBound 57 = .ok (.invokestatic 58, 3) := by decide +kernel
theorem dX7_isBound_60 : decode cX7_isBound 60 = .ok (.ireturn, 1) := by decide +kernel
theorem dX7_isBound_61 : decode cX7_isBound 61 = .ok (.iload_n 2, 1) := by decide +kernel
theorem dX7_isBound_62 : decode cX7_isBound 62 = .ok (.iconst 0, 1) := by decide +kernel
theorem dX7_isBound_63 : decode cX7_isBound 63 = .ok (.iconst 4, 1) := by decide +kernel
theorem dX7_isBound_64 : decode cX7_isBound 64 = .ok (.invokestatic 58, 3) := by decide +kernel
theorem dX7_isBound_67 : decode cX7_isBound 67 = .ok (.ireturn, 1) := by decide +kernel
theorem dX7_isBound_68 : decode cX7_isBound 68 = .ok (.iload_n 2, 1) := by decide +kernel
theorem dX7_isBound_69 : decode cX7_isBound 69 = .ok (.iconst 2, 1) := by decide +kernel
theorem dX7_isBound_70 : decode cX7_isBound 70 = .ok (.bipush 14, 2) := by decide +kernel
theorem dX7_isBound_72 : decode cX7_isBound 72 = .ok (.invokestatic 58, 3) := by decide +kernel
theorem dX7_isBound_75 : decode cX7_isBound 75 = .ok (.ireturn, 1) := by decide +kernel
theorem dX7_isBound_76 : decode cX7_isBound 76 = .ok (.iload_n 2, 1) := by decide +kernel
theorem dX7_isBound_77 : decode cX7_isBound 77 = .ok (.iconst 1, 1) := by decide +kernel
theorem dX7_isBound_78 : decode cX7_isBound 78 = .ok (.bipush 8, 2) := by decide +kernel
theorem dX7_isBound_80 : decode cX7_isBound 80 = .ok (.invokestatic 58, 3) := by decide +kernel
theorem dX7_isBound_83 : decode cX7_isBound 83 = .ok (.ireturn, 1) := by decide +kernel
theorem dX7_isBound_84 : decode cX7_isBound 84 = .ok (.iconst 0, 1) := by decide +kernel
theorem dX7_isBound_85 : decode cX7_isBound 85 = .ok (.ireturn, 1) := by decide +kernel
set_option maxRecDepth 20000 in
theorem ggX7_bound_X7_isSheet : GoodIn wsX7_bound wsX7_isSheet := goodIn_r _ [7, 8, 16, 17, 18, 19, 20, 21, 22, 23, 24, 25, 26, 27, 28, 29, 30, 31, 32, 33, 34, 35, 36, 37, 38, 39, 40, 41, 42, 43, 44, 45, 46, 47, 48, 49, 50, 51, 52, 53, 54, 55, 56, 57, 58, 59] (by decide +kernel) (by decide +kernel)
set_option maxRecDepth 20000 in
theorem gX7_bound_X7_isSheet : GoodIn wsX7_bound (wsV RX7 150 RX7 yX7_isSheet wsX7_isSheet) := goodIn_app (goodIn_of _ (by decide +kernel)) ggX7_bound_X7_isSheet
set_option maxRecDepth 20000 in
theorem ggX7_bound_X7_isBound : GoodIn wsX7_bound wsX7_isBound := goodIn_r _ [12, 1, 13, 14, 6, 15, 16, 17, 18, 19, 20, 21, 22, 23, 24, 25, 26, 27, 28, 29, 30, 31, 32, 33, 34, 35, 36, 37, 38, 39, 40, 41, 42, 43, 44, 45, 46, 47, 48, 49, 50, 51, 52, 53, 54, 55, 56, 57, 58, 59] (by decide +kernel) (by decide +kernel)
set_option maxRecDepth 20000 in
theorem gX7_bound_X7_isBound : GoodIn wsX7_bound (wsV RX7 207 RX7 yX7_isBound wsX7_isBound) := goodIn_app (goodIn_of _ (by decide +kernel)) ggX7_bound_X7_isBound
theorem dX7_bound_0 : decode cX7_bound 0 = .ok (.aload_n 0, 1) := by decide +kernel
theorem dX7_bound_1 : decode cX7_bound 1 = .ok (.invokevirtual 150, 3) := by decide +kernel
theorem dX7_bound_4 : decode cX7_bound 4 = .ok (.ifCond .ne 6, 3) := by decide +kernel
theorem dX7_bound_7 : decode cX7_bound 7 = .ok (.bipush (-103), 2) := by decide +kernel
theorem dX7_bound_9 : decode cX7_bound 9 = .ok (.ireturn, 1) := by decide +kernel
theorem dX7_bound_10 : decode cX7_bound 10 = .ok (.aload_n 0, 1) := by decide +kernel
theorem dX7_bound_11 : decode cX7_bound 11 = .ok (.iload_n 1, 1) := by decide +kernel
theorem dX7_bound_12 : decode cX7_bound 12 = .ok (.iload_n 2, 1) := by decide +kernel
theorem dX7_bound_13 : decode cX7_bound 13 = .ok (.invokevirtual 207, 3) := by decide +kernel
theorem dX7_bound_16 : decode cX7_bound 16 = .ok (.ifCond .ne 6, 3) := by decide +kernel
theorem dX7_bound_19 : decode cX7_bound 19 = .ok (.bipush (-102), 2) := by decide +kernel
theorem dX7_bound_21 : decode cX7_bound 21 = .ok (.ireturn, 1) := by decide +kernel
theorem dX7_bound_22 : decode cX7_bound 22 = .ok (.aload_n 0, 1) := by decide +kernel
theorem dX7_bound_23 : decode cX7_bound 23 = .ok (.getfield 22, 3) := by decide +kernel
theorem dX7_bound_26 : decode cX7_bound 26 = .ok (.iload_n 1, 1) := by decide +kernel
theorem dX7_bound_27 : decode cX7_bound 27 = .ok (.iaload, 1) := by decide +kernel
theorem dX7_bound_28 : decode cX7_bound 28 = .ok (.istore_n 3, 1) := by decide +kernel
theorem dX7_bound_29 : decode cX7_bound 29 = .ok (.aload_n 0, 1) := by decide +kernel
theorem dX7_bound_30 : decode cX7_bound 30 = .ok (.getfield 22, 3) := by decide +kernel
theorem dX7_bound_33 : decode cX7_bound 33 = .ok (.iload_n 1, 1) := by decide +kernel
theorem dX7_bound_34 : decode cX7_bound 34 = .ok (.iload_n 2, 1) := by decide +kernel
theorem dX7_bound_35 : decode cX7_bound 35 = .ok (.iastore, 1) := by decide +kernel
theorem dX7_bound_36 : decode cX7_bound 36 = .ok (.aload_n 0, 1) := by decide +kernel
theorem dX7_bound_37 : decode cX7_bound 37 = .ok (.iconst 0, 1) := by decide +kernel
theorem dX7_bound_38 : decode cX7_bound 38 = .ok (.putfield 124, 3) := by decide +kernel
theorem dX7_bound_41 : decode cX7_bound 41 = .ok (.iload_n 3, 1) := by decide +kernel
theorem dX7_bound_42 : decode cX7_bound 42 = .ok (.ireturn, 1) := by decide +kernel
theorem dX7_layMiddle_0 : decode cX7_layMiddle 0 = .ok (.aload_n 0, 1) := by decide +kernel
theorem dX7_layMiddle_1 : decode cX7_layMiddle 1 = .ok (.getfield 13, 3) := by decide +kernel
theorem dX7_layMiddle_4 : decode cX7_layMiddle 4 = .ok (.iload_n 2, 1) := by decide +kernel
theorem dX7_layMiddle_5 : decode cX7_layMiddle 5 = .ok (.iaload, 1) := by decide +kernel
theorem dX7_layMiddle_6 : decode cX7_layMiddle 6 = .ok (.aload_n 0, 1) := by decide +kernel
theorem dX7_layMiddle_7 : decode cX7_layMiddle 7 = .ok (.getfield 13, 3) := by decide +kernel
theorem dX7_layMiddle_10 : decode cX7_layMiddle 10 = .ok (.iload_n 1, 1) := by decide +kernel
theorem dX7_layMiddle_11 : decode cX7_layMiddle 11 = .ok (.iaload, 1) := by decide +kernel
theorem dX7_layMiddle_12 : decode cX7_layMiddle 12 = .ok (.isub, 1) := by decide +kernel
theorem dX7_layMiddle_13 : decode cX7_layMiddle 13 = .ok (.i2l, 1) := by decide +kernel
theorem dX7_layMiddle_14 : decode cX7_layMiddle 14 = .ok (.lstore 4, 2) := by decide +kernel
theorem dX7_layMiddle_16 : decode cX7_layMiddle 16 = .ok (.aload_n 0, 1) := by decide +kernel
theorem dX7_layMiddle_17 : decode cX7_layMiddle 17 = .ok (.getfield 16, 3) := by decide +kernel
theorem dX7_layMiddle_20 : decode cX7_layMiddle 20 = .ok (.iload_n 2, 1) := by decide +kernel
theorem dX7_layMiddle_21 : decode cX7_layMiddle 21 = .ok (.iaload, 1) := by decide +kernel
theorem dX7_layMiddle_22 : decode cX7_layMiddle 22 = .ok (.aload_n 0, 1) := by decide +kernel
theorem dX7_layMiddle_23 : decode cX7_layMiddle 23 = .ok (.getfield 16, 3) := by decide +kernel
theorem dX7_layMiddle_26 : decode cX7_layMiddle 26 = .ok (.iload_n 1, 1) := by decide +kernel
theorem dX7_layMiddle_27 : decode cX7_layMiddle 27 = .ok (.iaload, 1) := by decide +kernel
theorem dX7_layMiddle_28 : decode cX7_layMiddle 28 = .ok (.isub, 1) := by decide +kernel
theorem dX7_layMiddle_29 : decode cX7_layMiddle 29 = .ok (.i2l, 1) := by decide +kernel
theorem dX7_layMiddle_30 : decode cX7_layMiddle 30 = .ok (.lstore 6, 2) := by decide +kernel
theorem dX7_layMiddle_32 : decode cX7_layMiddle 32 = .ok (.aload_n 0, 1) := by decide +kernel
theorem dX7_layMiddle_33 : decode cX7_layMiddle 33 = .ok (.getfield 13, 3) := by decide +kernel
theorem dX7_layMiddle_36 : decode cX7_layMiddle 36 = .ok (.iload_n 3, 1) := by decide +kernel
theorem dX7_layMiddle_37 : decode cX7_layMiddle 37 = .ok (.iaload, 1) := by decide +kernel
theorem dX7_layMiddle_38 : decode cX7_layMiddle 38 = .ok (.aload_n 0, 1) := by decide +kernel
theorem dX7_layMiddle_39 : decode cX7_layMiddle 39 = .ok (.getfield 13, 3) := by decide +kernel
theorem dX7_layMiddle_42 : decode cX7_layMiddle 42 = .ok (.iload_n 1, 1) := by decide +kernel
theorem dX7_layMiddle_43 : decode cX7_layMiddle 43 = .ok (.iaload, 1) := by decide +kernel
theorem dX7_layMiddle_44 : decode cX7_layMiddle 44 = .ok (.isub, 1) := by decide +kernel
theorem dX7_layMiddle_45 : decode cX7_layMiddle 45 = .ok (.i2l, 1) := by decide +kernel
theorem dX7_layMiddle_46 : decode cX7_layMiddle 46 = .ok (.lstore 8, 2) := by decide +kernel
theorem dX7_layMiddle_48 : decode cX7_layMiddle 48 = .ok (.aload_n 0, 1) := by decide +kernel
theorem dX7_layMiddle_49 : decode cX7_layMiddle 49 = .ok (.getfield 16, 3) := by decide +kernel
theorem dX7_layMiddle_52 : decode cX7_layMiddle 52 = .ok (.iload_n 3, 1) := by decide +kernel
theorem dX7_layMiddle_53 : decode cX7_layMiddle 53 = .ok (.iaload, 1) := by decide +kernel
theorem dX7_layMiddle_54 : decode cX7_layMiddle 54 = .ok (.aload_n 0, 1) := by decide +kernel
theorem dX7_layMiddle_55 : decode cX7_layMiddle 55 = .ok (.getfield 16, 3) := by decide +kernel
theorem dX7_layMiddle_58 : decode cX7_layMiddle 58 = .ok (.iload_n 1, 1) := by decide +kernel
theorem dX7_layMiddle_59 : decode cX7_layMiddle 59 = .ok (.iaload, 1) := by decide +kernel
theorem dX7_layMiddle_60 : decode cX7_layMiddle 60 = .ok (.isub, 1) := by decide +kernel
theorem dX7_layMiddle_61 : decode cX7_layMiddle 61 = .ok (.i2l, 1) := by decide +kernel
theorem dX7_layMiddle_62 : decode cX7_layMiddle 62 = .ok (.lstore 10, 2) := by decide +kernel
theorem dX7_layMiddle_64 : decode cX7_layMiddle 64 = .ok (.ldc2_w 210, 3) := by decide +kernel
theorem dX7_layMiddle_67 : decode cX7_layMiddle 67 = .ok (.lload 4, 2) := by decide +kernel
theorem dX7_layMiddle_69 : decode cX7_layMiddle 69 = .ok (.lload 10, 2) := by decide +kernel
theorem dX7_layMiddle_71 : decode cX7_layMiddle 71 = .ok (.lmul, 1) := by decide +kernel
theorem dX7_layMiddle_72 : decode cX7_layMiddle 72 = .ok (.lload 6, 2) := by decide +kernel
theorem dX7_layMiddle_74 : decode cX7_layMiddle 74 = .ok (.lload 8, 2) := by decide +kernel
theorem dX7_layMiddle_76 : decode cX7_layMiddle 76 = .ok (.lmul, 1) := by decide +kernel
theorem dX7_layMiddle_77 : decode cX7_layMiddle 77 = .ok (.lsub, 1) := by decide +kernel
theorem dX7_layMiddle_78 : decode cX7_layMiddle 78 = .ok (.lmul, 1) := by decide +kernel
theorem dX7_layMiddle_79 : decode cX7_layMiddle 79 = .ok (.lstore 12, 2) := by decide +kernel
theorem dX7_layMiddle_81 : decode cX7_layMiddle 81 = .ok (.lload 4, 2) := by decide +kernel
theorem dX7_layMiddle_83 : decode cX7_layMiddle 83 = .ok (.lload 4, 2) := by decide +kernel
theorem dX7_layMiddle_85 : decode cX7_layMiddle 85 = .ok (.lmul, 1) := by decide +kernel
theorem dX7_layMiddle_86 : decode cX7_layMiddle 86 = .ok (.lload 6, 2) := by decide +kernel
theorem dX7_layMiddle_88 : decode cX7_layMiddle 88 = .ok (.lload 6, 2) := by decide +kernel
theorem dX7_layMiddle_90 : decode cX7_layMiddle 90 = .ok (.lmul, 1) := by decide +kernel
theorem dX7_layMiddle_91 : decode cX7_layMiddle 91 = .ok (.ladd, 1) := by decide +kernel
theorem dX7_layMiddle_92 : decode cX7_layMiddle 92 = .ok (.lstore 14, 2) := by decide +kernel
theorem dX7_layMiddle_94 : decode cX7_layMiddle 94 = .ok (.lload 8, 2) := by decide +kernel
theorem dX7_layMiddle_96 : decode cX7_layMiddle 96 = .ok (.lload 8, 2) := by decide +kernel
theorem dX7_layMiddle_98 : decode cX7_layMiddle 98 = .ok (.lmul, 1) := by decide +kernel
theorem dX7_layMiddle_99 : decode cX7_layMiddle 99 = .ok (.lload 10, 2) := by decide +kernel
theorem dX7_layMiddle_101 : decode cX7_layMiddle 101 = .ok (.lload 10, 2) := by decide +kernel
theorem dX7_layMiddle_103 : decode cX7_layMiddle 103 = .ok (.lmul, 1) := by decide +kernel
theorem dX7_layMiddle_104 : decode cX7_layMiddle 104 = .ok (.ladd, 1) := by decide +kernel
theorem dX7_layMiddle_105 : decode cX7_layMiddle 105 = .ok (.lstore 16, 2) := by decide +kernel
theorem dX7_layMiddle_107 : decode cX7_layMiddle 107 = .ok (.aload_n 0, 1) := by decide +kernel
theorem dX7_layMiddle_108 : decode cX7_layMiddle 108 = .ok (.lload 12, 2) := by decide +kernel
theorem dX7_layMiddle_110 : decode cX7_layMiddle 110 = .ok (.lconst 0, 1) := by decide +kernel
theorem dX7_layMiddle_111 : decode cX7_layMiddle 111 = .ok (.lcmp, 1) := by decide +kernel
theorem dX7_layMiddle_112 : decode cX7_layMiddle 112 = .ok (.ifCond .ge 9, 3) := by decide +kernel
theorem dX7_layMiddle_115 : decode cX7_layMiddle 115 = .ok (.lload 12, 2) := by decide +kernel
theorem dX7_layMiddle_117 : decode cX7_layMiddle 117 = .ok (.lneg, 1) := by decide +kernel
theorem dX7_layMiddle_118 : decode cX7_layMiddle 118 = .ok (.goto 5, 3) := by decide +kernel
theorem dX7_layMiddle_121 : decode cX7_layMiddle 121 = .ok (.lload 12, 2) := by decide +kernel
theorem dX7_layMiddle_123 : decode cX7_layMiddle 123 = .ok (.putfield 212, 3) := by decide +kernel
theorem dX7_layMiddle_126 : decode cX7_layMiddle 126 = .ok (.lload 12, 2) := by decide +kernel
theorem dX7_layMiddle_128 : decode cX7_layMiddle 128 = .ok (.lconst 0, 1) := by decide +kernel
theorem dX7_layMiddle_129 : decode cX7_layMiddle 129 = .ok (.lcmp, 1) := by decide +kernel
theorem dX7_layMiddle_130 : decode cX7_layMiddle 130 = .ok (.ifCond .ge 9, 3) := by decide +kernel
theorem dX7_layMiddle_133 : decode cX7_layMiddle 133 = .ok (.ldc2_w 215, 3) := by decide +kernel
theorem dX7_layMiddle_136 : decode cX7_layMiddle 136 = .ok (.goto 4, 3) := by decide +kernel
theorem dX7_layMiddle_139 : decode cX7_layMiddle 139 = .ok (.lconst 1, 1) := by decide +kernel
theorem dX7_layMiddle_140 : decode cX7_layMiddle 140 = .ok (.lstore 18, 2) := by decide +kernel
theorem dX7_layMiddle_142 : decode cX7_layMiddle 142 = .ok (.aload_n 0, 1) := by decide +kernel
theorem dX7_layMiddle_143 : decode cX7_layMiddle 143 = .ok (.lload 18, 2) := by decide +kernel
theorem dX7_layMiddle_145 : decode cX7_layMiddle 145 = .ok (.lload 10, 2) := by decide +kernel
theorem dX7_layMiddle_147 : decode cX7_layMiddle 147 = .ok (.lload 14, 2) := by decide +kernel
theorem dX7_layMiddle_149 : decode cX7_layMiddle 149 = .ok (.lmul, 1) := by decide +kernel
theorem dX7_layMiddle_150 : decode cX7_layMiddle 150 = .ok (.lload 6, 2) := by decide +kernel
theorem dX7_layMiddle_152 : decode cX7_layMiddle 152 = .ok (.lload 16, 2) := by decide +kernel
theorem dX7_layMiddle_154 : decode cX7_layMiddle 154 = .ok (.lmul, 1) := by decide +kernel
theorem dX7_layMiddle_155 : decode cX7_layMiddle 155 = .ok (.lsub, 1) := by decide +kernel
theorem dX7_layMiddle_156 : decode cX7_layMiddle 156 = .ok (.lmul, 1) := by decide +kernel
theorem dX7_layMiddle_157 : decode cX7_layMiddle 157 = .ok (.aload_n 0, 1) := by decide +kernel
theorem dX7_layMiddle_158 : decode cX7_layMiddle 158 = .ok (.getfield 13, 3) := by decide +kernel
theorem dX7_layMiddle_161 : decode cX7_layMiddle 161 = .ok (.iload_n 1, 1) := by decide +kernel
theorem dX7_layMiddle_162 : decode cX7_layMiddle 162 = .ok (.iaload, 1) := by decide +kernel
theorem dX7_layMiddle_163 : decode cX7_layMiddle 163 = .ok (.i2l, 1) := by decide +kernel
theorem dX7_layMiddle_164 : decode cX7_layMiddle 164 = .ok (.aload_n 0, 1) := by decide +kernel
theorem dX7_layMiddle_165 : decode cX7_layMiddle 165 = .ok (.getfield 212, 3) := by decide +kernel
theorem dX7_layMiddle_168 : decode cX7_layMiddle 168 = .ok (.lmul, 1) := by decide +kernel
theorem dX7_layMiddle_169 : decode cX7_layMiddle 169 = .ok (.ladd, 1) := by decide +kernel
theorem dX7_layMiddle_170 : decode cX7_layMiddle 170 = .ok (.putfield 217, 3) := by decide +kernel
theorem dX7_layMiddle_173 : decode cX7_layMiddle 173 = .ok (.aload_n 0, 1) := by decide +kernel
theorem dX7_layMiddle_174 : decode cX7_layMiddle 174 = .ok (.lload 18, 2) := by decide +kernel
theorem dX7_layMiddle_176 : decode cX7_layMiddle 176 = .ok (.lload 4, 2) := by decide +kernel
theorem dX7_layMiddle_178 : decode cX7_layMiddle 178 = .ok (.lload 16, 2) := by decide +kernel
theorem dX7_layMiddle_180 : decode cX7_layMiddle 180 = .ok (.lmul, 1) := by decide +kernel
theorem dX7_layMiddle_181 : decode cX7_layMiddle 181 = .ok (.lload 8, 2) := by decide +kernel
theorem dX7_layMiddle_183 : decode cX7_layMiddle 183 = .ok (.lload 14, 2) := by decide +kernel
theorem dX7_layMiddle_185 : decode cX7_layMiddle 185 = .ok (.lmul, 1) := by decide +kernel
theorem dX7_layMiddle_186 : decode cX7_layMiddle 186 = .ok (.lsub, 1) := by decide +kernel
theorem dX7_layMiddle_187 : decode cX7_layMiddle 187 = .ok (.lmul, 1) := by decide +kernel
theorem dX7_layMiddle_188 : decode cX7_layMiddle 188 = .ok (.aload_n 0, 1) := by decide +kernel
theorem dX7_layMiddle_189 : decode cX7_layMiddle 189 = .ok (.getfield 16, 3) := by decide +kernel
theorem dX7_layMiddle_192 : decode cX7_layMiddle 192 = .ok (.iload_n 1, 1) := by decide +kernel
theorem dX7_layMiddle_193 : decode cX7_layMiddle 193 = .ok (.iaload, 1) := by decide +kernel
theorem dX7_layMiddle_194 : decode cX7_layMiddle 194 = .ok (.i2l, 1) := by decide +kernel
theorem dX7_layMiddle_195 : decode cX7_layMiddle 195 = .ok (.aload_n 0, 1) := by decide +kernel
theorem dX7_layMiddle_196 : decode cX7_layMiddle 196 = .ok (.getfield 212, 3) := by decide +kernel
theorem dX7_layMiddle_199 : decode cX7_layMiddle 199 = .ok (.lmul, 1) := by decide +kernel
theorem dX7_layMiddle_200 : decode cX7_layMiddle 200 = .ok (.ladd, 1) := by decide +kernel
theorem dX7_layMiddle_201 : decode cX7_layMiddle 201 = .ok (.putfield 220, 3) := by decide +kernel
theorem dX7_layMiddle_204 : decode cX7_layMiddle 204 = .ok (.lload 12, 2) := by decide +kernel
theorem dX7_layMiddle_206 : decode cX7_layMiddle 206 = .ok (.lconst 0, 1) := by decide +kernel
theorem dX7_layMiddle_207 : decode cX7_layMiddle 207 = .ok (.lcmp, 1) := by decide +kernel
theorem dX7_layMiddle_208 : decode cX7_layMiddle 208 = .ok (.ifCond .eq 7, 3) := by decide +kernel
theorem dX7_layMiddle_211 : decode cX7_layMiddle 211 = .ok (.iconst 1, 1) := by decide +kernel
theorem dX7_layMiddle_212 : decode cX7_layMiddle 212 = .ok (.goto 4, 3) := by decide +kernel
theorem dX7_layMiddle_215 : decode cX7_layMiddle 215 = .ok (.iconst 0, 1) := by decide +kernel
theorem dX7_layMiddle_216 : decode cX7_layMiddle 216 = .ok (.ireturn, 1) := by decide +kernel
theorem dX7_floor_0 : decode cX7_floor 0 = .ok (.lload_n 0, 1) := by decide +kernel
theorem dX7_floor_1 : decode cX7_floor 1 = .ok (.lload_n 2, 1) := by decide +kernel
theorem dX7_floor_2 : decode cX7_floor 2 = .ok (.ldiv, 1) := by decide +kernel
theorem dX7_floor_3 : decode cX7_floor 3 = .ok (.lstore 4, 2) := by decide +kernel
theorem dX7_floor_5 : decode cX7_floor 5 = .ok (.lload 4, 2) := by decide +kernel
theorem dX7_floor_7 : decode cX7_floor 7 = .ok (.lload_n 2, 1) := by decide +kernel
theorem dX7_floor_8 : decode cX7_floor 8 = .ok (.lmul, 1) := by decide +kernel
theorem dX7_floor_9 : decode cX7_floor 9 = .ok (.lload_n 0, 1) := by decide +kernel
theorem dX7_floor_10 : decode cX7_floor 10 = .ok (.lcmp, 1) := by decide +kernel
theorem dX7_floor_11 : decode cX7_floor 11 = .ok (.ifCond .le 10, 3) := by decide +kernel
theorem dX7_floor_14 : decode cX7_floor 14 = .ok (.lload 4, 2) := by decide +kernel
theorem dX7_floor_16 : decode cX7_floor 16 = .ok (.lconst 1, 1) := by decide +kernel
theorem dX7_floor_17 : decode cX7_floor 17 = .ok (.lsub, 1) := by decide +kernel
theorem dX7_floor_18 : decode cX7_floor 18 = .ok (.goto 5, 3) := by decide +kernel
theorem dX7_floor_21 : decode cX7_floor 21 = .ok (.lload 4, 2) := by decide +kernel
theorem dX7_floor_23 : decode cX7_floor 23 = .ok (.l2i, 1) := by decide +kernel
theorem dX7_floor_24 : decode cX7_floor 24 = .ok (.ireturn, 1) := by decide +kernel
set_option maxRecDepth 20000 in
theorem ggX7_agrees_X7_turnX : GoodIn wsX7_agrees wsX7_turnX := goodIn_r _ [7] (by decide +kernel) (by decide +kernel)
set_option maxRecDepth 20000 in
theorem gX7_agrees_X7_turnX : GoodIn wsX7_agrees (va_wsS RX7 174 yX7_turnX wsX7_turnX) := goodIn_app (goodIn_of _ (by decide +kernel)) ggX7_agrees_X7_turnX
set_option maxRecDepth 20000 in
theorem ggX7_agrees_X7_turnY : GoodIn wsX7_agrees wsX7_turnY := goodIn_r _ [10] (by decide +kernel) (by decide +kernel)
set_option maxRecDepth 20000 in
theorem gX7_agrees_X7_turnY : GoodIn wsX7_agrees (va_wsS RX7 177 yX7_turnY wsX7_turnY) := goodIn_app (goodIn_of _ (by decide +kernel)) ggX7_agrees_X7_turnY
theorem dX7_agrees_0 : decode cX7_agrees 0 = .ok (.aload_n 0, 1) := by decide +kernel
theorem dX7_agrees_1 : decode cX7_agrees 1 = .ok (.getfield 19, 3) := by decide +kernel
theorem dX7_agrees_4 : decode cX7_agrees 4 = .ok (.iload 7, 2) := by decide +kernel
theorem dX7_agrees_6 : decode cX7_agrees 6 = .ok (.iaload, 1) := by decide +kernel
theorem dX7_agrees_7 : decode cX7_agrees 7 = .ok (.iconst (-1), 1) := by decide +kernel
theorem dX7_agrees_8 : decode cX7_agrees 8 = .ok (.if_icmp .ne 5, 3) := by decide +kernel
theorem dX7_agrees_11 : decode cX7_agrees 11 = .ok (.iconst 1, 1) := by decide +kernel
theorem dX7_agrees_12 : decode cX7_agrees 12 = .ok (.ireturn, 1) := by decide +kernel
theorem dX7_agrees_13 : decode cX7_agrees 13 = .ok (.lload_n 1, 1) := by decide +kernel
theorem dX7_agrees_14 : decode cX7_agrees 14 = .ok (.aload_n 0, 1) := by decide +kernel
theorem dX7_agrees_15 : decode cX7_agrees 15 = .ok (.getfield 13, 3) := by decide +kernel
theorem dX7_agrees_18 : decode cX7_agrees 18 = .ok (.iload 7, 2) := by decide +kernel
theorem dX7_agrees_20 : decode cX7_agrees 20 = .ok (.iaload, 1) := by decide +kernel
theorem dX7_agrees_21 : decode cX7_agrees 21 = .ok (.i2l, 1) := by decide +kernel
theorem dX7_agrees_22 : decode cX7_agrees 22 = .ok (.lload 5, 2) := by decide +kernel
theorem dX7_agrees_24 : decode cX7_agrees 24 = .ok (.lmul, 1) := by decide +kernel
theorem dX7_agrees_25 : decode cX7_agrees 25 = .ok (.lsub, 1) := by decide +kernel
theorem dX7_agrees_26 : decode cX7_agrees 26 = .ok (.lstore 8, 2) := by decide +kernel
theorem dX7_agrees_28 : decode cX7_agrees 28 = .ok (.lload_n 3, 1) := by decide +kernel
theorem dX7_agrees_29 : decode cX7_agrees 29 = .ok (.aload_n 0, 1) := by decide +kernel
theorem dX7_agrees_30 : decode cX7_agrees 30 = .ok (.getfield 16, 3) := by decide +kernel
theorem dX7_agrees_33 : decode cX7_agrees 33 = .ok (.iload 7, 2) := by decide +kernel
theorem dX7_agrees_35 : decode cX7_agrees 35 = .ok (.iaload, 1) := by decide +kernel
theorem dX7_agrees_36 : decode cX7_agrees 36 = .ok (.i2l, 1) := by decide +kernel
theorem dX7_agrees_37 : decode cX7_agrees 37 = .ok (.lload 5, 2) := by decide +kernel
theorem dX7_agrees_39 : decode cX7_agrees 39 = .ok (.lmul, 1) := by decide +kernel
theorem dX7_agrees_40 : decode cX7_agrees 40 = .ok (.lsub, 1) := by decide +kernel
theorem dX7_agrees_41 : decode cX7_agrees 41 = .ok (.lstore 10, 2) := by decide +kernel
theorem dX7_agrees_43 : decode cX7_agrees 43 = .ok (.aload_n 0, 1) := by decide +kernel
theorem dX7_agrees_44 : decode cX7_agrees 44 = .ok (.getfield 19, 3) := by decide +kernel
theorem dX7_agrees_47 : decode cX7_agrees 47 = .ok (.iload 7, 2) := by decide +kernel
theorem dX7_agrees_49 : decode cX7_agrees 49 = .ok (.iaload, 1) := by decide +kernel
theorem dX7_agrees_50 : decode cX7_agrees 50 = .ok (.invokestatic 174, 3) := by decide +kernel
theorem dX7_agrees_53 : decode cX7_agrees 53 = .ok (.istore 12, 2) := by decide +kernel
theorem dX7_agrees_55 : decode cX7_agrees 55 = .ok (.aload_n 0, 1) := by decide +kernel
theorem dX7_agrees_56 : decode cX7_agrees 56 = .ok (.getfield 19, 3) := by decide +kernel
theorem dX7_agrees_59 : decode cX7_agrees 59 = .ok (.iload 7, 2) := by decide +kernel
theorem dX7_agrees_61 : decode cX7_agrees 61 = .ok (.iaload, 1) := by decide +kernel
theorem dX7_agrees_62 : decode cX7_agrees 62 = .ok (.invokestatic 177, 3) := by decide +kernel
theorem dX7_agrees_65 : decode cX7_agrees 65 = .ok (.istore 13, 2) := by decide +kernel
theorem dX7_agrees_67 : decode cX7_agrees 67 = .ok (.lload 8, 2) := by decide +kernel
theorem dX7_agrees_69 : decode cX7_agrees 69 = .ok (.iload 12, 2) := by decide +kernel
theorem dX7_agrees_71 : decode cX7_agrees 71 = .ok (.i2l, 1) := by decide +kernel
theorem dX7_agrees_72 : decode cX7_agrees 72 = .ok (.lmul, 1) := by decide +kernel
theorem dX7_agrees_73 : decode cX7_agrees 73 = .ok (.lload 10, 2) := by decide +kernel
theorem dX7_agrees_75 : decode cX7_agrees 75 = .ok (.iload 13, 2) := by decide +kernel
theorem dX7_agrees_77 : decode cX7_agrees 77 = .ok (.i2l, 1) := by decide +kernel
theorem dX7_agrees_78 : decode cX7_agrees 78 = .ok (.lmul, 1) := by decide +kernel
theorem dX7_agrees_79 : decode cX7_agrees 79 = .ok (.ladd, 1) := by decide +kernel
theorem dX7_agrees_80 : decode cX7_agrees 80 = .ok (.lstore 14, 2) := by decide +kernel
theorem dX7_agrees_82 : decode cX7_agrees 82 = .ok (.lload 8, 2) := by decide +kernel
theorem dX7_agrees_84 : decode cX7_agrees 84 = .ok (.iload 13, 2) := by decide +kernel
theorem dX7_agrees_86 : decode cX7_agrees 86 = .ok (.i2l, 1) := by decide +kernel
theorem dX7_agrees_87 : decode cX7_agrees 87 = .ok (.lmul, 1) := by decide +kernel
theorem dX7_agrees_88 : decode cX7_agrees 88 = .ok (.lload 10, 2) := by decide +kernel
theorem dX7_agrees_90 : decode cX7_agrees 90 = .ok (.iload 12, 2) := by decide +kernel
theorem dX7_agrees_92 : decode cX7_agrees 92 = .ok (.i2l, 1) := by decide +kernel
theorem dX7_agrees_93 : decode cX7_agrees 93 = .ok (.lmul, 1) := by decide +kernel
theorem dX7_agrees_94 : decode cX7_agrees 94 = .ok (.lsub, 1) := by decide +kernel
theorem dX7_agrees_95 : decode cX7_agrees 95 = .ok (.lstore 16, 2) := by decide +kernel
theorem dX7_agrees_97 : decode cX7_agrees 97 = .ok (.lload 14, 2) := by decide +kernel
theorem dX7_agrees_99 : decode cX7_agrees 99 = .ok (.lconst 0, 1) := by decide +kernel
theorem dX7_agrees_100 : decode cX7_agrees 100 = .ok (.lcmp, 1) := by decide +kernel
theorem dX7_agrees_101 : decode cX7_agrees 101 = .ok (.ifCond .le 24, 3) := by decide +kernel
theorem dX7_agrees_104 : decode cX7_agrees 104 = .ok (.lload 16, 2) := by decide +kernel
theorem dX7_agrees_106 : decode cX7_agrees 106 = .ok (.lload 14, 2) := by decide +kernel
theorem dX7_agrees_108 : decode cX7_agrees 108 = .ok (.lcmp, 1) := by decide +kernel
theorem dX7_agrees_109 : decode cX7_agrees 109 = .ok (.ifCond .gt 16, 3) := by decide +kernel
theorem dX7_agrees_112 : decode cX7_agrees 112 = .ok (.lload 16, 2) := by decide +kernel
theorem dX7_agrees_114 : decode cX7_agrees 114 = .ok (.lneg, 1) := by decide +kernel
theorem dX7_agrees_115 : decode cX7_agrees 115 = .ok (.lload 14, 2) := by decide +kernel
theorem dX7_agrees_117 : decode cX7_agrees 117 = .ok (.lcmp, 1) := by decide +kernel
theorem dX7_agrees_118 : decode cX7_agrees 118 = .ok (.ifCond .gt 7, 3) := by decide +kernel
theorem dX7_agrees_121 : decode cX7_agrees 121 = .ok (.iconst 1, 1) := by decide +kernel
theorem dX7_agrees_122 : decode cX7_agrees 122 = .ok (.goto 4, 3) := by decide +kernel
theorem dX7_agrees_125 : decode cX7_agrees 125 = .ok (.iconst 0, 1) := by decide +kernel
theorem dX7_agrees_126 : decode cX7_agrees 126 = .ok (.ireturn, 1) := by decide +kernel
set_option maxRecDepth 20000 in
theorem ggX7_agreeing_X7_agrees : GoodIn wsX7_agreeing wsX7_agrees := goodIn_r _ [8, 9, 10, 11, 12, 13, 7, 14, 15, 16, 17, 18, 19, 20, 21, 22, 23, 24, 25, 26, 27, 28, 29, 30, 31, 32, 33, 34, 35, 36, 37, 38, 39, 40, 41, 42, 43, 44, 45, 46, 47, 48, 49, 50, 51, 52, 53, 54, 55, 56, 57, 58, 59, 60, 61] (by decide +kernel) (by decide +kernel)
set_option maxRecDepth 20000 in
theorem gX7_agreeing_X7_agrees : GoodIn wsX7_agreeing (wsV RX7 223 RX7 yX7_agrees wsX7_agrees) := goodIn_app (goodIn_of _ (by decide +kernel)) ggX7_agreeing_X7_agrees
theorem dX7_agreeing_0 : decode cX7_agreeing 0 = .ok (.aload_n 0, 1) := by decide +kernel
theorem dX7_agreeing_1 : decode cX7_agreeing 1 = .ok (.aload_n 0, 1) := by decide +kernel
theorem dX7_agreeing_2 : decode cX7_agreeing 2 = .ok (.getfield 217, 3) := by decide +kernel
theorem dX7_agreeing_5 : decode cX7_agreeing 5 = .ok (.aload_n 0, 1) := by decide +kernel
theorem dX7_agreeing_6 : decode cX7_agreeing 6 = .ok (.getfield 220, 3) := by decide +kernel
theorem dX7_agreeing_9 : decode cX7_agreeing 9 = .ok (.aload_n 0, 1) := by decide +kernel
theorem dX7_agreeing_10 : decode cX7_agreeing 10 = .ok (.getfield 212, 3) := by decide +kernel
theorem dX7_agreeing_13 : decode cX7_agreeing 13 = .ok (.iload_n 1, 1) := by decide +kernel
theorem dX7_agreeing_14 : decode cX7_agreeing 14 = .ok (.invokevirtual 223, 3) := by decide +kernel
theorem dX7_agreeing_17 : decode cX7_agreeing 17 = .ok (.ifCond .eq 7, 3) := by decide +kernel
theorem dX7_agreeing_20 : decode cX7_agreeing 20 = .ok (.iconst 1, 1) := by decide +kernel
theorem dX7_agreeing_21 : decode cX7_agreeing 21 = .ok (.goto 4, 3) := by decide +kernel
theorem dX7_agreeing_24 : decode cX7_agreeing 24 = .ok (.iconst 0, 1) := by decide +kernel
theorem dX7_agreeing_25 : decode cX7_agreeing 25 = .ok (.aload_n 0, 1) := by decide +kernel
theorem dX7_agreeing_26 : decode cX7_agreeing 26 = .ok (.aload_n 0, 1) := by decide +kernel
theorem dX7_agreeing_27 : decode cX7_agreeing 27 = .ok (.getfield 217, 3) := by decide +kernel
theorem dX7_agreeing_30 : decode cX7_agreeing 30 = .ok (.aload_n 0, 1) := by decide +kernel
theorem dX7_agreeing_31 : decode cX7_agreeing 31 = .ok (.getfield 220, 3) := by decide +kernel
theorem dX7_agreeing_34 : decode cX7_agreeing 34 = .ok (.aload_n 0, 1) := by decide +kernel
theorem dX7_agreeing_35 : decode cX7_agreeing 35 = .ok (.getfield 212, 3) := by decide +kernel
theorem dX7_agreeing_38 : decode cX7_agreeing 38 = .ok (.iload_n 2, 1) := by decide +kernel
theorem dX7_agreeing_39 : decode cX7_agreeing 39 = .ok (.invokevirtual 223, 3) := by decide +kernel
theorem dX7_agreeing_42 : decode cX7_agreeing 42 = .ok (.ifCond .eq 7, 3) := by decide +kernel
theorem dX7_agreeing_45 : decode cX7_agreeing 45 = .ok (.iconst 1, 1) := by decide +kernel
theorem dX7_agreeing_46 : decode cX7_agreeing 46 = .ok (.goto 4, 3) := by decide +kernel
theorem dX7_agreeing_49 : decode cX7_agreeing 49 = .ok (.iconst 0, 1) := by decide +kernel
theorem dX7_agreeing_50 : decode cX7_agreeing 50 = .ok (.iadd, 1) := by decide +kernel
theorem dX7_agreeing_51 : decode cX7_agreeing 51 = .ok (.aload_n 0, 1) := by decide +kernel
theorem dX7_agreeing_52 : decode cX7_agreeing 52 = .ok (.aload_n 0, 1) := by decide +kernel
theorem dX7_agreeing_53 : decode cX7_agreeing 53 = .ok (.getfield 217, 3) := by decide +kernel
theorem dX7_agreeing_56 : decode cX7_agreeing 56 = .ok (.aload_n 0, 1) := by decide +kernel
theorem dX7_agreeing_57 : decode cX7_agreeing 57 = .ok (.getfield 220, 3) := by decide +kernel
theorem dX7_agreeing_60 : decode cX7_agreeing 60 = .ok (.aload_n 0, 1) := by decide +kernel
theorem dX7_agreeing_61 : decode cX7_agreeing 61 = .ok (.getfield 212, 3) := by decide +kernel
theorem dX7_agreeing_64 : decode cX7_agreeing 64 = .ok (.iload_n 3, 1) := by decide +kernel
theorem dX7_agreeing_65 : decode cX7_agreeing 65 = .ok (.invokevirtual 223, 3) := by decide +kernel
theorem dX7_agreeing_68 : decode cX7_agreeing 68 = .ok (.ifCond .eq 7, 3) := by decide +kernel
theorem dX7_agreeing_71 : decode cX7_agreeing 71 = .ok (.iconst 1, 1) := by decide +kernel
theorem dX7_agreeing_72 : decode cX7_agreeing 72 = .ok (.goto 4, 3) := by decide +kernel
theorem dX7_agreeing_75 : decode cX7_agreeing 75 = .ok (.iconst 0, 1) := by decide +kernel
theorem dX7_agreeing_76 : decode cX7_agreeing 76 = .ok (.iadd, 1) := by decide +kernel
theorem dX7_agreeing_77 : decode cX7_agreeing 77 = .ok (.ireturn, 1) := by decide +kernel
theorem dX7_radius_0 : decode cX7_radius 0 = .ok (.aload_n 0, 1) := by decide +kernel
theorem dX7_radius_1 : decode cX7_radius 1 = .ok (.getfield 217, 3) := by decide +kernel
theorem dX7_radius_4 : decode cX7_radius 4 = .ok (.aload_n 0, 1) := by decide +kernel
theorem dX7_radius_5 : decode cX7_radius 5 = .ok (.getfield 13, 3) := by decide +kernel
theorem dX7_radius_8 : decode cX7_radius 8 = .ok (.iload_n 1, 1) := by decide +kernel
theorem dX7_radius_9 : decode cX7_radius 9 = .ok (.iaload, 1) := by decide +kernel
theorem dX7_radius_10 : decode cX7_radius 10 = .ok (.i2l, 1) := by decide +kernel
theorem dX7_radius_11 : decode cX7_radius 11 = .ok (.aload_n 0, 1) := by decide +kernel
theorem dX7_radius_12 : decode cX7_radius 12 = .ok (.getfield 212, 3) := by decide +kernel
theorem dX7_radius_15 : decode cX7_radius 15 = .ok (.lmul, 1) := by decide +kernel
theorem dX7_radius_16 : decode cX7_radius 16 = .ok (.lsub, 1) := by decide +kernel
theorem dX7_radius_17 : decode cX7_radius 17 = .ok (.lstore_n 2, 1) := by decide +kernel
theorem dX7_radius_18 : decode cX7_radius 18 = .ok (.aload_n 0, 1) := by decide +kernel
theorem dX7_radius_19 : decode cX7_radius 19 = .ok (.getfield 220, 3) := by decide +kernel
theorem dX7_radius_22 : decode cX7_radius 22 = .ok (.aload_n 0, 1) := by decide +kernel
theorem dX7_radius_23 : decode cX7_radius 23 = .ok (.getfield 16, 3) := by decide +kernel
theorem dX7_radius_26 : decode cX7_radius 26 = .ok (.iload_n 1, 1) := by decide +kernel
theorem dX7_radius_27 : decode cX7_radius 27 = .ok (.iaload, 1) := by decide +kernel
theorem dX7_radius_28 : decode cX7_radius 28 = .ok (.i2l, 1) := by decide +kernel
theorem dX7_radius_29 : decode cX7_radius 29 = .ok (.aload_n 0, 1) := by decide +kernel
theorem dX7_radius_30 : decode cX7_radius 30 = .ok (.getfield 212, 3) := by decide +kernel
theorem dX7_radius_33 : decode cX7_radius 33 = .ok (.lmul, 1) := by decide +kernel
theorem dX7_radius_34 : decode cX7_radius 34 = .ok (.lsub, 1) := by decide +kernel
theorem dX7_radius_35 : decode cX7_radius 35 = .ok (.lstore 4, 2) := by decide +kernel
theorem dX7_radius_37 : decode cX7_radius 37 = .ok (.lload_n 2, 1) := by decide +kernel
theorem dX7_radius_38 : decode cX7_radius 38 = .ok (.lload_n 2, 1) := by decide +kernel
theorem dX7_radius_39 : decode cX7_radius 39 = .ok (.lmul, 1) := by decide +kernel
theorem dX7_radius_40 : decode cX7_radius 40 = .ok (.lload 4, 2) := by decide +kernel
theorem dX7_radius_42 : decode cX7_radius 42 = .ok (.lload 4, 2) := by decide +kernel
theorem dX7_radius_44 : decode cX7_radius 44 = .ok (.lmul, 1) := by decide +kernel
theorem dX7_radius_45 : decode cX7_radius 45 = .ok (.ladd, 1) := by decide +kernel
theorem dX7_radius_46 : decode cX7_radius 46 = .ok (.lstore 6, 2) := by decide +kernel
theorem dX7_radius_48 : decode cX7_radius 48 = .ok (.lconst 0, 1) := by decide +kernel
theorem dX7_radius_49 : decode cX7_radius 49 = .ok (.lstore 8, 2) := by decide +kernel
theorem dX7_radius_51 : decode cX7_radius 51 = .ok (.ldc2_w 227, 3) := by decide +kernel
theorem dX7_radius_54 : decode cX7_radius 54 = .ok (.lstore 10, 2) := by decide +kernel
theorem dX7_radius_56 : decode cX7_radius 56 = .ok (.lload 10, 2) := by decide +kernel
theorem dX7_radius_58 : decode cX7_radius 58 = .ok (.lload 8, 2) := by decide +kernel
theorem dX7_radius_60 : decode cX7_radius 60 = .ok (.lsub, 1) := by decide +kernel
theorem dX7_radius_61 : decode cX7_radius 61 = .ok (.lconst 1, 1) := by decide +kernel
theorem dX7_radius_62 : decode cX7_radius 62 = .ok (.lcmp, 1) := by decide +kernel
theorem dX7_radius_63 : decode cX7_radius 63 = .ok (.ifCond .le 73, 3) := by decide +kernel
theorem dX7_radius_66 : decode cX7_radius 66 = .ok (.lload 8, 2) := by decide +kernel
theorem dX7_radius_68 : decode cX7_radius 68 = .ok (.lload 10, 2) := by decide +kernel
theorem dX7_radius_70 : decode cX7_radius 70 = .ok (.ladd, 1) := by decide +kernel
theorem dX7_radius_71 : decode cX7_radius 71 = .ok (.ldc2_w 210, 3) := by decide +kernel
theorem dX7_radius_74 : decode cX7_radius 74 = .ok (.ldiv, 1) := by decide +kernel
theorem dX7_radius_75 : decode cX7_radius 75 = .ok (.lstore 12, 2) := by decide +kernel
theorem dX7_radius_77 : decode cX7_radius 77 = .ok (.lload 12, 2) := by decide +kernel
theorem dX7_radius_79 : decode cX7_radius 79 = .ok (.lload 12, 2) := by decide +kernel
theorem dX7_radius_81 : decode cX7_radius 81 = .ok (.lmul, 1) := by decide +kernel
theorem dX7_radius_82 : decode cX7_radius 82 = .ok (.aload_n 0, 1) := by decide +kernel
theorem dX7_radius_83 : decode cX7_radius 83 = .ok (.getfield 212, 3) := by decide +kernel
theorem dX7_radius_86 : decode cX7_radius 86 = .ok (.lmul, 1) := by decide +kernel
theorem dX7_radius_87 : decode cX7_radius 87 = .ok (.aload_n 0, 1) := by decide +kernel
theorem dX7_radius_88 : decode cX7_radius 88 = .ok (.getfield 212, 3) := by decide +kernel
theorem dX7_radius_91 : decode cX7_radius 91 = .ok (.lmul, 1) := by decide +kernel
theorem dX7_radius_92 : decode cX7_radius 92 = .ok (.lload 6, 2) := by decide +kernel
theorem dX7_radius_94 : decode cX7_radius 94 = .ok (.lcmp, 1) := by decide +kernel
theorem dX7_radius_95 : decode cX7_radius 95 = .ok (.ifCond .gt 7, 3) := by decide +kernel
theorem dX7_radius_98 : decode cX7_radius 98 = .ok (.iconst 1, 1) := by decide +kernel
theorem dX7_radius_99 : decode cX7_radius 99 = .ok (.goto 4, 3) := by decide +kernel
theorem dX7_radius_102 : decode cX7_radius 102 = .ok (.iconst 0, 1) := by decide +kernel
theorem dX7_radius_103 : decode cX7_radius 103 = .ok (.istore 14, 2) := by decide +kernel
theorem dX7_radius_105 : decode cX7_radius 105 = .ok (.iload 14, 2) := by decide +kernel
theorem dX7_radius_107 : decode cX7_radius 107 = .ok (.ifCond .eq 8, 3) := by decide +kernel
theorem dX7_radius_110 : decode cX7_radius 110 = .ok (.lload 12, 2) := by decide +kernel
theorem dX7_radius_112 : decode cX7_radius 112 = .ok (.goto 5, 3) := by decide +kernel
theorem dX7_radius_115 : decode cX7_radius 115 = .ok (.lload 8, 2) := by decide +kernel
theorem dX7_radius_117 : decode cX7_radius 117 = .ok (.lstore 8, 2) := by decide +kernel
theorem dX7_radius_119 : decode cX7_radius 119 = .ok (.iload 14, 2) := by decide +kernel
theorem dX7_radius_121 : decode cX7_radius 121 = .ok (.ifCond .eq 8, 3) := by decide +kernel
theorem dX7_radius_124 : decode cX7_radius 124 = .ok (.lload 10, 2) := by decide +kernel
theorem dX7_radius_126 : decode cX7_radius 126 = .ok (.goto 5, 3) := by decide +kernel
theorem dX7_radius_129 : decode cX7_radius 129 = .ok (.lload 12, 2) := by decide +kernel
theorem dX7_radius_131 : decode cX7_radius 131 = .ok (.lstore 10, 2) := by decide +kernel
theorem dX7_radius_133 : decode cX7_radius 133 = .ok (.goto (-77), 3) := by decide +kernel
theorem dX7_radius_136 : decode cX7_radius 136 = .ok (.lload 8, 2) := by decide +kernel
theorem dX7_radius_138 : decode cX7_radius 138 = .ok (.l2i, 1) := by decide +kernel
theorem dX7_radius_139 : decode cX7_radius 139 = .ok (.ireturn, 1) := by decide +kernel
set_option maxRecDepth 20000 in
theorem ggX7_isVote_X7_floor : GoodIn wsX7_isVote wsX7_floor := goodIn_r _ [11] (by decide +kernel) (by decide +kernel)
set_option maxRecDepth 20000 in
theorem gX7_isVote_X7_floor : GoodIn wsX7_isVote (va_wsS RX7 229 yX7_floor wsX7_floor) := goodIn_app (goodIn_of _ (by decide +kernel)) ggX7_isVote_X7_floor
set_option maxRecDepth 20000 in
theorem ggX7_isVote_X7_isOn : GoodIn wsX7_isVote wsX7_isOn := goodIn_r _ [15, 16, 17, 18, 19, 10, 20, 44, 45, 46, 47, 48, 49, 50, 51, 52, 53, 54, 55, 56, 57, 58, 59, 60, 61, 62, 63, 64, 65, 66, 67, 68, 69, 70, 71, 72, 73, 74, 75, 76, 77, 78, 79, 80, 81, 82, 83, 84, 85, 86, 87] (by decide +kernel) (by decide +kernel)
set_option maxRecDepth 20000 in
theorem gX7_isVote_X7_isOn : GoodIn wsX7_isVote (wsV RX7 157 RX7 yX7_isOn wsX7_isOn) := goodIn_app (goodIn_of _ (by decide +kernel)) ggX7_isVote_X7_isOn
set_option maxRecDepth 20000 in
theorem ggX7_isVote_X7_agreeing : GoodIn wsX7_isVote wsX7_agreeing := goodIn_r _ [24, 1, 4, 2, 25, 26, 27, 10, 28, 29, 30, 31, 32, 33, 34, 35, 36, 37, 44, 45, 46, 47, 48, 49, 50, 51, 52, 53, 54, 55, 56, 57, 58, 59, 60, 61, 62, 63, 64, 65, 66, 67, 68, 69, 70, 71, 72, 73, 74, 75, 76, 77, 78, 79, 80, 81, 82, 83, 84, 85, 86, 87] (by decide +kernel) (by decide +kernel)
set_option maxRecDepth 20000 in
theorem gX7_isVote_X7_agreeing : GoodIn wsX7_isVote (wsV RX7 239 RX7 yX7_agreeing wsX7_agreeing) := goodIn_app (goodIn_of _ (by decide +kernel)) ggX7_isVote_X7_agreeing
set_option maxRecDepth 20000 in
theorem ggX7_isVote_X7_radius : GoodIn wsX7_isVote wsX7_radius := goodIn_r _ [41, 1, 30, 2, 4, 31, 42, 43, 44, 45, 46, 47, 48, 49, 50, 51, 52, 53, 54, 55, 56, 57, 58, 59, 60, 61, 62, 63, 64, 65, 66, 67, 68, 69, 70, 71, 72, 73, 74, 75, 76, 77, 78, 79, 80, 81, 82, 83, 84, 85, 86, 87] (by decide +kernel) (by decide +kernel)
set_option maxRecDepth 20000 in
theorem gX7_isVote_X7_radius : GoodIn wsX7_isVote (wsV RX7 243 RX7 yX7_radius wsX7_radius) := goodIn_app (goodIn_of _ (by decide +kernel)) ggX7_isVote_X7_radius
set_option maxRecDepth 20000 in
theorem ggX7_isVote_X7_within : GoodIn wsX7_isVote wsX7_within := goodIn_r _ [20] (by decide +kernel) (by decide +kernel)
set_option maxRecDepth 20000 in
theorem gX7_isVote_X7_within : GoodIn wsX7_isVote (va_wsS RX7 58 yX7_within wsX7_within) := goodIn_app (goodIn_of _ (by decide +kernel)) ggX7_isVote_X7_within
theorem dX7_isVote_0 : decode cX7_isVote 0 = .ok (.aload_n 0, 1) := by decide +kernel
theorem dX7_isVote_1 : decode cX7_isVote 1 = .ok (.aload_n 0, 1) := by decide +kernel
theorem dX7_isVote_2 : decode cX7_isVote 2 = .ok (.getfield 217, 3) := by decide +kernel
theorem dX7_isVote_5 : decode cX7_isVote 5 = .ok (.aload_n 0, 1) := by decide +kernel
theorem dX7_isVote_6 : decode cX7_isVote 6 = .ok (.getfield 212, 3) := by decide +kernel
theorem dX7_isVote_9 : decode cX7_isVote 9 = .ok (.invokestatic 229, 3) := by decide +kernel
theorem dX7_isVote_12 : decode cX7_isVote 12 = .ok (.putfield 233, 3) := by decide +kernel
theorem dX7_isVote_15 : decode cX7_isVote 15 = .ok (.aload_n 0, 1) := by decide +kernel
theorem dX7_isVote_16 : decode cX7_isVote 16 = .ok (.aload_n 0, 1) := by decide +kernel
theorem dX7_isVote_17 : decode cX7_isVote 17 = .ok (.getfield 220, 3) := by decide +kernel
theorem dX7_isVote_20 : decode cX7_isVote 20 = .ok (.aload_n 0, 1) := by decide +kernel
theorem dX7_isVote_21 : decode cX7_isVote 21 = .ok (.getfield 212, 3) := by decide +kernel
theorem dX7_isVote_24 : decode cX7_isVote 24 = .ok (.invokestatic 229, 3) := by decide +kernel
theorem dX7_isVote_27 : decode cX7_isVote 27 = .ok (.putfield 236, 3) := by decide +kernel
theorem dX7_isVote_30 : decode cX7_isVote 30 = .ok (.aload_n 0, 1) := by decide +kernel
theorem dX7_isVote_31 : decode cX7_isVote 31 = .ok (.aload_n 0, 1) := by decide +kernel
theorem dX7_isVote_32 : decode cX7_isVote 32 = .ok (.getfield 233, 3) := by decide +kernel
theorem dX7_isVote_35 : decode cX7_isVote 35 = .ok (.aload_n 0, 1) := by decide +kernel
theorem dX7_isVote_36 : decode cX7_isVote 36 = .ok (.getfield 236, 3) := by decide +kernel
theorem dX7_isVote_39 : decode cX7_isVote 39 = .ok (.invokevirtual 157, 3) := by decide +kernel
theorem dX7_isVote_42 : decode cX7_isVote 42 = .ok (.ifCond .eq 14, 3) := by decide +kernel
theorem dX7_isVote_45 : decode cX7_isVote 45 = .ok (.aload_n 0, 1) := by decide +kernel
theorem dX7_isVote_46 : decode cX7_isVote 46 = .ok (.iload_n 1, 1) := by decide +kernel
theorem dX7_isVote_47 : decode cX7_isVote 47 = .ok (.iload_n 2, 1) := by decide +kernel
theorem dX7_isVote_48 : decode cX7_isVote 48 = .ok (.iload_n 3, 1) := by decide +kernel
theorem dX7_isVote_49 : decode cX7_isVote 49 = .ok (.invokevirtual 239, 3) := by decide +kernel
theorem dX7_isVote_52 : decode cX7_isVote 52 = .ok (.iconst 3, 1) := by decide +kernel
theorem dX7_isVote_53 : decode cX7_isVote 53 = .ok (.if_icmp .ge 5, 3) := by decide +kernel
theorem dX7_isVote_56 : decode cX7_isVote 56 = .ok (.iconst 0, 1) := by decide +kernel
theorem dX7_isVote_57 : decode cX7_isVote 57 = .ok (.ireturn, 1) := by decide +kernel
theorem dX7_isVote_58 : decode cX7_isVote 58 = .ok (.aload_n 0, 1) := by decide +kernel
theorem dX7_isVote_59 : decode cX7_isVote 59 = .ok (.aload_n 0, 1) := by decide +kernel
theorem dX7_isVote_60 : decode cX7_isVote 60 = .ok (.iload_n 1, 1) := by decide +kernel
theorem dX7_isVote_61 : decode cX7_isVote 61 = .ok (.invokevirtual 243, 3) := by decide +kernel
theorem dX7_isVote_64 : decode cX7_isVote 64 = .ok (.putfield 246, 3) := by decide +kernel
theorem dX7_isVote_67 : decode cX7_isVote 67 = .ok (.aload_n 0, 1) := by decide +kernel
theorem dX7_isVote_68 : decode cX7_isVote 68 = .ok (.getfield 246, 3) := by decide +kernel
theorem dX7_isVote_71 : decode cX7_isVote 71 = .ok (.aload_n 0, 1) := by decide +kernel
theorem dX7_isVote_72 : decode cX7_isVote 72 = .ok (.getfield 22, 3) := by decide +kernel
theorem dX7_isVote_75 : decode cX7_isVote 75 = .ok (.iconst 0, 1) := by decide +kernel
theorem dX7_isVote_76 : decode cX7_isVote 76 = .ok (.iaload, 1) := by decide +kernel
theorem dX7_isVote_77 : decode cX7_isVote 77 = .ok (.aload_n 0, 1) := by decide +kernel
theorem dX7_isVote_78 : decode cX7_isVote 78 = .ok (.getfield 22, 3) := by decide +kernel
theorem dX7_isVote_81 : decode cX7_isVote 81 = .ok (.iconst 1, 1) := by decide +kernel
theorem dX7_isVote_82 : decode cX7_isVote 82 = .ok (.iaload, 1) := by decide +kernel
theorem dX7_isVote_83 : decode cX7_isVote 83 = .ok (.invokestatic 58, 3) := by decide +kernel
theorem dX7_isVote_86 : decode cX7_isVote 86 = .ok (.ireturn, 1) := by decide +kernel
