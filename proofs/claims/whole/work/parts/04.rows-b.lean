set_option maxRecDepth 20000 in
theorem ggX6_init_X2_init : GoodIn wsX6_init wsX2_init := goodIn_r _ [29, 30, 2, 3, 31, 32, 33, 9, 10, 34, 35, 36, 37, 38, 39, 40, 70, 71, 72, 73, 74, 75, 76, 86, 87, 88, 89, 90, 91, 92, 93, 94, 95, 96] (by decide +kernel) (by decide +kernel)
set_option maxRecDepth 20000 in
theorem gX6_init_X2_init_n9 : GoodIn wsX6_init (wsX2_init) := ggX6_init_X2_init
set_option maxRecDepth 20000 in
theorem ggX6_init_X0_init : GoodIn wsX6_init wsX0_init := goodIn_r _ [36, 37, 2, 3, 31, 38, 39, 40, 86, 87, 88, 89, 90, 91, 92, 93, 94, 95, 96] (by decide +kernel) (by decide +kernel)
set_option maxRecDepth 20000 in
theorem gX6_init_X0_init_n18 : GoodIn wsX6_init (wsX0_init) := ggX6_init_X0_init
set_option maxRecDepth 20000 in
theorem ggX6_init_X1_init : GoodIn wsX6_init wsX1_init := goodIn_r _ [43, 44, 2, 3, 45, 97, 98, 99, 100, 101, 102, 103] (by decide +kernel) (by decide +kernel)
set_option maxRecDepth 20000 in
theorem gX6_init_X1_init : GoodIn wsX6_init (wsX1_init) := ggX6_init_X1_init
set_option maxRecDepth 20000 in
theorem ggX6_init_X4_init : GoodIn wsX6_init wsX4_init := goodIn_r _ [48, 49, 2, 3, 50, 104, 105, 106, 107] (by decide +kernel) (by decide +kernel)
set_option maxRecDepth 20000 in
theorem gX6_init_X4_init : GoodIn wsX6_init (wsX4_init) := ggX6_init_X4_init
set_option maxRecDepth 20000 in
theorem ggX6_init_X5_init : GoodIn wsX6_init wsX5_init := goodIn_r _ [53, 54, 2, 3, 31, 55, 56, 57, 58, 59, 60, 108, 109, 110, 111, 112, 113, 114, 115, 116, 117] (by decide +kernel) (by decide +kernel)
set_option maxRecDepth 20000 in
theorem gX6_init_X5_init : GoodIn wsX6_init (wsX5_init) := ggX6_init_X5_init
set_option maxRecDepth 20000 in
theorem ggX6_init_X3_init : GoodIn wsX6_init wsX3_init := goodIn_r _ [63, 64, 2, 3, 31, 65, 66, 67, 68, 69, 118, 119, 120, 121, 122, 123, 124] (by decide +kernel) (by decide +kernel)
set_option maxRecDepth 20000 in
theorem gX6_init_X3_init : GoodIn wsX6_init (wsX3_init) := ggX6_init_X3_init
theorem dX6_init_0 : decode cX6_init 0 = .ok (.aload_n 0, 1) := by decide +kernel
theorem dX6_init_1 : decode cX6_init 1 = .ok (.invokespecial 1, 3) := by decide +kernel
theorem dX6_init_4 : decode cX6_init 4 = .ok (.aload_n 0, 1) := by decide +kernel
theorem dX6_init_5 : decode cX6_init 5 = .ok (.new 7, 3) := by decide +kernel
theorem dX6_init_8 : decode cX6_init 8 = .ok (.dup, 1) := by decide +kernel
theorem dX6_init_9 : decode cX6_init 9 = .ok (.invokespecial 9, 3) := by decide +kernel
theorem dX6_init_12 : decode cX6_init 12 = .ok (.putfield 10, 3) := by decide +kernel
theorem dX6_init_15 : decode cX6_init 15 = .ok (.aload_n 0, 1) := by decide +kernel
theorem dX6_init_16 : decode cX6_init 16 = .ok (.new 16, 3) := by decide +kernel
theorem dX6_init_19 : decode cX6_init 19 = .ok (.dup, 1) := by decide +kernel
theorem dX6_init_20 : decode cX6_init 20 = .ok (.invokespecial 18, 3) := by decide +kernel
theorem dX6_init_23 : decode cX6_init 23 = .ok (.putfield 19, 3) := by decide +kernel
theorem dX6_init_26 : decode cX6_init 26 = .ok (.aload_n 0, 1) := by decide +kernel
theorem dX6_init_27 : decode cX6_init 27 = .ok (.new 23, 3) := by decide +kernel
theorem dX6_init_30 : decode cX6_init 30 = .ok (.dup, 1) := by decide +kernel
theorem dX6_init_31 : decode cX6_init 31 = .ok (.aload_n 0, 1) := by decide +kernel
theorem dX6_init_32 : decode cX6_init 32 = .ok (.getfield 19, 3) := by decide +kernel
theorem dX6_init_35 : decode cX6_init 35 = .ok (.invokespecial 25, 3) := by decide +kernel
theorem dX6_init_38 : decode cX6_init 38 = .ok (.putfield 28, 3) := by decide +kernel
theorem dX6_init_41 : decode cX6_init 41 = .ok (.aload_n 0, 1) := by decide +kernel
theorem dX6_init_42 : decode cX6_init 42 = .ok (.new 32, 3) := by decide +kernel
theorem dX6_init_45 : decode cX6_init 45 = .ok (.dup, 1) := by decide +kernel
theorem dX6_init_46 : decode cX6_init 46 = .ok (.aload_n 0, 1) := by decide +kernel
theorem dX6_init_47 : decode cX6_init 47 = .ok (.getfield 19, 3) := by decide +kernel
theorem dX6_init_50 : decode cX6_init 50 = .ok (.invokespecial 34, 3) := by decide +kernel
theorem dX6_init_53 : decode cX6_init 53 = .ok (.putfield 35, 3) := by decide +kernel
theorem dX6_init_56 : decode cX6_init 56 = .ok (.aload_n 0, 1) := by decide +kernel
theorem dX6_init_57 : decode cX6_init 57 = .ok (.new 39, 3) := by decide +kernel
theorem dX6_init_60 : decode cX6_init 60 = .ok (.dup, 1) := by decide +kernel
theorem dX6_init_61 : decode cX6_init 61 = .ok (.aload_n 0, 1) := by decide +kernel
theorem dX6_init_62 : decode cX6_init 62 = .ok (.getfield 19, 3) := by decide +kernel
theorem dX6_init_65 : decode cX6_init 65 = .ok (.aload_n 0, 1) := by decide +kernel
theorem dX6_init_66 : decode cX6_init 66 = .ok (.getfield 28, 3) := by decide +kernel
theorem dX6_init_69 : decode cX6_init 69 = .ok (.aload_n 0, 1) := by decide +kernel
theorem dX6_init_70 : decode cX6_init 70 = .ok (.getfield 35, 3) := by decide +kernel
theorem dX6_init_73 : decode cX6_init 73 = .ok (.invokespecial 41, 3) := by decide +kernel
theorem dX6_init_76 : decode cX6_init 76 = .ok (.putfield 44, 3) := by decide +kernel
theorem dX6_init_79 : decode cX6_init 79 = .ok (.aload_n 0, 1) := by decide +kernel
theorem dX6_init_80 : decode cX6_init 80 = .ok (.new 48, 3) := by decide +kernel
theorem dX6_init_83 : decode cX6_init 83 = .ok (.dup, 1) := by decide +kernel
theorem dX6_init_84 : decode cX6_init 84 = .ok (.aload_n 0, 1) := by decide +kernel
theorem dX6_init_85 : decode cX6_init 85 = .ok (.getfield 19, 3) := by decide +kernel
theorem dX6_init_88 : decode cX6_init 88 = .ok (.aload_n 0, 1) := by decide +kernel
theorem dX6_init_89 : decode cX6_init 89 = .ok (.getfield 44, 3) := by decide +kernel
theorem dX6_init_92 : decode cX6_init 92 = .ok (.aload_n 0, 1) := by decide +kernel
theorem dX6_init_93 : decode cX6_init 93 = .ok (.getfield 35, 3) := by decide +kernel
theorem dX6_init_96 : decode cX6_init 96 = .ok (.invokespecial 50, 3) := by decide +kernel
theorem dX6_init_99 : decode cX6_init 99 = .ok (.putfield 53, 3) := by decide +kernel
theorem dX6_init_102 : decode cX6_init 102 = .ok (.return_, 1) := by decide +kernel
set_option maxRecDepth 20000 in
theorem ggX6_letter_X2_put : GoodIn wsX6_letter wsX2_put := goodIn_r _ [7, 8, 9, 19, 20, 21, 22, 23, 24, 25] (by decide +kernel) (by decide +kernel)
set_option maxRecDepth 20000 in
theorem gX6_letter_X2_put : GoodIn wsX6_letter (wsV RX6 61 RX2 yX2_put wsX2_put) := goodIn_app (goodIn_of _ (by decide +kernel)) ggX6_letter_X2_put
theorem dX6_letter_0 : decode cX6_letter 0 = .ok (.iload_n 1, 1) := by decide +kernel
theorem dX6_letter_1 : decode cX6_letter 1 = .ok (.bipush 32, 2) := by decide +kernel
theorem dX6_letter_3 : decode cX6_letter 3 = .ok (.if_icmp .lt 9, 3) := by decide +kernel
theorem dX6_letter_6 : decode cX6_letter 6 = .ok (.iload_n 1, 1) := by decide +kernel
theorem dX6_letter_7 : decode cX6_letter 7 = .ok (.bipush 126, 2) := by decide +kernel
theorem dX6_letter_9 : decode cX6_letter 9 = .ok (.if_icmp .le 6, 3) := by decide +kernel
theorem dX6_letter_12 : decode cX6_letter 12 = .ok (.bipush (-102), 2) := by decide +kernel
theorem dX6_letter_14 : decode cX6_letter 14 = .ok (.ireturn, 1) := by decide +kernel
theorem dX6_letter_15 : decode cX6_letter 15 = .ok (.aload_n 0, 1) := by decide +kernel
theorem dX6_letter_16 : decode cX6_letter 16 = .ok (.getfield 10, 3) := by decide +kernel
theorem dX6_letter_19 : decode cX6_letter 19 = .ok (.getfield 57, 3) := by decide +kernel
theorem dX6_letter_22 : decode cX6_letter 22 = .ok (.bipush 50, 2) := by decide +kernel
theorem dX6_letter_24 : decode cX6_letter 24 = .ok (.if_icmp .lt 6, 3) := by decide +kernel
theorem dX6_letter_27 : decode cX6_letter 27 = .ok (.bipush (-104), 2) := by decide +kernel
theorem dX6_letter_29 : decode cX6_letter 29 = .ok (.ireturn, 1) := by decide +kernel
theorem dX6_letter_30 : decode cX6_letter 30 = .ok (.aload_n 0, 1) := by decide +kernel
theorem dX6_letter_31 : decode cX6_letter 31 = .ok (.getfield 10, 3) := by decide +kernel
theorem dX6_letter_34 : decode cX6_letter 34 = .ok (.iload_n 1, 1) := by decide +kernel
theorem dX6_letter_35 : decode cX6_letter 35 = .ok (.invokevirtual 61, 3) := by decide +kernel
theorem dX6_letter_38 : decode cX6_letter 38 = .ok (.aload_n 0, 1) := by decide +kernel
theorem dX6_letter_39 : decode cX6_letter 39 = .ok (.getfield 10, 3) := by decide +kernel
theorem dX6_letter_42 : decode cX6_letter 42 = .ok (.getfield 57, 3) := by decide +kernel
theorem dX6_letter_45 : decode cX6_letter 45 = .ok (.ireturn, 1) := by decide +kernel
theorem dX6_blank_0 : decode cX6_blank 0 = .ok (.aload_n 0, 1) := by decide +kernel
theorem dX6_blank_1 : decode cX6_blank 1 = .ok (.getfield 10, 3) := by decide +kernel
theorem dX6_blank_4 : decode cX6_blank 4 = .ok (.getfield 57, 3) := by decide +kernel
theorem dX6_blank_7 : decode cX6_blank 7 = .ok (.istore_n 1, 1) := by decide +kernel
theorem dX6_blank_8 : decode cX6_blank 8 = .ok (.aload_n 0, 1) := by decide +kernel
theorem dX6_blank_9 : decode cX6_blank 9 = .ok (.getfield 10, 3) := by decide +kernel
theorem dX6_blank_12 : decode cX6_blank 12 = .ok (.iconst 0, 1) := by decide +kernel
theorem dX6_blank_13 : decode cX6_blank 13 = .ok (.putfield 57, 3) := by decide +kernel
theorem dX6_blank_16 : decode cX6_blank 16 = .ok (.iload_n 1, 1) := by decide +kernel
theorem dX6_blank_17 : decode cX6_blank 17 = .ok (.ireturn, 1) := by decide +kernel
set_option maxRecDepth 20000 in
theorem ggX6_fault_X2_read : GoodIn wsX6_fault wsX2_read := goodIn_r _ [6, 7, 8, 9, 10, 11, 12, 13, 14, 15, 16, 17, 18, 19, 20, 21, 22, 23, 24, 25, 26, 5, 27, 28, 29, 30, 31, 32, 33, 34, 35, 36, 37, 38, 39, 40, 41, 42, 43, 44, 45, 46, 47, 48, 49, 50, 51, 52, 53, 54, 55, 56, 57, 58, 59, 60, 61, 62, 63, 64, 65, 66, 67, 68, 69, 70, 71, 72, 73, 74, 75, 76, 77, 78, 79, 80, 81, 91, 92, 93, 94, 95, 96, 97, 98, 99, 100, 101, 102, 103, 104, 105, 106, 107, 108] (by decide +kernel) (by decide +kernel)
set_option maxRecDepth 20000 in
theorem gX6_fault_X2_read : GoodIn wsX6_fault (wsV RX6 65 RX2 yX2_read wsX2_read) := goodIn_app (goodIn_of _ (by decide +kernel)) ggX6_fault_X2_read
theorem dX6_fault_0 : decode cX6_fault 0 = .ok (.aload_n 0, 1) := by decide +kernel
theorem dX6_fault_1 : decode cX6_fault 1 = .ok (.getfield 10, 3) := by decide +kernel
theorem dX6_fault_4 : decode cX6_fault 4 = .ok (.invokevirtual 65, 3) := by decide +kernel
theorem dX6_fault_7 : decode cX6_fault 7 = .ok (.ireturn, 1) := by decide +kernel
set_option maxRecDepth 20000 in
theorem ggX6_sheet_X2_isSheet : GoodIn wsX6_sheet wsX2_isSheet := goodIn_r _ [11, 12, 13, 14, 15, 16, 10, 17, 18, 19, 20, 21, 22, 23, 24, 25, 26, 27, 28, 29, 30, 31, 32, 33, 34, 35, 36, 37, 38, 39, 40, 41, 42, 43, 44, 45, 46, 47, 48, 49, 50, 51, 52, 53, 54, 55, 56, 57, 58, 59, 60, 61, 62, 63, 64, 65, 66, 67, 68, 69, 70, 71, 72, 73, 74, 75, 76, 77, 78, 79, 80, 81, 82, 83, 84, 85, 86, 87, 88, 89, 90, 121, 122, 123, 124, 125, 126, 127, 128, 129, 130, 131, 132, 133, 134, 135, 136, 137, 138] (by decide +kernel) (by decide +kernel)
set_option maxRecDepth 20000 in
theorem gX6_sheet_X2_isSheet : GoodIn wsX6_sheet (wsV RX6 69 RX2 yX2_isSheet wsX2_isSheet) := goodIn_app (goodIn_of _ (by decide +kernel)) ggX6_sheet_X2_isSheet
set_option maxRecDepth 20000 in
theorem ggX6_sheet_X0_become : GoodIn wsX6_sheet wsX0_become := goodIn_r _ [94, 25, 26, 27, 65, 79, 88, 95, 21, 22, 23, 24, 28, 29, 30, 31, 32, 96, 85, 86, 87, 89, 72, 73, 74, 90, 76, 77, 78, 128, 129, 130, 131, 132, 133, 134, 135, 136, 137, 138] (by decide +kernel) (by decide +kernel)
set_option maxRecDepth 20000 in
theorem gX6_sheet_X0_become : GoodIn wsX6_sheet (wsV RX6 76 RX0 yX0_become wsX0_become) := goodIn_app (goodIn_of _ (by decide +kernel)) ggX6_sheet_X0_become
set_option maxRecDepth 20000 in
theorem ggX6_sheet_X6_forget : GoodIn wsX6_sheet wsX6_forget := goodIn_r _ [101, 102, 103, 104, 105, 106, 107, 108, 109, 110, 111, 112, 113, 114, 115, 116, 117, 118, 119, 120, 139, 140, 141, 142, 143, 144, 145, 146, 147, 148, 149, 150, 151, 152, 153, 154, 155] (by decide +kernel) (by decide +kernel)
set_option maxRecDepth 20000 in
theorem gX6_sheet_X6_forget : GoodIn wsX6_sheet (wsV RX6 82 RX6 yX6_forget wsX6_forget) := goodIn_app (goodIn_of _ (by decide +kernel)) ggX6_sheet_X6_forget
theorem dX6_sheet_0 : decode cX6_sheet 0 = .ok (.aload_n 0, 1) := by decide +kernel
theorem dX6_sheet_1 : decode cX6_sheet 1 = .ok (.getfield 10, 3) := by decide +kernel
theorem dX6_sheet_4 : decode cX6_sheet 4 = .ok (.invokevirtual 69, 3) := by decide +kernel
theorem dX6_sheet_7 : decode cX6_sheet 7 = .ok (.ifCond .ne 6, 3) := by decide +kernel
theorem dX6_sheet_10 : decode cX6_sheet 10 = .ok (.bipush (-103), 2) := by decide +kernel
theorem dX6_sheet_12 : decode cX6_sheet 12 = .ok (.ireturn, 1) := by decide +kernel
theorem dX6_sheet_13 : decode cX6_sheet 13 = .ok (.aload_n 0, 1) := by decide +kernel
theorem dX6_sheet_14 : decode cX6_sheet 14 = .ok (.getfield 19, 3) := by decide +kernel
theorem dX6_sheet_17 : decode cX6_sheet 17 = .ok (.aload_n 0, 1) := by decide +kernel
theorem dX6_sheet_18 : decode cX6_sheet 18 = .ok (.getfield 10, 3) := by decide +kernel
theorem dX6_sheet_21 : decode cX6_sheet 21 = .ok (.getfield 73, 3) := by decide +kernel
theorem dX6_sheet_24 : decode cX6_sheet 24 = .ok (.invokevirtual 76, 3) := by decide +kernel
theorem dX6_sheet_27 : decode cX6_sheet 27 = .ok (.aload_n 0, 1) := by decide +kernel
theorem dX6_sheet_28 : decode cX6_sheet 28 = .ok (.getfield 10, 3) := by decide +kernel
theorem dX6_sheet_31 : decode cX6_sheet 31 = .ok (.iconst 0, 1) := by decide +kernel
theorem dX6_sheet_32 : decode cX6_sheet 32 = .ok (.putfield 57, 3) := by decide +kernel
theorem dX6_sheet_35 : decode cX6_sheet 35 = .ok (.aload_n 0, 1) := by decide +kernel
theorem dX6_sheet_36 : decode cX6_sheet 36 = .ok (.dup, 1) := by decide +kernel
theorem dX6_sheet_37 : decode cX6_sheet 37 = .ok (.getfield 79, 3) := by decide +kernel
theorem dX6_sheet_40 : decode cX6_sheet 40 = .ok (.iconst 1, 1) := by decide +kernel
theorem dX6_sheet_41 : decode cX6_sheet 41 = .ok (.iadd, 1) := by decide +kernel
theorem dX6_sheet_42 : decode cX6_sheet 42 = .ok (.putfield 79, 3) := by decide +kernel
theorem dX6_sheet_45 : decode cX6_sheet 45 = .ok (.aload_n 0, 1) := by decide +kernel
theorem dX6_sheet_46 : decode cX6_sheet 46 = .ok (.invokevirtual 82, 3) := by decide +kernel
theorem dX6_sheet_49 : decode cX6_sheet 49 = .ok (.aload_n 0, 1) := by decide +kernel
theorem dX6_sheet_50 : decode cX6_sheet 50 = .ok (.getfield 19, 3) := by decide +kernel
theorem dX6_sheet_53 : decode cX6_sheet 53 = .ok (.getfield 85, 3) := by decide +kernel
theorem dX6_sheet_56 : decode cX6_sheet 56 = .ok (.ireturn, 1) := by decide +kernel
set_option maxRecDepth 20000 in
theorem ggX6_ink_X0_isThere : GoodIn wsX6_ink wsX0_isThere := goodIn_r _ [6, 7, 40, 41, 42, 43, 44, 45, 46, 47, 48, 49, 50] (by decide +kernel) (by decide +kernel)
set_option maxRecDepth 20000 in
theorem gX6_ink_X0_isThere : GoodIn wsX6_ink (wsV RX6 88 RX0 yX0_isThere wsX0_isThere) := goodIn_app (goodIn_of _ (by decide +kernel)) ggX6_ink_X0_isThere
set_option maxRecDepth 20000 in
theorem ggX6_ink_X0_textAt : GoodIn wsX6_ink wsX0_textAt := goodIn_r _ [11, 7, 12, 13, 14, 5, 15, 16, 17, 18, 19, 20, 21, 22, 23, 24, 25, 26, 27, 28, 29, 30, 40, 41, 42, 43, 44, 45, 46, 47, 48, 49, 50] (by decide +kernel) (by decide +kernel)
set_option maxRecDepth 20000 in
theorem gX6_ink_X0_textAt : GoodIn wsX6_ink (wsV RX6 91 RX0 yX0_textAt wsX0_textAt) := goodIn_app (goodIn_of _ (by decide +kernel)) ggX6_ink_X0_textAt
theorem dX6_ink_0 : decode cX6_ink 0 = .ok (.aload_n 0, 1) := by decide +kernel
theorem dX6_ink_1 : decode cX6_ink 1 = .ok (.getfield 19, 3) := by decide +kernel
theorem dX6_ink_4 : decode cX6_ink 4 = .ok (.invokevirtual 88, 3) := by decide +kernel
theorem dX6_ink_7 : decode cX6_ink 7 = .ok (.ifCond .ne 6, 3) := by decide +kernel
theorem dX6_ink_10 : decode cX6_ink 10 = .ok (.bipush (-103), 2) := by decide +kernel
theorem dX6_ink_12 : decode cX6_ink 12 = .ok (.ireturn, 1) := by decide +kernel
theorem dX6_ink_13 : decode cX6_ink 13 = .ok (.iload_n 1, 1) := by decide +kernel
theorem dX6_ink_14 : decode cX6_ink 14 = .ok (.ifCond .ge 8, 3) := by decide +kernel
theorem dX6_ink_17 : decode cX6_ink 17 = .ok (.bipush (-101), 2) := by decide +kernel
theorem dX6_ink_19 : decode cX6_ink 19 = .ok (.goto 11, 3) := by decide +kernel
theorem dX6_ink_22 : decode cX6_ink 22 = .ok (.aload_n 0, 1) := by decide +kernel
theorem dX6_ink_23 : decode cX6_ink 23 = .ok (.getfield 19, 3) := by decide +kernel
theorem dX6_ink_26 : decode cX6_ink 26 = .ok (.iload_n 1, 1) := by decide +kernel
theorem dX6_ink_27 : decode cX6_ink 27 = .ok (.invokevirtual 91, 3) := by decide +kernel
theorem dX6_ink_30 : decode cX6_ink 30 = .ok (.ireturn, 1) := by decide +kernel
set_option maxRecDepth 20000 in
theorem ggX6_dot_X0_isThere : GoodIn wsX6_dot wsX0_isThere := goodIn_r _ [7, 8, 56, 57, 58, 59, 60, 61, 62, 63, 64, 65, 66] (by decide +kernel) (by decide +kernel)
set_option maxRecDepth 20000 in
theorem gX6_dot_X0_isThere : GoodIn wsX6_dot (wsV RX6 88 RX0 yX0_isThere wsX0_isThere) := goodIn_app (goodIn_of _ (by decide +kernel)) ggX6_dot_X0_isThere
set_option maxRecDepth 20000 in
theorem ggX6_dot_X0_holds : GoodIn wsX6_dot wsX0_holds := goodIn_r _ [12, 8, 13, 56, 57, 58, 59, 60, 61, 62, 63, 64, 65, 66] (by decide +kernel) (by decide +kernel)
set_option maxRecDepth 20000 in
theorem gX6_dot_X0_holds : GoodIn wsX6_dot (wsV RX6 95 RX0 yX0_holds wsX0_holds) := goodIn_app (goodIn_of _ (by decide +kernel)) ggX6_dot_X0_holds
set_option maxRecDepth 20000 in
theorem ggX6_dot_X0_isTaken : GoodIn wsX6_dot wsX0_isTaken := goodIn_r _ [17, 18, 19, 20, 56, 57, 58, 59, 60, 61, 62, 63, 64, 65, 66] (by decide +kernel) (by decide +kernel)
set_option maxRecDepth 20000 in
theorem gX6_dot_X0_isTaken : GoodIn wsX6_dot (wsV RX6 99 RX0 yX0_isTaken wsX0_isTaken) := goodIn_app (goodIn_of _ (by decide +kernel)) ggX6_dot_X0_isTaken
set_option maxRecDepth 20000 in
theorem ggX6_dot_X6_comes : GoodIn wsX6_dot wsX6_comes := goodIn_r _ [25, 1, 26, 27, 28, 6, 29, 18, 19, 20, 30, 31, 10, 11, 12, 8, 13, 32, 15, 16, 17, 33, 34, 35, 24, 36, 37, 38, 39, 40, 41, 42, 43, 44, 45, 46, 47, 48, 49, 50, 51, 52, 53, 54, 55, 56, 57, 58, 59, 60, 61, 62, 63, 64, 65, 66, 67, 68, 69, 70, 71, 72, 73, 74, 75, 76, 77, 78, 79, 80, 81, 82, 83] (by decide +kernel) (by decide +kernel)
set_option maxRecDepth 20000 in
theorem gX6_dot_X6_comes : GoodIn wsX6_dot (wsV RX6 102 RX6 yX6_comes wsX6_comes) := goodIn_app (goodIn_of _ (by decide +kernel)) ggX6_dot_X6_comes
theorem dX6_dot_0 : decode cX6_dot 0 = .ok (.aload_n 0, 1) := by decide +kernel
theorem dX6_dot_1 : decode cX6_dot 1 = .ok (.getfield 19, 3) := by decide +kernel
theorem dX6_dot_4 : decode cX6_dot 4 = .ok (.invokevirtual 88, 3) := by decide +kernel
theorem dX6_dot_7 : decode cX6_dot 7 = .ok (.ifCond .ne 6, 3) := by decide +kernel
theorem dX6_dot_10 : decode cX6_dot 10 = .ok (.bipush (-103), 2) := by decide +kernel
theorem dX6_dot_12 : decode cX6_dot 12 = .ok (.ireturn, 1) := by decide +kernel
theorem dX6_dot_13 : decode cX6_dot 13 = .ok (.aload_n 0, 1) := by decide +kernel
theorem dX6_dot_14 : decode cX6_dot 14 = .ok (.getfield 19, 3) := by decide +kernel
theorem dX6_dot_17 : decode cX6_dot 17 = .ok (.iload_n 1, 1) := by decide +kernel
theorem dX6_dot_18 : decode cX6_dot 18 = .ok (.iload_n 2, 1) := by decide +kernel
theorem dX6_dot_19 : decode cX6_dot 19 = .ok (.invokevirtual 95, 3) := by decide +kernel
theorem dX6_dot_22 : decode cX6_dot 22 = .ok (.ifCond .eq 14, 3) := by decide +kernel
theorem dX6_dot_25 : decode cX6_dot 25 = .ok (.iload_n 3, 1) := by decide +kernel
theorem dX6_dot_26 : decode cX6_dot 26 = .ok (.iconst (-1), 1) := by decide +kernel
theorem dX6_dot_27 : decode cX6_dot 27 = .ok (.if_icmp .lt 9, 3) := by decide +kernel
theorem dX6_dot_30 : decode cX6_dot 30 = .ok (.iload_n 3, 1) := by decide +kernel
theorem dX6_dot_31 : decode cX6_dot 31 = .ok (.bipush 8, 2) := by decide +kernel
theorem dX6_dot_33 : decode cX6_dot 33 = .ok (.if_icmp .lt 6, 3) := by decide +kernel
theorem dX6_dot_36 : decode cX6_dot 36 = .ok (.bipush (-102), 2) := by decide +kernel
theorem dX6_dot_38 : decode cX6_dot 38 = .ok (.ireturn, 1) := by decide +kernel
theorem dX6_dot_39 : decode cX6_dot 39 = .ok (.aload_n 0, 1) := by decide +kernel
theorem dX6_dot_40 : decode cX6_dot 40 = .ok (.getfield 19, 3) := by decide +kernel
theorem dX6_dot_43 : decode cX6_dot 43 = .ok (.iload_n 1, 1) := by decide +kernel
theorem dX6_dot_44 : decode cX6_dot 44 = .ok (.iload_n 2, 1) := by decide +kernel
theorem dX6_dot_45 : decode cX6_dot 45 = .ok (.invokevirtual 99, 3) := by decide +kernel
theorem dX6_dot_48 : decode cX6_dot 48 = .ok (.ifCond .eq 6, 3) := by decide +kernel
theorem dX6_dot_51 : decode cX6_dot 51 = .ok (.bipush (-103), 2) := by decide +kernel
theorem dX6_dot_53 : decode cX6_dot 53 = .ok (.ireturn, 1) := by decide +kernel
theorem dX6_dot_54 : decode cX6_dot 54 = .ok (.aload_n 0, 1) := by decide +kernel
theorem dX6_dot_55 : decode cX6_dot 55 = .ok (.iload_n 1, 1) := by decide +kernel
theorem dX6_dot_56 : decode cX6_dot 56 = .ok (.iload_n 2, 1) := by decide +kernel
theorem dX6_dot_57 : decode cX6_dot 57 = .ok (.iload_n 3, 1) := by decide +kernel
theorem dX6_dot_58 : decode cX6_dot 58 = .ok (.invokevirtual 102, 3) := by decide +kernel
theorem dX6_dot_61 : decode cX6_dot 61 = .ok (.ifCond .eq 15, 3) := by decide +kernel
theorem dX6_dot_64 : decode cX6_dot 64 = .ok (.aload_n 0, 1) := by decide +kernel
theorem dX6_dot_65 : decode cX6_dot 65 = .ok (.getfield 19, 3) := by decide +kernel
theorem dX6_dot_68 : decode cX6_dot 68 = .ok (.getfield 85, 3) := by decide +kernel
theorem dX6_dot_71 : decode cX6_dot 71 = .ok (.iconst 1, 1) := by decide +kernel
theorem dX6_dot_72 : decode cX6_dot 72 = .ok (.isub, 1) := by decide +kernel
theorem dX6_dot_73 : decode cX6_dot 73 = .ok (.goto 5, 3) := by decide +kernel
theorem dX6_dot_76 : decode cX6_dot 76 = .ok (.bipush (-104), 2) := by decide +kernel
theorem dX6_dot_78 : decode cX6_dot 78 = .ok (.ireturn, 1) := by decide +kernel
set_option maxRecDepth 20000 in
theorem ggX6_lift_X0_has : GoodIn wsX6_lift wsX0_has := goodIn_r _ [7, 8, 41, 42, 43, 44, 45, 46, 47, 48, 49, 50, 51] (by decide +kernel) (by decide +kernel)
set_option maxRecDepth 20000 in
theorem gX6_lift_X0_has : GoodIn wsX6_lift (wsV RX6 106 RX0 yX0_has wsX0_has) := goodIn_app (goodIn_of _ (by decide +kernel)) ggX6_lift_X0_has
set_option maxRecDepth 20000 in
theorem ggX6_lift_X0_remove : GoodIn wsX6_lift wsX0_remove := goodIn_r _ [12, 8, 13, 14, 15, 16, 4, 5, 6, 7, 41, 42, 43, 44, 45, 46, 47, 48, 49, 50, 51] (by decide +kernel) (by decide +kernel)
set_option maxRecDepth 20000 in
theorem gX6_lift_X0_remove : GoodIn wsX6_lift (wsV RX6 110 RX0 yX0_remove wsX0_remove) := goodIn_app (goodIn_of _ (by decide +kernel)) ggX6_lift_X0_remove
set_option maxRecDepth 20000 in
theorem ggX6_lift_X6_forget : GoodIn wsX6_lift wsX6_forget := goodIn_r _ [21, 22, 23, 24, 25, 26, 27, 28, 29, 30, 31, 32, 33, 34, 35, 36, 37, 38, 39, 40, 52, 53, 54, 55, 56, 57, 58, 59, 60, 61, 62, 63, 64, 65, 66, 67, 68] (by decide +kernel) (by decide +kernel)
set_option maxRecDepth 20000 in
theorem gX6_lift_X6_forget : GoodIn wsX6_lift (wsV RX6 82 RX6 yX6_forget wsX6_forget) := goodIn_app (goodIn_of _ (by decide +kernel)) ggX6_lift_X6_forget
theorem dX6_lift_0 : decode cX6_lift 0 = .ok (.aload_n 0, 1) := by decide +kernel
theorem dX6_lift_1 : decode cX6_lift 1 = .ok (.getfield 19, 3) := by decide +kernel
theorem dX6_lift_4 : decode cX6_lift 4 = .ok (.iload_n 1, 1) := by decide +kernel
theorem dX6_lift_5 : decode cX6_lift 5 = .ok (.invokevirtual 106, 3) := by decide +kernel
theorem dX6_lift_8 : decode cX6_lift 8 = .ok (.ifCond .ne 6, 3) := by decide +kernel
theorem dX6_lift_11 : decode cX6_lift 11 = .ok (.bipush (-101), 2) := by decide +kernel
theorem dX6_lift_13 : decode cX6_lift 13 = .ok (.ireturn, 1) := by decide +kernel
theorem dX6_lift_14 : decode cX6_lift 14 = .ok (.aload_n 0, 1) := by decide +kernel
theorem dX6_lift_15 : decode cX6_lift 15 = .ok (.getfield 19, 3) := by decide +kernel
theorem dX6_lift_18 : decode cX6_lift 18 = .ok (.iload_n 1, 1) := by decide +kernel
theorem dX6_lift_19 : decode cX6_lift 19 = .ok (.invokevirtual 110, 3) := by decide +kernel
theorem dX6_lift_22 : decode cX6_lift 22 = .ok (.aload_n 0, 1) := by decide +kernel
theorem dX6_lift_23 : decode cX6_lift 23 = .ok (.invokevirtual 82, 3) := by decide +kernel
theorem dX6_lift_26 : decode cX6_lift 26 = .ok (.aload_n 0, 1) := by decide +kernel
theorem dX6_lift_27 : decode cX6_lift 27 = .ok (.getfield 19, 3) := by decide +kernel
theorem dX6_lift_30 : decode cX6_lift 30 = .ok (.getfield 85, 3) := by decide +kernel
theorem dX6_lift_33 : decode cX6_lift 33 = .ok (.ireturn, 1) := by decide +kernel
set_option maxRecDepth 20000 in
theorem ggX6_arc_X0_isThere : GoodIn wsX6_arc wsX0_isThere := goodIn_r _ [8, 9, 61, 62, 63, 64, 65, 66, 67, 68, 69, 70, 71] (by decide +kernel) (by decide +kernel)
set_option maxRecDepth 20000 in
theorem gX6_arc_X0_isThere : GoodIn wsX6_arc (wsV RX6 88 RX0 yX0_isThere wsX0_isThere) := goodIn_app (goodIn_of _ (by decide +kernel)) ggX6_arc_X0_isThere
set_option maxRecDepth 20000 in
theorem ggX6_arc_X6_isBeyond : GoodIn wsX6_arc wsX6_isBeyond := goodIn_r _ [13] (by decide +kernel) (by decide +kernel)
set_option maxRecDepth 20000 in
theorem gX6_arc_X6_isBeyond : GoodIn wsX6_arc (va_wsS RX6 113 yX6_isBeyond wsX6_isBeyond) := goodIn_app (goodIn_of _ (by decide +kernel)) ggX6_arc_X6_isBeyond
set_option maxRecDepth 20000 in
theorem ggX6_arc_X6_slantingSteps : GoodIn wsX6_arc wsX6_slantingSteps := goodIn_r _ [16] (by decide +kernel) (by decide +kernel)
set_option maxRecDepth 20000 in
theorem gX6_arc_X6_slantingSteps : GoodIn wsX6_arc (va_wsS RX6 116 yX6_slantingSteps wsX6_slantingSteps) := goodIn_app (goodIn_of _ (by decide +kernel)) ggX6_arc_X6_slantingSteps
set_option maxRecDepth 20000 in
theorem ggX6_arc_X6_comes : GoodIn wsX6_arc wsX6_comes := goodIn_r _ [20, 1, 21, 22, 23, 7, 24, 25, 26, 27, 28, 29, 30, 31, 32, 9, 33, 34, 35, 36, 37, 38, 39, 40, 12, 41, 42, 43, 44, 45, 46, 47, 48, 49, 50, 51, 52, 53, 54, 55, 56, 57, 58, 59, 60, 61, 62, 63, 64, 65, 66, 67, 68, 69, 70, 71, 72, 73, 74, 75, 76, 77, 78, 79, 80, 81, 82, 83, 84, 85, 86, 87, 88] (by decide +kernel) (by decide +kernel)
set_option maxRecDepth 20000 in
theorem gX6_arc_X6_comes : GoodIn wsX6_arc (wsV RX6 102 RX6 yX6_comes wsX6_comes) := goodIn_app (goodIn_of _ (by decide +kernel)) ggX6_arc_X6_comes
theorem dX6_arc_0 : decode cX6_arc 0 = .ok (.aload_n 0, 1) := by decide +kernel
theorem dX6_arc_1 : decode cX6_arc 1 = .ok (.getfield 19, 3) := by decide +kernel
theorem dX6_arc_4 : decode cX6_arc 4 = .ok (.invokevirtual 88, 3) := by decide +kernel
theorem dX6_arc_7 : decode cX6_arc 7 = .ok (.ifCond .ne 6, 3) := by decide +kernel
theorem dX6_arc_10 : decode cX6_arc 10 = .ok (.bipush (-103), 2) := by decide +kernel
theorem dX6_arc_12 : decode cX6_arc 12 = .ok (.ireturn, 1) := by decide +kernel
theorem dX6_arc_13 : decode cX6_arc 13 = .ok (.iload_n 1, 1) := by decide +kernel
theorem dX6_arc_14 : decode cX6_arc 14 = .ok (.invokestatic 113, 3) := by decide +kernel
theorem dX6_arc_17 : decode cX6_arc 17 = .ok (.ifCond .ne 34, 3) := by decide +kernel
theorem dX6_arc_20 : decode cX6_arc 20 = .ok (.iload_n 2, 1) := by decide +kernel
theorem dX6_arc_21 : decode cX6_arc 21 = .ok (.invokestatic 113, 3) := by decide +kernel
theorem dX6_arc_24 : decode cX6_arc 24 = .ok (.ifCond .ne 27, 3) := by decide +kernel
theorem dX6_arc_27 : decode cX6_arc 27 = .ok (.iload_n 3, 1) := by decide +kernel
theorem dX6_arc_28 : decode cX6_arc 28 = .ok (.iconst 1, 1) := by decide +kernel
theorem dX6_arc_29 : decode cX6_arc 29 = .ok (.if_icmp .lt 22, 3) := by decide +kernel
theorem dX6_arc_32 : decode cX6_arc 32 = .ok (.iload_n 3, 1) := by decide +kernel
theorem dX6_arc_33 : decode cX6_arc 33 = .ok (.bipush 31, 2) := by decide +kernel
theorem dX6_arc_35 : decode cX6_arc 35 = .ok (.if_icmp .gt 16, 3) := by decide +kernel
theorem dX6_arc_38 : decode cX6_arc 38 = .ok (.iload 4, 2) := by decide +kernel
theorem dX6_arc_40 : decode cX6_arc 40 = .ok (.ifCond .lt 11, 3) := by decide +kernel
theorem dX6_arc_43 : decode cX6_arc 43 = .ok (.iload 4, 2) := by decide +kernel
theorem dX6_arc_45 : decode cX6_arc 45 = .ok (.sipush 255, 3) := by decide +kernel
theorem dX6_arc_48 : decode cX6_arc 48 = .ok (.if_icmp .le 6, 3) := by decide +kernel
theorem dX6_arc_51 : decode cX6_arc 51 = .ok (.bipush (-102), 2) := by decide +kernel
theorem dX6_arc_53 : decode cX6_arc 53 = .ok (.ireturn, 1) := by decide +kernel
theorem dX6_arc_54 : decode cX6_arc 54 = .ok (.iload_n 3, 1) := by decide +kernel
theorem dX6_arc_55 : decode cX6_arc 55 = .ok (.invokestatic 116, 3) := by decide +kernel
theorem dX6_arc_58 : decode cX6_arc 58 = .ok (.istore 5, 2) := by decide +kernel
theorem dX6_arc_60 : decode cX6_arc 60 = .ok (.iconst 0, 1) := by decide +kernel
theorem dX6_arc_61 : decode cX6_arc 61 = .ok (.istore 6, 2) := by decide +kernel
theorem dX6_arc_63 : decode cX6_arc 63 = .ok (.iconst 0, 1) := by decide +kernel
theorem dX6_arc_64 : decode cX6_arc 64 = .ok (.istore 7, 2) := by decide +kernel
theorem dX6_arc_66 : decode cX6_arc 66 = .ok (.iload 7, 2) := by decide +kernel
theorem dX6_arc_68 : decode cX6_arc 68 = .ok (.bipush 8, 2) := by decide +kernel
theorem dX6_arc_70 : decode cX6_arc 70 = .ok (.if_icmp .ge 81, 3) := by decide +kernel
theorem dX6_arc_73 : decode cX6_arc 73 = .ok (.iload 7, 2) := by decide +kernel
theorem dX6_arc_75 : decode cX6_arc 75 = .ok (.iconst 2, 1) := by decide +kernel
theorem dX6_arc_76 : decode cX6_arc 76 = .ok (.irem, 1) := by decide +kernel
theorem dX6_arc_77 : decode cX6_arc 77 = .ok (.ifCond .ne 7, 3) := by decide +kernel
theorem dX6_arc_80 : decode cX6_arc 80 = .ok (.iload_n 3, 1) := by decide +kernel
theorem dX6_arc_81 : decode cX6_arc 81 = .ok (.goto 5, 3) := by decide +kernel
theorem dX6_arc_84 : decode cX6_arc 84 = .ok (.iload 5, 2) := by decide +kernel
theorem dX6_arc_86 : decode cX6_arc 86 = .ok (.istore 8, 2) := by decide +kernel
theorem dX6_arc_88 : decode cX6_arc 88 = .ok (.iload 4, 2) := by decide +kernel
theorem dX6_arc_90 : decode cX6_arc 90 = .ok (.iload 7, 2) := by decide +kernel
theorem dX6_arc_92 : decode cX6_arc 92 = .ok (.ishr, 1) := by decide +kernel
theorem dX6_arc_93 : decode cX6_arc 93 = .ok (.iconst 1, 1) := by decide +kernel
theorem dX6_arc_94 : decode cX6_arc 94 = .ok (.iand, 1) := by decide +kernel
theorem dX6_arc_95 : decode cX6_arc 95 = .ok (.iconst 1, 1) := by decide +kernel
theorem dX6_arc_96 : decode cX6_arc 96 = .ok (.if_icmp .ne 7, 3) := by decide +kernel
theorem dX6_arc_99 : decode cX6_arc 99 = .ok (.iconst 1, 1) := by decide +kernel
theorem dX6_arc_100 : decode cX6_arc 100 = .ok (.goto 4, 3) := by decide +kernel
theorem dX6_arc_103 : decode cX6_arc 103 = .ok (.iconst 0, 1) := by decide +kernel
theorem dX6_arc_104 : decode cX6_arc 104 = .ok (.istore 9, 2) := by decide +kernel
theorem dX6_arc_106 : decode cX6_arc 106 = .ok (.iload 9, 2) := by decide +kernel
theorem dX6_arc_108 : decode cX6_arc 108 = .ok (.ifCond .eq 37, 3) := by decide +kernel
theorem dX6_arc_111 : decode cX6_arc 111 = .ok (.aload_n 0, 1) := by decide +kernel
theorem dX6_arc_112 : decode cX6_arc 112 = .ok (.iload_n 1, 1) := by decide +kernel
theorem dX6_arc_113 : decode cX6_arc 113 = .ok (.iload 8, 2) := by decide +kernel
theorem dX6_arc_115 : decode cX6_arc 115 = .ok (.getstatic 119, 3) := by decide +kernel
theorem dX6_arc_118 : decode cX6_arc 118 = .ok (.iload 7, 2) := by decide +kernel
theorem dX6_arc_120 : decode cX6_arc 120 = .ok (.iaload, 1) := by decide +kernel
theorem dX6_arc_121 : decode cX6_arc 121 = .ok (.imul, 1) := by decide +kernel
theorem dX6_arc_122 : decode cX6_arc 122 = .ok (.isub, 1) := by decide +kernel
theorem dX6_arc_123 : decode cX6_arc 123 = .ok (.iload_n 2, 1) := by decide +kernel
theorem dX6_arc_124 : decode cX6_arc 124 = .ok (.iload 8, 2) := by decide +kernel
theorem dX6_arc_126 : decode cX6_arc 126 = .ok (.getstatic 123, 3) := by decide +kernel
theorem dX6_arc_129 : decode cX6_arc 129 = .ok (.iload 7, 2) := by decide +kernel
theorem dX6_arc_131 : decode cX6_arc 131 = .ok (.iaload, 1) := by decide +kernel
theorem dX6_arc_132 : decode cX6_arc 132 = .ok (.imul, 1) := by decide +kernel
theorem dX6_arc_133 : decode cX6_arc 133 = .ok (.isub, 1) := by decide +kernel
theorem dX6_arc_134 : decode cX6_arc 134 = .ok (.iload 7, 2) := by decide +kernel
theorem dX6_arc_136 : decode cX6_arc 136 = .ok (.invokevirtual 102, 3) := by decide +kernel
theorem dX6_arc_139 : decode cX6_arc 139 = .ok (.ifCond .eq 6, 3) := by decide +kernel
theorem dX6_arc_142 : decode cX6_arc 142 = .ok (.iinc 6 1, 3) := by decide +kernel
theorem dX6_arc_145 : decode cX6_arc 145 = .ok (.iinc 7 1, 3) := by decide +kernel
theorem dX6_arc_148 : decode cX6_arc 148 = .ok (.goto (-82), 3) := by decide +kernel
theorem dX6_arc_151 : decode cX6_arc 151 = .ok (.iload 6, 2) := by decide +kernel
theorem dX6_arc_153 : decode cX6_arc 153 = .ok (.ireturn, 1) := by decide +kernel
set_option maxRecDepth 20000 in
theorem ggX6_strew_X0_isThere : GoodIn wsX6_strew wsX0_isThere := goodIn_r _ [8, 9, 65, 66, 67, 68, 69, 70, 71, 72, 73, 74, 75] (by decide +kernel) (by decide +kernel)
set_option maxRecDepth 20000 in
theorem gX6_strew_X0_isThere : GoodIn wsX6_strew (wsV RX6 88 RX0 yX0_isThere wsX0_isThere) := goodIn_app (goodIn_of _ (by decide +kernel)) ggX6_strew_X0_isThere
set_option maxRecDepth 20000 in
theorem ggX6_strew_X6_nextSeed : GoodIn wsX6_strew wsX6_nextSeed := goodIn_r _ [13, 14, 15, 16] (by decide +kernel) (by decide +kernel)
set_option maxRecDepth 20000 in
theorem gX6_strew_X6_nextSeed : GoodIn wsX6_strew (va_wsS RX6 126 yX6_nextSeed wsX6_nextSeed) := goodIn_app (goodIn_of _ (by decide +kernel)) ggX6_strew_X6_nextSeed
set_option maxRecDepth 20000 in
theorem ggX6_strew_X6_drawn : GoodIn wsX6_strew wsX6_drawn := goodIn_r _ [19, 20] (by decide +kernel) (by decide +kernel)
set_option maxRecDepth 20000 in
theorem gX6_strew_X6_drawn : GoodIn wsX6_strew (va_wsS RX6 132 yX6_drawn wsX6_drawn) := goodIn_app (goodIn_of _ (by decide +kernel)) ggX6_strew_X6_drawn
set_option maxRecDepth 20000 in
theorem ggX6_strew_X6_comes : GoodIn wsX6_strew wsX6_comes := goodIn_r _ [24, 1, 25, 26, 27, 7, 28, 29, 30, 31, 32, 33, 34, 35, 36, 9, 37, 38, 39, 40, 41, 42, 43, 44, 12, 45, 46, 47, 48, 49, 50, 51, 52, 53, 54, 55, 56, 57, 58, 59, 60, 61, 62, 63, 64, 65, 66, 67, 68, 69, 70, 71, 72, 73, 74, 75, 76, 77, 78, 79, 80, 81, 82, 83, 84, 85, 86, 87, 88, 89, 90, 91, 92] (by decide +kernel) (by decide +kernel)
set_option maxRecDepth 20000 in
theorem gX6_strew_X6_comes : GoodIn wsX6_strew (wsV RX6 102 RX6 yX6_comes wsX6_comes) := goodIn_app (goodIn_of _ (by decide +kernel)) ggX6_strew_X6_comes
theorem dX6_strew_0 : decode cX6_strew 0 = .ok (.aload_n 0, 1) := by decide +kernel
theorem dX6_strew_1 : decode cX6_strew 1 = .ok (.getfield 19, 3) := by decide +kernel
theorem dX6_strew_4 : decode cX6_strew 4 = .ok (.invokevirtual 88, 3) := by decide +kernel
theorem dX6_strew_7 : decode cX6_strew 7 = .ok (.ifCond .ne 6, 3) := by decide +kernel
theorem dX6_strew_10 : decode cX6_strew 10 = .ok (.bipush (-103), 2) := by decide +kernel
theorem dX6_strew_12 : decode cX6_strew 12 = .ok (.ireturn, 1) := by decide +kernel
theorem dX6_strew_13 : decode cX6_strew 13 = .ok (.iload_n 1, 1) := by decide +kernel
theorem dX6_strew_14 : decode cX6_strew 14 = .ok (.iconst 1, 1) := by decide +kernel
theorem dX6_strew_15 : decode cX6_strew 15 = .ok (.if_icmp .lt 13, 3) := by decide +kernel
theorem dX6_strew_18 : decode cX6_strew 18 = .ok (.iload_n 1, 1) := by decide +kernel
theorem dX6_strew_19 : decode cX6_strew 19 = .ok (.bipush 14, 2) := by decide +kernel
theorem dX6_strew_21 : decode cX6_strew 21 = .ok (.if_icmp .gt 7, 3) := by decide +kernel
theorem dX6_strew_24 : decode cX6_strew 24 = .ok (.iload_n 2, 1) := by decide +kernel
theorem dX6_strew_25 : decode cX6_strew 25 = .ok (.ifCond .ge 6, 3) := by decide +kernel
theorem dX6_strew_28 : decode cX6_strew 28 = .ok (.bipush (-102), 2) := by decide +kernel
theorem dX6_strew_30 : decode cX6_strew 30 = .ok (.ireturn, 1) := by decide +kernel
theorem dX6_strew_31 : decode cX6_strew 31 = .ok (.iconst 0, 1) := by decide +kernel
theorem dX6_strew_32 : decode cX6_strew 32 = .ok (.istore_n 3, 1) := by decide +kernel
theorem dX6_strew_33 : decode cX6_strew 33 = .ok (.iload_n 2, 1) := by decide +kernel
theorem dX6_strew_34 : decode cX6_strew 34 = .ok (.istore 4, 2) := by decide +kernel
theorem dX6_strew_36 : decode cX6_strew 36 = .ok (.iconst 0, 1) := by decide +kernel
theorem dX6_strew_37 : decode cX6_strew 37 = .ok (.istore 5, 2) := by decide +kernel
theorem dX6_strew_39 : decode cX6_strew 39 = .ok (.iload 5, 2) := by decide +kernel
theorem dX6_strew_41 : decode cX6_strew 41 = .ok (.iload_n 1, 1) := by decide +kernel
theorem dX6_strew_42 : decode cX6_strew 42 = .ok (.if_icmp .ge 94, 3) := by decide +kernel
theorem dX6_strew_45 : decode cX6_strew 45 = .ok (.iload 4, 2) := by decide +kernel
theorem dX6_strew_47 : decode cX6_strew 47 = .ok (.invokestatic 126, 3) := by decide +kernel
theorem dX6_strew_50 : decode cX6_strew 50 = .ok (.istore 4, 2) := by decide +kernel
theorem dX6_strew_52 : decode cX6_strew 52 = .ok (.iload 4, 2) := by decide +kernel
theorem dX6_strew_54 : decode cX6_strew 54 = .ok (.aload_n 0, 1) := by decide +kernel
theorem dX6_strew_55 : decode cX6_strew 55 = .ok (.getfield 19, 3) := by decide +kernel
theorem dX6_strew_58 : decode cX6_strew 58 = .ok (.getfield 129, 3) := by decide +kernel
theorem dX6_strew_61 : decode cX6_strew 61 = .ok (.invokestatic 132, 3) := by decide +kernel
theorem dX6_strew_64 : decode cX6_strew 64 = .ok (.istore 6, 2) := by decide +kernel
theorem dX6_strew_66 : decode cX6_strew 66 = .ok (.iload 4, 2) := by decide +kernel
theorem dX6_strew_68 : decode cX6_strew 68 = .ok (.invokestatic 126, 3) := by decide +kernel
theorem dX6_strew_71 : decode cX6_strew 71 = .ok (.istore 4, 2) := by decide +kernel
theorem dX6_strew_73 : decode cX6_strew 73 = .ok (.iload 4, 2) := by decide +kernel
theorem dX6_strew_75 : decode cX6_strew 75 = .ok (.aload_n 0, 1) := by decide +kernel
theorem dX6_strew_76 : decode cX6_strew 76 = .ok (.getfield 19, 3) := by decide +kernel
theorem dX6_strew_79 : decode cX6_strew 79 = .ok (.getfield 136, 3) := by decide +kernel
theorem dX6_strew_82 : decode cX6_strew 82 = .ok (.invokestatic 132, 3) := by decide +kernel
theorem dX6_strew_85 : decode cX6_strew 85 = .ok (.istore 7, 2) := by decide +kernel
theorem dX6_strew_87 : decode cX6_strew 87 = .ok (.iload 4, 2) := by decide +kernel
theorem dX6_strew_89 : decode cX6_strew 89 = .ok (.invokestatic 126, 3) := by decide +kernel
theorem dX6_strew_92 : decode cX6_strew 92 = .ok (.istore 4, 2) := by decide +kernel
theorem dX6_strew_94 : decode cX6_strew 94 = .ok (.iload 4, 2) := by decide +kernel
theorem dX6_strew_96 : decode cX6_strew 96 = .ok (.bipush 9, 2) := by decide +kernel
theorem dX6_strew_98 : decode cX6_strew 98 = .ok (.invokestatic 132, 3) := by decide +kernel
theorem dX6_strew_101 : decode cX6_strew 101 = .ok (.istore 8, 2) := by decide +kernel
theorem dX6_strew_103 : decode cX6_strew 103 = .ok (.aload_n 0, 1) := by decide +kernel
theorem dX6_strew_104 : decode cX6_strew 104 = .ok (.iload 6, 2) := by decide +kernel
theorem dX6_strew_106 : decode cX6_strew 106 = .ok (.iload 7, 2) := by decide +kernel
theorem dX6_strew_108 : decode cX6_strew 108 = .ok (.iload 8, 2) := by decide +kernel
theorem dX6_strew_110 : decode cX6_strew 110 = .ok (.bipush 8, 2) := by decide +kernel
theorem dX6_strew_112 : decode cX6_strew 112 = .ok (.if_icmp .ne 7, 3) := by decide +kernel
theorem dX6_strew_115 : decode cX6_strew 115 = .ok (.iconst (-1), 1) := by decide +kernel
theorem dX6_strew_116 : decode cX6_strew 116 = .ok (.goto 5, 3) := by decide +kernel
theorem dX6_strew_119 : decode cX6_strew 119 = .ok (.iload 8, 2) := by decide +kernel
theorem dX6_strew_121 : decode cX6_strew 121 = .ok (.invokevirtual 102, 3) := by decide +kernel
theorem dX6_strew_124 : decode cX6_strew 124 = .ok (.ifCond .eq 6, 3) := by decide +kernel
theorem dX6_strew_127 : decode cX6_strew 127 = .ok (.iinc 3 1, 3) := by decide +kernel
theorem dX6_strew_130 : decode cX6_strew 130 = .ok (.iinc 5 1, 3) := by decide +kernel
theorem dX6_strew_133 : decode cX6_strew 133 = .ok (.goto (-94), 3) := by decide +kernel
theorem dX6_strew_136 : decode cX6_strew 136 = .ok (.iload_n 3, 1) := by decide +kernel
theorem dX6_strew_137 : decode cX6_strew 137 = .ok (.ireturn, 1) := by decide +kernel
set_option maxRecDepth 20000 in
theorem ggX6_told_X0_has : GoodIn wsX6_told wsX0_has := goodIn_r _ [10, 11, 28, 29, 30, 31, 32, 33, 34, 35, 36, 37, 38] (by decide +kernel) (by decide +kernel)
set_option maxRecDepth 20000 in
theorem gX6_told_X0_has : GoodIn wsX6_told (wsV RX6 106 RX0 yX0_has wsX0_has) := goodIn_app (goodIn_of _ (by decide +kernel)) ggX6_told_X0_has
set_option maxRecDepth 20000 in
theorem ggX6_told_X3_ownerOf : GoodIn wsX6_told wsX3_ownerOf := goodIn_r _ [16, 17, 18, 39, 40, 41, 42, 43, 44, 45] (by decide +kernel) (by decide +kernel)
set_option maxRecDepth 20000 in
theorem gX6_told_X3_ownerOf : GoodIn wsX6_told (wsV RX6 148 RX3 yX3_ownerOf wsX3_ownerOf) := goodIn_app (goodIn_of _ (by decide +kernel)) ggX6_told_X3_ownerOf
theorem dX6_told_0 : decode cX6_told 0 = .ok (.aload_n 0, 1) := by decide +kernel
theorem dX6_told_1 : decode cX6_told 1 = .ok (.getfield 19, 3) := by decide +kernel
theorem dX6_told_4 : decode cX6_told 4 = .ok (.iload_n 1, 1) := by decide +kernel
theorem dX6_told_5 : decode cX6_told 5 = .ok (.invokevirtual 106, 3) := by decide +kernel
theorem dX6_told_8 : decode cX6_told 8 = .ok (.ifCond .ne 6, 3) := by decide +kernel
theorem dX6_told_11 : decode cX6_told 11 = .ok (.bipush (-101), 2) := by decide +kernel
theorem dX6_told_13 : decode cX6_told 13 = .ok (.ireturn, 1) := by decide +kernel
theorem dX6_told_14 : decode cX6_told 14 = .ok (.iload_n 2, 1) := by decide +kernel
theorem dX6_told_15 : decode cX6_told 15 = .ok (.tableswitch 68 0 3 #[29, 39, 49, 59], 29) := by decide +kernel
theorem dX6_told_44 : decode cX6_told 44 = .ok (.aload_n 0, 1) := by decide +kernel
theorem dX6_told_45 : decode cX6_told 45 = .ok (.getfield 19, 3) := by decide +kernel
theorem dX6_told_48 : decode cX6_told 48 = .ok (.getfield 139, 3) := by decide +kernel
theorem dX6_told_51 : decode cX6_told 51 = .ok (.iload_n 1, 1) := by decide +kernel
theorem dX6_told_52 : decode cX6_told 52 = .ok (.iaload, 1) := by decide +kernel
theorem dX6_told_53 : decode cX6_told 53 = .ok (.ireturn, 1) := by decide +kernel
theorem dX6_told_54 : decode cX6_told 54 = .ok (.aload_n 0, 1) := by decide +kernel
theorem dX6_told_55 : decode cX6_told 55 = .ok (.getfield 19, 3) := by decide +kernel
theorem dX6_told_58 : decode cX6_told 58 = .ok (.getfield 142, 3) := by decide +kernel
theorem dX6_told_61 : decode cX6_told 61 = .ok (.iload_n 1, 1) := by decide +kernel
theorem dX6_told_62 : decode cX6_told 62 = .ok (.iaload, 1) := by decide +kernel
theorem dX6_told_63 : decode cX6_told 63 = .ok (.ireturn, 1) := by decide +kernel
theorem dX6_told_64 : decode cX6_told 64 = .ok (.aload_n 0, 1) := by decide +kernel
theorem dX6_told_65 : decode cX6_told 65 = .ok (.getfield 19, 3) := by decide +kernel
theorem dX6_told_68 : decode cX6_told 68 = .ok (.getfield 145, 3) := by decide +kernel
theorem dX6_told_71 : decode cX6_told 71 = .ok (.iload_n 1, 1) := by decide +kernel
theorem dX6_told_72 : decode cX6_told 72 = .ok (.iaload, 1) := by decide +kernel
theorem dX6_told_73 : decode cX6_told 73 = .ok (.ireturn, 1) := by decide +kernel
theorem dX6_told_74 : decode cX6_told 74 = .ok (.aload_n 0, 1) := by decide +kernel
theorem dX6_told_75 : decode cX6_told 75 = .ok (.getfield 53, 3) := by decide +kernel
theorem dX6_told_78 : decode cX6_told 78 = .ok (.iload_n 1, 1) := by decide +kernel
theorem dX6_told_79 : decode cX6_told 79 = .ok (.invokevirtual 148, 3) := by decide +kernel
theorem dX6_told_82 : decode cX6_told 82 = .ok (.ireturn, 1) := by decide +kernel
theorem dX6_told_83 : decode cX6_told 83 = .ok (.bipush (-102), 2) := by decide +kernel
theorem dX6_told_85 : decode cX6_told 85 = .ok (.ireturn, 1) := by decide +kernel
set_option maxRecDepth 20000 in
theorem ggX6_about_X0_isThere : GoodIn wsX6_about wsX0_isThere := goodIn_r _ [14, 15, 25, 26, 27, 28, 29, 30, 31, 32, 33, 34, 35] (by decide +kernel) (by decide +kernel)
set_option maxRecDepth 20000 in
theorem gX6_about_X0_isThere : GoodIn wsX6_about (wsV RX6 88 RX0 yX0_isThere wsX0_isThere) := goodIn_app (goodIn_of _ (by decide +kernel)) ggX6_about_X0_isThere
theorem dX6_about_0 : decode cX6_about 0 = .ok (.iload_n 1, 1) := by decide +kernel
theorem dX6_about_1 : decode cX6_about 1 = .ok (.ifCond .lt 9, 3) := by decide +kernel
theorem dX6_about_4 : decode cX6_about 4 = .ok (.iload_n 1, 1) := by decide +kernel
theorem dX6_about_5 : decode cX6_about 5 = .ok (.bipush 7, 2) := by decide +kernel
theorem dX6_about_7 : decode cX6_about 7 = .ok (.if_icmp .le 6, 3) := by decide +kernel
theorem dX6_about_10 : decode cX6_about 10 = .ok (.bipush (-102), 2) := by decide +kernel
theorem dX6_about_12 : decode cX6_about 12 = .ok (.ireturn, 1) := by decide +kernel
theorem dX6_about_13 : decode cX6_about 13 = .ok (.aload_n 0, 1) := by decide +kernel
theorem dX6_about_14 : decode cX6_about 14 = .ok (.getfield 19, 3) := by decide +kernel
theorem dX6_about_17 : decode cX6_about 17 = .ok (.invokevirtual 88, 3) := by decide +kernel
theorem dX6_about_20 : decode cX6_about 20 = .ok (.ifCond .ne 6, 3) := by decide +kernel
theorem dX6_about_23 : decode cX6_about 23 = .ok (.bipush (-103), 2) := by decide +kernel
theorem dX6_about_25 : decode cX6_about 25 = .ok (.ireturn, 1) := by decide +kernel
theorem dX6_about_26 : decode cX6_about 26 = .ok (.iload_n 1, 1) := by decide +kernel
theorem dX6_about_27 : decode cX6_about 27 = .ok (.tableswitch 97 0 6 #[41, 49, 57, 65, 73, 81, 89], 41) := by decide +kernel
theorem dX6_about_68 : decode cX6_about 68 = .ok (.aload_n 0, 1) := by decide +kernel
theorem dX6_about_69 : decode cX6_about 69 = .ok (.getfield 19, 3) := by decide +kernel
theorem dX6_about_72 : decode cX6_about 72 = .ok (.getfield 129, 3) := by decide +kernel
theorem dX6_about_75 : decode cX6_about 75 = .ok (.ireturn, 1) := by decide +kernel
theorem dX6_about_76 : decode cX6_about 76 = .ok (.aload_n 0, 1) := by decide +kernel
theorem dX6_about_77 : decode cX6_about 77 = .ok (.getfield 19, 3) := by decide +kernel
theorem dX6_about_80 : decode cX6_about 80 = .ok (.getfield 136, 3) := by decide +kernel
theorem dX6_about_83 : decode cX6_about 83 = .ok (.ireturn, 1) := by decide +kernel
theorem dX6_about_84 : decode cX6_about 84 = .ok (.aload_n 0, 1) := by decide +kernel
theorem dX6_about_85 : decode cX6_about 85 = .ok (.getfield 19, 3) := by decide +kernel
theorem dX6_about_88 : decode cX6_about 88 = .ok (.getfield 85, 3) := by decide +kernel
theorem dX6_about_91 : decode cX6_about 91 = .ok (.ireturn, 1) := by decide +kernel
theorem dX6_about_92 : decode cX6_about 92 = .ok (.aload_n 0, 1) := by decide +kernel
theorem dX6_about_93 : decode cX6_about 93 = .ok (.getfield 19, 3) := by decide +kernel
theorem dX6_about_96 : decode cX6_about 96 = .ok (.getfield 151, 3) := by decide +kernel
theorem dX6_about_99 : decode cX6_about 99 = .ok (.ireturn, 1) := by decide +kernel
theorem dX6_about_100 : decode cX6_about 100 = .ok (.aload_n 0, 1) := by decide +kernel
theorem dX6_about_101 : decode cX6_about 101 = .ok (.getfield 19, 3) := by decide +kernel
theorem dX6_about_104 : decode cX6_about 104 = .ok (.getfield 154, 3) := by decide +kernel
theorem dX6_about_107 : decode cX6_about 107 = .ok (.ireturn, 1) := by decide +kernel
theorem dX6_about_108 : decode cX6_about 108 = .ok (.aload_n 0, 1) := by decide +kernel
theorem dX6_about_109 : decode cX6_about 109 = .ok (.getfield 19, 3) := by decide +kernel
theorem dX6_about_112 : decode cX6_about 112 = .ok (.getfield 157, 3) := by decide +kernel
theorem dX6_about_115 : decode cX6_about 115 = .ok (.ireturn, 1) := by decide +kernel
theorem dX6_about_116 : decode cX6_about 116 = .ok (.aload_n 0, 1) := by decide +kernel
theorem dX6_about_117 : decode cX6_about 117 = .ok (.getfield 19, 3) := by decide +kernel
theorem dX6_about_120 : decode cX6_about 120 = .ok (.getfield 160, 3) := by decide +kernel
theorem dX6_about_123 : decode cX6_about 123 = .ok (.ireturn, 1) := by decide +kernel
theorem dX6_about_124 : decode cX6_about 124 = .ok (.aload_n 0, 1) := by decide +kernel
theorem dX6_about_125 : decode cX6_about 125 = .ok (.getfield 19, 3) := by decide +kernel
theorem dX6_about_128 : decode cX6_about 128 = .ok (.getfield 163, 3) := by decide +kernel
theorem dX6_about_131 : decode cX6_about 131 = .ok (.ireturn, 1) := by decide +kernel
set_option maxRecDepth 20000 in
theorem ggX6_bound_X0_isThere : GoodIn wsX6_bound wsX0_isThere := goodIn_r _ [6, 7, 57, 58, 59, 60, 61, 62, 63, 64, 65, 66, 67] (by decide +kernel) (by decide +kernel)
set_option maxRecDepth 20000 in
theorem gX6_bound_X0_isThere : GoodIn wsX6_bound (wsV RX6 88 RX0 yX0_isThere wsX0_isThere) := goodIn_app (goodIn_of _ (by decide +kernel)) ggX6_bound_X0_isThere
set_option maxRecDepth 20000 in
theorem ggX6_bound_X0_allows : GoodIn wsX6_bound wsX0_allows := goodIn_r _ [11, 12, 13, 57, 58, 59, 60, 61, 62, 63, 64, 65, 66, 67] (by decide +kernel) (by decide +kernel)
set_option maxRecDepth 20000 in
theorem gX6_bound_X0_allows : GoodIn wsX6_bound (wsV RX6 166 RX0 yX0_allows wsX0_allows) := goodIn_app (goodIn_of _ (by decide +kernel)) ggX6_bound_X0_allows
set_option maxRecDepth 20000 in
theorem ggX6_bound_X6_about : GoodIn wsX6_bound wsX6_about := goodIn_r _ [18, 1, 19, 20, 21, 22, 23, 24, 25, 26, 2, 3, 4, 5, 6, 7, 48, 49, 50, 51, 52, 53, 54, 55, 56, 57, 58, 59, 60, 61, 62, 63, 64, 65, 66, 67] (by decide +kernel) (by decide +kernel)
set_option maxRecDepth 20000 in
theorem gX6_bound_X6_about : GoodIn wsX6_bound (wsV RX6 169 RX6 yX6_about wsX6_about) := goodIn_app (goodIn_of _ (by decide +kernel)) ggX6_bound_X6_about
set_option maxRecDepth 20000 in
theorem ggX6_bound_X0_setBound : GoodIn wsX6_bound wsX0_setBound := goodIn_r _ [30, 13, 12, 31, 32, 33, 57, 58, 59, 60, 61, 62, 63, 64, 65, 66, 67] (by decide +kernel) (by decide +kernel)
set_option maxRecDepth 20000 in
theorem gX6_bound_X0_setBound : GoodIn wsX6_bound (wsV RX6 172 RX0 yX0_setBound wsX0_setBound) := goodIn_app (goodIn_of _ (by decide +kernel)) ggX6_bound_X0_setBound
set_option maxRecDepth 20000 in
theorem ggX6_bound_X6_forget : GoodIn wsX6_bound wsX6_forget := goodIn_r _ [37, 38, 39, 40, 41, 42, 43, 44, 45, 46, 47, 48, 49, 50, 51, 52, 53, 54, 55, 56, 68, 69, 70, 71, 72, 73, 74, 75, 76, 77, 78, 79, 80, 81, 82, 83, 84] (by decide +kernel) (by decide +kernel)
set_option maxRecDepth 20000 in
theorem gX6_bound_X6_forget : GoodIn wsX6_bound (wsV RX6 82 RX6 yX6_forget wsX6_forget) := goodIn_app (goodIn_of _ (by decide +kernel)) ggX6_bound_X6_forget
theorem dX6_bound_0 : decode cX6_bound 0 = .ok (.aload_n 0, 1) := by decide +kernel
theorem dX6_bound_1 : decode cX6_bound 1 = .ok (.getfield 19, 3) := by decide +kernel
theorem dX6_bound_4 : decode cX6_bound 4 = .ok (.invokevirtual 88, 3) := by decide +kernel
theorem dX6_bound_7 : decode cX6_bound 7 = .ok (.ifCond .ne 6, 3) := by decide +kernel
theorem dX6_bound_10 : decode cX6_bound 10 = .ok (.bipush (-103), 2) := by decide +kernel
theorem dX6_bound_12 : decode cX6_bound 12 = .ok (.ireturn, 1) := by decide +kernel
theorem dX6_bound_13 : decode cX6_bound 13 = .ok (.aload_n 0, 1) := by decide +kernel
theorem dX6_bound_14 : decode cX6_bound 14 = .ok (.getfield 19, 3) := by decide +kernel
theorem dX6_bound_17 : decode cX6_bound 17 = .ok (.iload_n 1, 1) := by decide +kernel
theorem dX6_bound_18 : decode cX6_bound 18 = .ok (.iload_n 2, 1) := by decide +kernel
theorem dX6_bound_19 : decode cX6_bound 19 = .ok (.invokevirtual 166, 3) := by decide +kernel
theorem dX6_bound_22 : decode cX6_bound 22 = .ok (.ifCond .ne 6, 3) := by decide +kernel
theorem dX6_bound_25 : decode cX6_bound 25 = .ok (.bipush (-102), 2) := by decide +kernel
theorem dX6_bound_27 : decode cX6_bound 27 = .ok (.ireturn, 1) := by decide +kernel
theorem dX6_bound_28 : decode cX6_bound 28 = .ok (.aload_n 0, 1) := by decide +kernel
theorem dX6_bound_29 : decode cX6_bound 29 = .ok (.iload_n 1, 1) := by decide +kernel
theorem dX6_bound_30 : decode cX6_bound 30 = .ok (.iconst 3, 1) := by decide +kernel
theorem dX6_bound_31 : decode cX6_bound 31 = .ok (.iadd, 1) := by decide +kernel
theorem dX6_bound_32 : decode cX6_bound 32 = .ok (.invokevirtual 169, 3) := by decide +kernel
theorem dX6_bound_35 : decode cX6_bound 35 = .ok (.istore_n 3, 1) := by decide +kernel
theorem dX6_bound_36 : decode cX6_bound 36 = .ok (.aload_n 0, 1) := by decide +kernel
theorem dX6_bound_37 : decode cX6_bound 37 = .ok (.getfield 19, 3) := by decide +kernel
theorem dX6_bound_40 : decode cX6_bound 40 = .ok (.iload_n 1, 1) := by decide +kernel
theorem dX6_bound_41 : decode cX6_bound 41 = .ok (.iload_n 2, 1) := by decide +kernel
theorem dX6_bound_42 : decode cX6_bound 42 = .ok (.invokevirtual 172, 3) := by decide +kernel
theorem dX6_bound_45 : decode cX6_bound 45 = .ok (.aload_n 0, 1) := by decide +kernel
theorem dX6_bound_46 : decode cX6_bound 46 = .ok (.invokevirtual 82, 3) := by decide +kernel
theorem dX6_bound_49 : decode cX6_bound 49 = .ok (.iload_n 3, 1) := by decide +kernel
theorem dX6_bound_50 : decode cX6_bound 50 = .ok (.ireturn, 1) := by decide +kernel
set_option maxRecDepth 20000 in
theorem ggX6_circle_X0_has : GoodIn wsX6_circle wsX0_has := goodIn_r _ [7, 8, 87, 88, 89, 90, 91, 92, 93, 94, 95, 96, 97] (by decide +kernel) (by decide +kernel)
set_option maxRecDepth 20000 in
theorem gX6_circle_X0_has : GoodIn wsX6_circle (wsV RX6 106 RX0 yX0_has wsX0_has) := goodIn_app (goodIn_of _ (by decide +kernel)) ggX6_circle_X0_has
set_option maxRecDepth 20000 in
theorem ggX6_circle_X1_lay : GoodIn wsX6_circle wsX1_lay := goodIn_r _ [13, 14, 15, 16, 17, 18, 19, 20, 21, 22, 98, 99, 100, 101, 102, 103, 104, 87, 88, 89, 90, 91, 92, 93, 94, 95, 96, 97] (by decide +kernel) (by decide +kernel)
set_option maxRecDepth 20000 in
theorem gX6_circle_X1_lay : GoodIn wsX6_circle (wsV RX6 176 RX1 yX1_lay wsX1_lay) := goodIn_app (goodIn_of _ (by decide +kernel)) ggX6_circle_X1_lay
set_option maxRecDepth 20000 in
theorem ggX6_circle_X1_isLine : GoodIn wsX6_circle wsX1_isLine := goodIn_r _ [26, 20, 98, 99, 100, 101, 102, 103, 104] (by decide +kernel) (by decide +kernel)
set_option maxRecDepth 20000 in
theorem gX6_circle_X1_isLine : GoodIn wsX6_circle (wsV RX6 180 RX1 yX1_isLine wsX1_isLine) := goodIn_app (goodIn_of _ (by decide +kernel)) ggX6_circle_X1_isLine
set_option maxRecDepth 20000 in
theorem ggX6_circle_X1_vote : GoodIn wsX6_circle wsX1_vote := goodIn_r _ [30, 17, 31, 32, 33, 24, 25, 12, 26, 20, 34, 35, 36, 37, 21, 38, 39, 40, 41, 42, 43, 44, 45, 22, 46, 47, 48, 6, 49, 50, 51, 52, 53, 54, 55, 14, 15, 16, 56, 57, 58, 59, 60, 61, 62, 63, 64, 65, 66, 18, 19, 67, 68, 69, 70, 71, 72, 73, 98, 99, 100, 101, 102, 103, 104, 87, 88, 89, 90, 91, 92, 93, 94, 95, 96, 97] (by decide +kernel) (by decide +kernel)
set_option maxRecDepth 20000 in
theorem gX6_circle_X1_vote : GoodIn wsX6_circle (wsV RX6 183 RX1 yX1_vote wsX1_vote) := goodIn_app (goodIn_of _ (by decide +kernel)) ggX6_circle_X1_vote
set_option maxRecDepth 20000 in
theorem ggX6_circle_X1_cellX : GoodIn wsX6_circle wsX1_cellX := goodIn_r _ [37, 20, 21, 38, 39, 40, 41, 98, 99, 100, 101, 102, 103, 104] (by decide +kernel) (by decide +kernel)
set_option maxRecDepth 20000 in
theorem gX6_circle_X1_cellX : GoodIn wsX6_circle (wsV RX6 186 RX1 yX1_cellX wsX1_cellX) := goodIn_app (goodIn_of _ (by decide +kernel)) ggX6_circle_X1_cellX
set_option maxRecDepth 20000 in
theorem ggX6_circle_X1_cellY : GoodIn wsX6_circle wsX1_cellY := goodIn_r _ [45, 20, 22, 38, 39, 40, 41, 98, 99, 100, 101, 102, 103, 104] (by decide +kernel) (by decide +kernel)
set_option maxRecDepth 20000 in
theorem gX6_circle_X1_cellY : GoodIn wsX6_circle (wsV RX6 189 RX1 yX1_cellY wsX1_cellY) := goodIn_app (goodIn_of _ (by decide +kernel)) ggX6_circle_X1_cellY
set_option maxRecDepth 20000 in
theorem ggX6_circle_X1_radius : GoodIn wsX6_circle wsX1_radius := goodIn_r _ [66, 20, 21, 17, 18, 14, 22, 19, 67, 68, 12, 69, 70, 98, 99, 100, 101, 102, 103, 104, 87, 88, 89, 90, 91, 92, 93, 94, 95, 96, 97] (by decide +kernel) (by decide +kernel)
set_option maxRecDepth 20000 in
theorem gX6_circle_X1_radius : GoodIn wsX6_circle (wsV RX6 192 RX1 yX1_radius wsX1_radius) := goodIn_app (goodIn_of _ (by decide +kernel)) ggX6_circle_X1_radius
set_option maxRecDepth 20000 in
theorem ggX6_circle_X1_agreeing : GoodIn wsX6_circle wsX1_agreeing := goodIn_r _ [55, 17, 14, 21, 22, 20, 15, 16, 56, 57, 58, 6, 59, 60, 61, 62, 98, 99, 100, 101, 102, 103, 104, 87, 88, 89, 90, 91, 92, 93, 94, 95, 96, 97] (by decide +kernel) (by decide +kernel)
set_option maxRecDepth 20000 in
theorem gX6_circle_X1_agreeing : GoodIn wsX6_circle (wsV RX6 195 RX1 yX1_agreeing wsX1_agreeing) := goodIn_app (goodIn_of _ (by decide +kernel)) ggX6_circle_X1_agreeing
theorem dX6_circle_0 : decode cX6_circle 0 = .ok (.aload_n 0, 1) := by decide +kernel
theorem dX6_circle_1 : decode cX6_circle 1 = .ok (.getfield 19, 3) := by decide +kernel
theorem dX6_circle_4 : decode cX6_circle 4 = .ok (.iload_n 1, 1) := by decide +kernel
theorem dX6_circle_5 : decode cX6_circle 5 = .ok (.invokevirtual 106, 3) := by decide +kernel
theorem dX6_circle_8 : decode cX6_circle 8 = .ok (.ifCond .eq 40, 3) := by decide +kernel
theorem dX6_circle_11 : decode cX6_circle 11 = .ok (.aload_n 0, 1) := by decide +kernel
theorem dX6_circle_12 : decode cX6_circle 12 = .ok (.getfield 19, 3) := by decide +kernel
theorem dX6_circle_15 : decode cX6_circle 15 = .ok (.iload_n 2, 1) := by decide +kernel
theorem dX6_circle_16 : decode cX6_circle 16 = .ok (.invokevirtual 106, 3) := by decide +kernel
theorem dX6_circle_19 : decode cX6_circle 19 = .ok (.ifCond .eq 29, 3) := by decide +kernel
theorem dX6_circle_22 : decode cX6_circle 22 = .ok (.aload_n 0, 1) := by decide +kernel
theorem dX6_circle_23 : decode cX6_circle 23 = .ok (.getfield 19, 3) := by decide +kernel
theorem dX6_circle_26 : decode cX6_circle 26 = .ok (.iload_n 3, 1) := by decide +kernel
theorem dX6_circle_27 : decode cX6_circle 27 = .ok (.invokevirtual 106, 3) := by decide +kernel
theorem dX6_circle_30 : decode cX6_circle 30 = .ok (.ifCond .eq 18, 3) := by decide +kernel
theorem dX6_circle_33 : decode cX6_circle 33 = .ok (.iload_n 1, 1) := by decide +kernel
theorem dX6_circle_34 : decode cX6_circle 34 = .ok (.iload_n 2, 1) := by decide +kernel
theorem dX6_circle_35 : decode cX6_circle 35 = .ok (.if_icmp .eq 13, 3) := by decide +kernel
theorem dX6_circle_38 : decode cX6_circle 38 = .ok (.iload_n 1, 1) := by decide +kernel
theorem dX6_circle_39 : decode cX6_circle 39 = .ok (.iload_n 3, 1) := by decide +kernel
theorem dX6_circle_40 : decode cX6_circle 40 = .ok (.if_icmp .eq 8, 3) := by decide +kernel
theorem dX6_circle_43 : decode cX6_circle 43 = .ok (.iload_n 2, 1) := by decide +kernel
theorem dX6_circle_44 : decode cX6_circle 44 = .ok (.iload_n 3, 1) := by decide +kernel
theorem dX6_circle_45 : decode cX6_circle 45 = .ok (.if_icmp .ne 6, 3) := by decide +kernel
theorem dX6_circle_48 : decode cX6_circle 48 = .ok (.bipush (-101), 2) := by decide +kernel
theorem dX6_circle_50 : decode cX6_circle 50 = .ok (.ireturn, 1) := by decide +kernel
theorem dX6_circle_51 : decode cX6_circle 51 = .ok (.iload 4, 2) := by decide +kernel
theorem dX6_circle_53 : decode cX6_circle 53 = .ok (.ifCond .lt 9, 3) := by decide +kernel
theorem dX6_circle_56 : decode cX6_circle 56 = .ok (.iload 4, 2) := by decide +kernel
theorem dX6_circle_58 : decode cX6_circle 58 = .ok (.iconst 4, 1) := by decide +kernel
theorem dX6_circle_59 : decode cX6_circle 59 = .ok (.if_icmp .le 6, 3) := by decide +kernel
theorem dX6_circle_62 : decode cX6_circle 62 = .ok (.bipush (-102), 2) := by decide +kernel
theorem dX6_circle_64 : decode cX6_circle 64 = .ok (.ireturn, 1) := by decide +kernel
theorem dX6_circle_65 : decode cX6_circle 65 = .ok (.aload_n 0, 1) := by decide +kernel
theorem dX6_circle_66 : decode cX6_circle 66 = .ok (.getfield 28, 3) := by decide +kernel
theorem dX6_circle_69 : decode cX6_circle 69 = .ok (.iload_n 1, 1) := by decide +kernel
theorem dX6_circle_70 : decode cX6_circle 70 = .ok (.iload_n 2, 1) := by decide +kernel
theorem dX6_circle_71 : decode cX6_circle 71 = .ok (.iload_n 3, 1) := by decide +kernel
theorem dX6_circle_72 : decode cX6_circle 72 = .ok (.invokevirtual 176, 3) := by decide +kernel
theorem dX6_circle_75 : decode cX6_circle 75 = .ok (.aload_n 0, 1) := by decide +kernel
theorem dX6_circle_76 : decode cX6_circle 76 = .ok (.getfield 28, 3) := by decide +kernel
theorem dX6_circle_79 : decode cX6_circle 79 = .ok (.invokevirtual 180, 3) := by decide +kernel
theorem dX6_circle_82 : decode cX6_circle 82 = .ok (.ifCond .eq 6, 3) := by decide +kernel
theorem dX6_circle_85 : decode cX6_circle 85 = .ok (.bipush (-103), 2) := by decide +kernel
theorem dX6_circle_87 : decode cX6_circle 87 = .ok (.ireturn, 1) := by decide +kernel
theorem dX6_circle_88 : decode cX6_circle 88 = .ok (.iload 4, 2) := by decide +kernel
theorem dX6_circle_90 : decode cX6_circle 90 = .ok (.tableswitch 71 0 3 #[30, 47, 55, 63], 30) := by decide +kernel
theorem dX6_circle_120 : decode cX6_circle 120 = .ok (.aload_n 0, 1) := by decide +kernel
theorem dX6_circle_121 : decode cX6_circle 121 = .ok (.getfield 28, 3) := by decide +kernel
theorem dX6_circle_124 : decode cX6_circle 124 = .ok (.invokevirtual 183, 3) := by decide +kernel
theorem dX6_circle_127 : decode cX6_circle 127 = .ok (.iconst (-1), 1) := by decide +kernel
theorem dX6_circle_128 : decode cX6_circle 128 = .ok (.if_icmp .ne 7, 3) := by decide +kernel
theorem dX6_circle_131 : decode cX6_circle 131 = .ok (.iconst 0, 1) := by decide +kernel
theorem dX6_circle_132 : decode cX6_circle 132 = .ok (.goto 4, 3) := by decide +kernel
theorem dX6_circle_135 : decode cX6_circle 135 = .ok (.iconst 1, 1) := by decide +kernel
theorem dX6_circle_136 : decode cX6_circle 136 = .ok (.ireturn, 1) := by decide +kernel
theorem dX6_circle_137 : decode cX6_circle 137 = .ok (.aload_n 0, 1) := by decide +kernel
theorem dX6_circle_138 : decode cX6_circle 138 = .ok (.getfield 28, 3) := by decide +kernel
theorem dX6_circle_141 : decode cX6_circle 141 = .ok (.invokevirtual 186, 3) := by decide +kernel
theorem dX6_circle_144 : decode cX6_circle 144 = .ok (.ireturn, 1) := by decide +kernel
theorem dX6_circle_145 : decode cX6_circle 145 = .ok (.aload_n 0, 1) := by decide +kernel
theorem dX6_circle_146 : decode cX6_circle 146 = .ok (.getfield 28, 3) := by decide +kernel
theorem dX6_circle_149 : decode cX6_circle 149 = .ok (.invokevirtual 189, 3) := by decide +kernel
theorem dX6_circle_152 : decode cX6_circle 152 = .ok (.ireturn, 1) := by decide +kernel
theorem dX6_circle_153 : decode cX6_circle 153 = .ok (.aload_n 0, 1) := by decide +kernel
theorem dX6_circle_154 : decode cX6_circle 154 = .ok (.getfield 28, 3) := by decide +kernel
theorem dX6_circle_157 : decode cX6_circle 157 = .ok (.invokevirtual 192, 3) := by decide +kernel
theorem dX6_circle_160 : decode cX6_circle 160 = .ok (.ireturn, 1) := by decide +kernel
theorem dX6_circle_161 : decode cX6_circle 161 = .ok (.aload_n 0, 1) := by decide +kernel
theorem dX6_circle_162 : decode cX6_circle 162 = .ok (.getfield 28, 3) := by decide +kernel
theorem dX6_circle_165 : decode cX6_circle 165 = .ok (.invokevirtual 195, 3) := by decide +kernel
theorem dX6_circle_168 : decode cX6_circle 168 = .ok (.ireturn, 1) := by decide +kernel
set_option maxRecDepth 20000 in
theorem ggX6_votes_X0_isThere : GoodIn wsX6_votes wsX0_isThere := goodIn_r _ [7, 8, 161, 162, 163, 164, 165, 166, 167, 168, 169, 170, 171] (by decide +kernel) (by decide +kernel)
set_option maxRecDepth 20000 in
theorem gX6_votes_X0_isThere : GoodIn wsX6_votes (wsV RX6 88 RX0 yX0_isThere wsX0_isThere) := goodIn_app (goodIn_of _ (by decide +kernel)) ggX6_votes_X0_isThere
set_option maxRecDepth 20000 in
theorem ggX6_votes_X5_refresh : GoodIn wsX6_votes wsX5_refresh := goodIn_r _ [13, 14, 15, 16, 17, 18, 19, 20, 21, 22, 23, 12, 24, 25, 26, 27, 28, 29, 30, 31, 32, 33, 34, 35, 36, 37, 38, 39, 40, 41, 42, 43, 44, 45, 46, 47, 48, 49, 50, 51, 52, 53, 54, 55, 56, 57, 58, 59, 60, 61, 62, 63, 64, 65, 66, 67, 68, 69, 70, 71, 72, 6, 73, 8, 74, 75, 76, 77, 78, 79, 80, 81, 82, 83, 84, 85, 86, 87, 88, 89, 90, 91, 92, 93, 94, 95, 96, 97, 98, 99, 100, 101, 102, 103, 104, 105, 106, 107, 108, 109, 110, 111, 112, 113, 114, 115, 116, 117, 118, 119, 120, 121, 122, 123, 124, 125, 126, 127, 128, 129, 130, 131, 132, 133, 134, 135, 136, 137, 138, 139, 140, 141, 142, 143, 172, 173, 174, 175, 176, 177, 178, 179, 180, 181, 161, 162, 163, 164, 165, 166, 167, 168, 169, 170, 171, 182, 183, 184, 185, 186, 187, 188, 189, 190, 191, 192] (by decide +kernel) (by decide +kernel)
set_option maxRecDepth 20000 in
theorem gX6_votes_X5_refresh : GoodIn wsX6_votes (wsV RX6 198 RX5 yX5_refresh wsX5_refresh) := goodIn_app (goodIn_of _ (by decide +kernel)) ggX6_votes_X5_refresh
set_option maxRecDepth 20000 in
theorem ggX6_votes_X5_votesFor : GoodIn wsX6_votes wsX5_votesFor := goodIn_r _ [147, 18, 104, 105, 106, 12, 107, 17, 116, 95, 117, 118, 119, 120, 121, 148, 149, 150, 151, 172, 173, 174, 175, 176, 177, 178, 179, 180, 181] (by decide +kernel) (by decide +kernel)
set_option maxRecDepth 20000 in
theorem gX6_votes_X5_votesFor : GoodIn wsX6_votes (wsV RX6 201 RX5 yX5_votesFor wsX5_votesFor) := goodIn_app (goodIn_of _ (by decide +kernel)) ggX6_votes_X5_votesFor
theorem dX6_votes_0 : decode cX6_votes 0 = .ok (.aload_n 0, 1) := by decide +kernel
theorem dX6_votes_1 : decode cX6_votes 1 = .ok (.getfield 19, 3) := by decide +kernel
theorem dX6_votes_4 : decode cX6_votes 4 = .ok (.invokevirtual 88, 3) := by decide +kernel
theorem dX6_votes_7 : decode cX6_votes 7 = .ok (.ifCond .ne 6, 3) := by decide +kernel
theorem dX6_votes_10 : decode cX6_votes 10 = .ok (.bipush (-103), 2) := by decide +kernel
theorem dX6_votes_12 : decode cX6_votes 12 = .ok (.ireturn, 1) := by decide +kernel
theorem dX6_votes_13 : decode cX6_votes 13 = .ok (.aload_n 0, 1) := by decide +kernel
theorem dX6_votes_14 : decode cX6_votes 14 = .ok (.getfield 44, 3) := by decide +kernel
theorem dX6_votes_17 : decode cX6_votes 17 = .ok (.invokevirtual 198, 3) := by decide +kernel
theorem dX6_votes_20 : decode cX6_votes 20 = .ok (.aload_n 0, 1) := by decide +kernel
theorem dX6_votes_21 : decode cX6_votes 21 = .ok (.getfield 44, 3) := by decide +kernel
theorem dX6_votes_24 : decode cX6_votes 24 = .ok (.iload_n 1, 1) := by decide +kernel
theorem dX6_votes_25 : decode cX6_votes 25 = .ok (.iload_n 2, 1) := by decide +kernel
theorem dX6_votes_26 : decode cX6_votes 26 = .ok (.iload_n 3, 1) := by decide +kernel
theorem dX6_votes_27 : decode cX6_votes 27 = .ok (.invokevirtual 201, 3) := by decide +kernel
theorem dX6_votes_30 : decode cX6_votes 30 = .ok (.ireturn, 1) := by decide +kernel
set_option maxRecDepth 20000 in
theorem ggX6_spot_X5_refresh : GoodIn wsX6_spot wsX5_refresh := goodIn_r _ [7, 8, 9, 10, 11, 12, 13, 14, 15, 16, 17, 6, 18, 19, 20, 21, 22, 23, 24, 25, 26, 27, 28, 29, 30, 31, 32, 33, 34, 35, 36, 37, 38, 39, 40, 41, 42, 43, 44, 45, 46, 47, 48, 49, 50, 51, 52, 53, 54, 55, 56, 57, 58, 59, 60, 61, 62, 63, 64, 65, 66, 67, 68, 69, 70, 71, 72, 73, 74, 75, 76, 77, 78, 79, 80, 81, 82, 83, 84, 85, 86, 87, 88, 89, 90, 91, 92, 93, 94, 95, 96, 97, 98, 99, 100, 101, 102, 103, 104, 105, 106, 107, 108, 109, 110, 111, 112, 113, 114, 115, 116, 117, 118, 119, 120, 121, 122, 123, 124, 125, 126, 127, 128, 129, 130, 131, 132, 133, 134, 135, 136, 137, 138, 139, 173, 174, 175, 176, 177, 178, 179, 180, 181, 182, 183, 184, 185, 186, 187, 188, 189, 190, 191, 192, 193, 194, 195, 196, 197, 198, 199, 200, 201, 202, 203, 204] (by decide +kernel) (by decide +kernel)
set_option maxRecDepth 20000 in
theorem gX6_spot_X5_refresh : GoodIn wsX6_spot (wsV RX6 198 RX5 yX5_refresh wsX5_refresh) := goodIn_app (goodIn_of _ (by decide +kernel)) ggX6_spot_X5_refresh
set_option maxRecDepth 20000 in
theorem ggX6_spot_X5_tell : GoodIn wsX6_spot wsX5_tell := goodIn_r _ [143, 14, 13, 100, 101, 102, 6, 103, 11, 112, 91, 113, 114, 115, 116, 117, 144, 145, 146, 147, 148, 149, 150, 151, 152, 153, 154, 104, 105, 106, 107, 108, 109, 110, 111, 155, 156, 157, 158, 122, 123, 159, 160, 161, 162, 137, 138, 163, 173, 174, 175, 176, 177, 178, 179, 180, 181, 182, 201, 202, 203, 204, 183, 184, 185, 186, 187, 188, 189, 190, 191, 192, 193] (by decide +kernel) (by decide +kernel)
set_option maxRecDepth 20000 in
theorem gX6_spot_X5_tell : GoodIn wsX6_spot (wsV RX6 208 RX5 yX5_tell wsX5_tell) := goodIn_app (goodIn_of _ (by decide +kernel)) ggX6_spot_X5_tell
theorem dX6_spot_0 : decode cX6_spot 0 = .ok (.aload_n 0, 1) := by decide +kernel
theorem dX6_spot_1 : decode cX6_spot 1 = .ok (.getfield 44, 3) := by decide +kernel
theorem dX6_spot_4 : decode cX6_spot 4 = .ok (.invokevirtual 198, 3) := by decide +kernel
theorem dX6_spot_7 : decode cX6_spot 7 = .ok (.iload_n 1, 1) := by decide +kernel
theorem dX6_spot_8 : decode cX6_spot 8 = .ok (.ifCond .lt 14, 3) := by decide +kernel
theorem dX6_spot_11 : decode cX6_spot 11 = .ok (.iload_n 1, 1) := by decide +kernel
theorem dX6_spot_12 : decode cX6_spot 12 = .ok (.aload_n 0, 1) := by decide +kernel
theorem dX6_spot_13 : decode cX6_spot 13 = .ok (.getfield 44, 3) := by decide +kernel
theorem dX6_spot_16 : decode cX6_spot 16 = .ok (.getfield 205, 3) := by decide +kernel
theorem dX6_spot_19 : decode cX6_spot 19 = .ok (.if_icmp .lt 6, 3) := by decide +kernel
theorem dX6_spot_22 : decode cX6_spot 22 = .ok (.bipush (-101), 2) := by decide +kernel
theorem dX6_spot_24 : decode cX6_spot 24 = .ok (.ireturn, 1) := by decide +kernel
theorem dX6_spot_25 : decode cX6_spot 25 = .ok (.aload_n 0, 1) := by decide +kernel
theorem dX6_spot_26 : decode cX6_spot 26 = .ok (.getfield 44, 3) := by decide +kernel
theorem dX6_spot_29 : decode cX6_spot 29 = .ok (.iload_n 1, 1) := by decide +kernel
theorem dX6_spot_30 : decode cX6_spot 30 = .ok (.iload_n 2, 1) := by decide +kernel
theorem dX6_spot_31 : decode cX6_spot 31 = .ok (.invokevirtual 208, 3) := by decide +kernel
theorem dX6_spot_34 : decode cX6_spot 34 = .ok (.ireturn, 1) := by decide +kernel
set_option maxRecDepth 20000 in
theorem ggX6_spots_X0_isThere : GoodIn wsX6_spots wsX0_isThere := goodIn_r _ [7, 8, 165, 166, 167, 168, 169, 170, 171, 172, 173, 174, 175] (by decide +kernel) (by decide +kernel)
set_option maxRecDepth 20000 in
theorem gX6_spots_X0_isThere : GoodIn wsX6_spots (wsV RX6 88 RX0 yX0_isThere wsX0_isThere) := goodIn_app (goodIn_of _ (by decide +kernel)) ggX6_spots_X0_isThere
set_option maxRecDepth 20000 in
theorem ggX6_spots_X5_refresh : GoodIn wsX6_spots wsX5_refresh := goodIn_r _ [13, 14, 15, 16, 17, 18, 19, 20, 21, 22, 23, 12, 24, 25, 26, 27, 28, 29, 30, 31, 32, 33, 34, 35, 36, 37, 38, 39, 40, 41, 42, 43, 44, 45, 46, 47, 48, 49, 50, 51, 52, 53, 54, 55, 56, 57, 58, 59, 60, 61, 62, 63, 64, 65, 66, 67, 68, 69, 70, 71, 72, 6, 73, 8, 74, 75, 76, 77, 78, 79, 80, 81, 82, 83, 84, 85, 86, 87, 88, 89, 90, 91, 92, 93, 94, 95, 96, 97, 98, 99, 100, 101, 102, 103, 104, 105, 106, 107, 108, 109, 110, 111, 112, 113, 114, 115, 116, 117, 118, 119, 120, 121, 122, 123, 124, 125, 126, 127, 128, 129, 130, 131, 132, 133, 134, 135, 136, 137, 138, 139, 140, 141, 142, 143, 176, 177, 178, 179, 180, 181, 182, 183, 184, 185, 165, 166, 167, 168, 169, 170, 171, 172, 173, 174, 175, 186, 187, 188, 189, 190, 191, 192, 193, 194, 195, 196] (by decide +kernel) (by decide +kernel)
set_option maxRecDepth 20000 in
theorem gX6_spots_X5_refresh : GoodIn wsX6_spots (wsV RX6 198 RX5 yX5_refresh wsX5_refresh) := goodIn_app (goodIn_of _ (by decide +kernel)) ggX6_spots_X5_refresh
set_option maxRecDepth 20000 in
theorem ggX6_spots_X5_total : GoodIn wsX6_spots wsX5_total := goodIn_r _ [147, 18, 16, 25, 148, 149, 150, 12, 151, 152, 153, 154, 155, 17, 176, 177, 178, 179, 180, 181, 182, 183, 184, 185] (by decide +kernel) (by decide +kernel)
set_option maxRecDepth 20000 in
theorem gX6_spots_X5_total : GoodIn wsX6_spots (wsV RX6 211 RX5 yX5_total wsX5_total) := goodIn_app (goodIn_of _ (by decide +kernel)) ggX6_spots_X5_total
theorem dX6_spots_0 : decode cX6_spots 0 = .ok (.iload_n 1, 1) := by decide +kernel
theorem dX6_spots_1 : decode cX6_spots 1 = .ok (.ifCond .lt 8, 3) := by decide +kernel
theorem dX6_spots_4 : decode cX6_spots 4 = .ok (.iload_n 1, 1) := by decide +kernel
theorem dX6_spots_5 : decode cX6_spots 5 = .ok (.iconst 3, 1) := by decide +kernel
theorem dX6_spots_6 : decode cX6_spots 6 = .ok (.if_icmp .le 6, 3) := by decide +kernel
theorem dX6_spots_9 : decode cX6_spots 9 = .ok (.bipush (-102), 2) := by decide +kernel
theorem dX6_spots_11 : decode cX6_spots 11 = .ok (.ireturn, 1) := by decide +kernel
theorem dX6_spots_12 : decode cX6_spots 12 = .ok (.aload_n 0, 1) := by decide +kernel
theorem dX6_spots_13 : decode cX6_spots 13 = .ok (.getfield 19, 3) := by decide +kernel
theorem dX6_spots_16 : decode cX6_spots 16 = .ok (.invokevirtual 88, 3) := by decide +kernel
theorem dX6_spots_19 : decode cX6_spots 19 = .ok (.ifCond .ne 6, 3) := by decide +kernel
theorem dX6_spots_22 : decode cX6_spots 22 = .ok (.bipush (-103), 2) := by decide +kernel
theorem dX6_spots_24 : decode cX6_spots 24 = .ok (.ireturn, 1) := by decide +kernel
theorem dX6_spots_25 : decode cX6_spots 25 = .ok (.aload_n 0, 1) := by decide +kernel
theorem dX6_spots_26 : decode cX6_spots 26 = .ok (.getfield 44, 3) := by decide +kernel
theorem dX6_spots_29 : decode cX6_spots 29 = .ok (.invokevirtual 198, 3) := by decide +kernel
theorem dX6_spots_32 : decode cX6_spots 32 = .ok (.aload_n 0, 1) := by decide +kernel
theorem dX6_spots_33 : decode cX6_spots 33 = .ok (.getfield 44, 3) := by decide +kernel
theorem dX6_spots_36 : decode cX6_spots 36 = .ok (.iload_n 1, 1) := by decide +kernel
theorem dX6_spots_37 : decode cX6_spots 37 = .ok (.invokevirtual 211, 3) := by decide +kernel
theorem dX6_spots_40 : decode cX6_spots 40 = .ok (.ireturn, 1) := by decide +kernel
set_option maxRecDepth 20000 in
theorem ggX6_hunt_X0_isThere : GoodIn wsX6_hunt wsX0_isThere := goodIn_r _ [10, 11, 206, 207, 208, 209, 210, 211, 212, 213, 214, 215, 216] (by decide +kernel) (by decide +kernel)
set_option maxRecDepth 20000 in
theorem gX6_hunt_X0_isThere : GoodIn wsX6_hunt (wsV RX6 88 RX0 yX0_isThere wsX0_isThere) := goodIn_app (goodIn_of _ (by decide +kernel)) ggX6_hunt_X0_isThere
set_option maxRecDepth 20000 in
theorem ggX6_hunt_X5_refresh : GoodIn wsX6_hunt wsX5_refresh := goodIn_r _ [16, 17, 18, 19, 20, 21, 22, 23, 24, 25, 26, 15, 27, 28, 29, 30, 31, 32, 33, 34, 35, 36, 37, 38, 39, 40, 41, 42, 43, 44, 45, 46, 47, 48, 49, 50, 51, 52, 53, 54, 55, 56, 57, 58, 59, 60, 61, 62, 63, 64, 65, 66, 67, 68, 69, 70, 71, 72, 73, 74, 75, 9, 76, 11, 77, 78, 79, 80, 81, 82, 83, 84, 85, 86, 87, 88, 89, 90, 91, 92, 93, 94, 95, 96, 97, 98, 99, 100, 101, 102, 103, 104, 105, 106, 107, 108, 109, 110, 111, 112, 113, 114, 115, 116, 117, 118, 119, 120, 121, 122, 123, 124, 125, 126, 127, 128, 129, 130, 131, 132, 133, 134, 135, 136, 137, 138, 139, 140, 141, 142, 143, 144, 145, 146, 217, 218, 219, 220, 221, 222, 223, 224, 225, 226, 206, 207, 208, 209, 210, 211, 212, 213, 214, 215, 216, 227, 228, 229, 230, 231, 232, 233, 234, 235, 236, 237] (by decide +kernel) (by decide +kernel)
set_option maxRecDepth 20000 in
theorem gX6_hunt_X5_refresh : GoodIn wsX6_hunt (wsV RX6 198 RX5 yX5_refresh wsX5_refresh) := goodIn_app (goodIn_of _ (by decide +kernel)) ggX6_hunt_X5_refresh
set_option maxRecDepth 20000 in
theorem ggX6_hunt_X3_keepBest : GoodIn wsX6_hunt wsX3_keepBest := goodIn_r _ [151, 152, 153, 154, 155, 156, 157, 158, 159, 160, 161, 162, 150, 163, 164, 165, 108, 109, 15, 110, 20, 166, 167, 168, 169, 170, 171, 172, 173, 174, 175, 176, 177, 178, 179, 180, 112, 113, 114, 115, 116, 117, 118, 119, 98, 120, 121, 122, 123, 124, 181, 182, 183, 184, 129, 130, 185, 186, 187, 188, 144, 145, 189, 199, 200, 201, 202, 203, 204, 205, 206, 207, 208, 209, 210, 211, 212, 213, 214, 215, 216, 217, 218, 219, 220, 221, 222, 223, 224, 225, 226, 234, 235, 236, 237] (by decide +kernel) (by decide +kernel)
set_option maxRecDepth 20000 in
theorem gX6_hunt_X3_keepBest : GoodIn wsX6_hunt (wsV RX6 214 RX3 yX3_keepBest wsX3_keepBest) := goodIn_app (goodIn_of _ (by decide +kernel)) ggX6_hunt_X3_keepBest
theorem dX6_hunt_0 : decode cX6_hunt 0 = .ok (.aload_n 0, 1) := by decide +kernel
theorem dX6_hunt_1 : decode cX6_hunt 1 = .ok (.getfield 19, 3) := by decide +kernel
theorem dX6_hunt_4 : decode cX6_hunt 4 = .ok (.invokevirtual 88, 3) := by decide +kernel
theorem dX6_hunt_7 : decode cX6_hunt 7 = .ok (.ifCond .ne 6, 3) := by decide +kernel
theorem dX6_hunt_10 : decode cX6_hunt 10 = .ok (.bipush (-103), 2) := by decide +kernel
theorem dX6_hunt_12 : decode cX6_hunt 12 = .ok (.ireturn, 1) := by decide +kernel
theorem dX6_hunt_13 : decode cX6_hunt 13 = .ok (.aload_n 0, 1) := by decide +kernel
theorem dX6_hunt_14 : decode cX6_hunt 14 = .ok (.getfield 44, 3) := by decide +kernel
theorem dX6_hunt_17 : decode cX6_hunt 17 = .ok (.invokevirtual 198, 3) := by decide +kernel
theorem dX6_hunt_20 : decode cX6_hunt 20 = .ok (.aload_n 0, 1) := by decide +kernel
theorem dX6_hunt_21 : decode cX6_hunt 21 = .ok (.getfield 53, 3) := by decide +kernel
theorem dX6_hunt_24 : decode cX6_hunt 24 = .ok (.invokevirtual 214, 3) := by decide +kernel
theorem dX6_hunt_27 : decode cX6_hunt 27 = .ok (.aload_n 0, 1) := by decide +kernel
theorem dX6_hunt_28 : decode cX6_hunt 28 = .ok (.dup, 1) := by decide +kernel
theorem dX6_hunt_29 : decode cX6_hunt 29 = .ok (.getfield 217, 3) := by decide +kernel
theorem dX6_hunt_32 : decode cX6_hunt 32 = .ok (.iconst 1, 1) := by decide +kernel
theorem dX6_hunt_33 : decode cX6_hunt 33 = .ok (.iadd, 1) := by decide +kernel
theorem dX6_hunt_34 : decode cX6_hunt 34 = .ok (.putfield 217, 3) := by decide +kernel
theorem dX6_hunt_37 : decode cX6_hunt 37 = .ok (.aload_n 0, 1) := by decide +kernel
theorem dX6_hunt_38 : decode cX6_hunt 38 = .ok (.getfield 53, 3) := by decide +kernel
theorem dX6_hunt_41 : decode cX6_hunt 41 = .ok (.getfield 220, 3) := by decide +kernel
theorem dX6_hunt_44 : decode cX6_hunt 44 = .ok (.ireturn, 1) := by decide +kernel
set_option maxRecDepth 20000 in
theorem ggX6_split_X3_tellOffAnew : GoodIn wsX6_split wsX3_tellOffAnew := goodIn_r _ [9, 10, 11, 12, 8, 13, 14, 15, 16, 17, 18, 19, 20, 21, 22, 23, 24, 25, 26, 27, 28, 29, 30, 31, 32, 33, 34, 35, 36, 37, 38, 39, 40, 41, 42, 43, 44, 45, 46, 47, 48, 49, 50, 51, 52, 53, 54, 55, 56, 57, 58, 59, 60, 61, 62, 63, 64, 65, 66, 67, 68, 69, 70, 71, 72, 73, 74, 75, 76, 77, 78, 79, 80, 81, 82, 83, 84, 85, 86, 87, 88, 89, 90, 91, 92, 93, 103, 104, 105, 106, 107, 108, 109, 110, 111, 112, 113, 114, 115, 116, 117, 118, 119, 120, 121, 122, 123, 124] (by decide +kernel) (by decide +kernel)
set_option maxRecDepth 20000 in
theorem gX6_split_X3_tellOffAnew : GoodIn wsX6_split (wsV RX6 225 RX3 yX3_tellOffAnew wsX3_tellOffAnew) := goodIn_app (goodIn_of _ (by decide +kernel)) ggX6_split_X3_tellOffAnew
theorem dX6_split_0 : decode cX6_split 0 = .ok (.aload_n 0, 1) := by decide +kernel
theorem dX6_split_1 : decode cX6_split 1 = .ok (.getfield 53, 3) := by decide +kernel
theorem dX6_split_4 : decode cX6_split 4 = .ok (.getfield 221, 3) := by decide +kernel
theorem dX6_split_7 : decode cX6_split 7 = .ok (.ifCond .ne 6, 3) := by decide +kernel
theorem dX6_split_10 : decode cX6_split 10 = .ok (.bipush (-103), 2) := by decide +kernel
theorem dX6_split_12 : decode cX6_split 12 = .ok (.ireturn, 1) := by decide +kernel
theorem dX6_split_13 : decode cX6_split 13 = .ok (.aload_n 0, 1) := by decide +kernel
theorem dX6_split_14 : decode cX6_split 14 = .ok (.getfield 53, 3) := by decide +kernel
theorem dX6_split_17 : decode cX6_split 17 = .ok (.getfield 220, 3) := by decide +kernel
theorem dX6_split_20 : decode cX6_split 20 = .ok (.istore_n 1, 1) := by decide +kernel
theorem dX6_split_21 : decode cX6_split 21 = .ok (.aload_n 0, 1) := by decide +kernel
theorem dX6_split_22 : decode cX6_split 22 = .ok (.getfield 53, 3) := by decide +kernel
theorem dX6_split_25 : decode cX6_split 25 = .ok (.invokevirtual 225, 3) := by decide +kernel
theorem dX6_split_28 : decode cX6_split 28 = .ok (.aload_n 0, 1) := by decide +kernel
theorem dX6_split_29 : decode cX6_split 29 = .ok (.dup, 1) := by decide +kernel
theorem dX6_split_30 : decode cX6_split 30 = .ok (.getfield 228, 3) := by decide +kernel
theorem dX6_split_33 : decode cX6_split 33 = .ok (.iload_n 1, 1) := by decide +kernel
theorem dX6_split_34 : decode cX6_split 34 = .ok (.aload_n 0, 1) := by decide +kernel
theorem dX6_split_35 : decode cX6_split 35 = .ok (.getfield 53, 3) := by decide +kernel
theorem dX6_split_38 : decode cX6_split 38 = .ok (.getfield 220, 3) := by decide +kernel
theorem dX6_split_41 : decode cX6_split 41 = .ok (.isub, 1) := by decide +kernel
theorem dX6_split_42 : decode cX6_split 42 = .ok (.iadd, 1) := by decide +kernel
theorem dX6_split_43 : decode cX6_split 43 = .ok (.putfield 228, 3) := by decide +kernel
theorem dX6_split_46 : decode cX6_split 46 = .ok (.aload_n 0, 1) := by decide +kernel
theorem dX6_split_47 : decode cX6_split 47 = .ok (.getfield 53, 3) := by decide +kernel
theorem dX6_split_50 : decode cX6_split 50 = .ok (.getfield 220, 3) := by decide +kernel
theorem dX6_split_53 : decode cX6_split 53 = .ok (.ireturn, 1) := by decide +kernel
set_option maxRecDepth 20000 in
theorem ggX6_ring_X3_has : GoodIn wsX6_ring wsX3_has := goodIn_r _ [6, 7, 71, 72, 73, 74, 75, 76, 77] (by decide +kernel) (by decide +kernel)
set_option maxRecDepth 20000 in
theorem gX6_ring_X3_has : GoodIn wsX6_ring (wsV RX6 231 RX3 yX3_has wsX3_has) := goodIn_app (goodIn_of _ (by decide +kernel)) ggX6_ring_X3_has
set_option maxRecDepth 20000 in
theorem ggX6_ring_X3_tell : GoodIn wsX6_ring wsX3_tell := goodIn_r _ [11, 12, 13, 14, 15, 16, 17, 18, 19, 20, 21, 22, 23, 5, 24, 25, 26, 27, 28, 29, 30, 31, 32, 33, 34, 35, 36, 37, 38, 39, 40, 41, 42, 43, 44, 45, 46, 47, 48, 49, 50, 51, 52, 53, 54, 55, 56, 57, 58, 59, 60, 61, 71, 72, 73, 74, 75, 76, 77, 78, 79, 80, 81, 82, 83, 84, 85, 86, 87, 88, 89, 90, 91, 92] (by decide +kernel) (by decide +kernel)
set_option maxRecDepth 20000 in
theorem gX6_ring_X3_tell : GoodIn wsX6_ring (wsV RX6 232 RX3 yX3_tell wsX3_tell) := goodIn_app (goodIn_of _ (by decide +kernel)) ggX6_ring_X3_tell
theorem dX6_ring_0 : decode cX6_ring 0 = .ok (.aload_n 0, 1) := by decide +kernel
theorem dX6_ring_1 : decode cX6_ring 1 = .ok (.getfield 53, 3) := by decide +kernel
theorem dX6_ring_4 : decode cX6_ring 4 = .ok (.iload_n 1, 1) := by decide +kernel
theorem dX6_ring_5 : decode cX6_ring 5 = .ok (.invokevirtual 231, 3) := by decide +kernel
theorem dX6_ring_8 : decode cX6_ring 8 = .ok (.ifCond .ne 6, 3) := by decide +kernel
theorem dX6_ring_11 : decode cX6_ring 11 = .ok (.bipush (-101), 2) := by decide +kernel
theorem dX6_ring_13 : decode cX6_ring 13 = .ok (.ireturn, 1) := by decide +kernel
theorem dX6_ring_14 : decode cX6_ring 14 = .ok (.aload_n 0, 1) := by decide +kernel
theorem dX6_ring_15 : decode cX6_ring 15 = .ok (.getfield 53, 3) := by decide +kernel
theorem dX6_ring_18 : decode cX6_ring 18 = .ok (.iload_n 1, 1) := by decide +kernel
theorem dX6_ring_19 : decode cX6_ring 19 = .ok (.iload_n 2, 1) := by decide +kernel
theorem dX6_ring_20 : decode cX6_ring 20 = .ok (.invokevirtual 232, 3) := by decide +kernel
theorem dX6_ring_23 : decode cX6_ring 23 = .ok (.ireturn, 1) := by decide +kernel
set_option maxRecDepth 20000 in
theorem ggX6_as_X3_has : GoodIn wsX6_as wsX3_has := goodIn_r _ [6, 7, 62, 63, 64, 65, 66, 67, 68] (by decide +kernel) (by decide +kernel)
set_option maxRecDepth 20000 in
theorem gX6_as_X3_has : GoodIn wsX6_as (wsV RX6 231 RX3 yX3_has wsX3_has) := goodIn_app (goodIn_of _ (by decide +kernel)) ggX6_as_X3_has
set_option maxRecDepth 20000 in
theorem ggX6_as_X3_kindOf : GoodIn wsX6_as wsX3_kindOf := goodIn_r _ [11, 12, 13, 14, 5, 15, 16, 17, 18, 19, 20, 21, 22, 23, 24, 25, 26, 27, 28, 29, 30, 31, 32, 33, 34, 35, 36, 37, 38, 39, 40, 41, 42, 43, 44, 45, 46, 47, 48, 49, 50, 51, 52, 62, 63, 64, 65, 66, 67, 68, 69, 70, 71, 72, 73, 74, 75, 76, 77, 78, 79, 80, 81, 82, 83] (by decide +kernel) (by decide +kernel)
set_option maxRecDepth 20000 in
theorem gX6_as_X3_kindOf : GoodIn wsX6_as (wsV RX6 233 RX3 yX3_kindOf wsX3_kindOf) := goodIn_app (goodIn_of _ (by decide +kernel)) ggX6_as_X3_kindOf
theorem dX6_as_0 : decode cX6_as 0 = .ok (.aload_n 0, 1) := by decide +kernel
theorem dX6_as_1 : decode cX6_as 1 = .ok (.getfield 53, 3) := by decide +kernel
theorem dX6_as_4 : decode cX6_as 4 = .ok (.iload_n 1, 1) := by decide +kernel
theorem dX6_as_5 : decode cX6_as 5 = .ok (.invokevirtual 231, 3) := by decide +kernel
theorem dX6_as_8 : decode cX6_as 8 = .ok (.ifCond .ne 6, 3) := by decide +kernel
theorem dX6_as_11 : decode cX6_as 11 = .ok (.bipush (-101), 2) := by decide +kernel
theorem dX6_as_13 : decode cX6_as 13 = .ok (.ireturn, 1) := by decide +kernel
theorem dX6_as_14 : decode cX6_as 14 = .ok (.iload_n 2, 1) := by decide +kernel
theorem dX6_as_15 : decode cX6_as 15 = .ok (.ifCond .lt 8, 3) := by decide +kernel
theorem dX6_as_18 : decode cX6_as 18 = .ok (.iload_n 2, 1) := by decide +kernel
theorem dX6_as_19 : decode cX6_as 19 = .ok (.iconst 1, 1) := by decide +kernel
theorem dX6_as_20 : decode cX6_as 20 = .ok (.if_icmp .le 6, 3) := by decide +kernel
theorem dX6_as_23 : decode cX6_as 23 = .ok (.bipush (-102), 2) := by decide +kernel
theorem dX6_as_25 : decode cX6_as 25 = .ok (.ireturn, 1) := by decide +kernel
theorem dX6_as_26 : decode cX6_as 26 = .ok (.aload_n 0, 1) := by decide +kernel
theorem dX6_as_27 : decode cX6_as 27 = .ok (.getfield 53, 3) := by decide +kernel
theorem dX6_as_30 : decode cX6_as 30 = .ok (.iload_n 1, 1) := by decide +kernel
theorem dX6_as_31 : decode cX6_as 31 = .ok (.invokevirtual 233, 3) := by decide +kernel
theorem dX6_as_34 : decode cX6_as 34 = .ok (.iload_n 2, 1) := by decide +kernel
theorem dX6_as_35 : decode cX6_as 35 = .ok (.if_icmp .ne 7, 3) := by decide +kernel
theorem dX6_as_38 : decode cX6_as 38 = .ok (.iload_n 1, 1) := by decide +kernel
theorem dX6_as_39 : decode cX6_as 39 = .ok (.goto 4, 3) := by decide +kernel
theorem dX6_as_42 : decode cX6_as 42 = .ok (.iconst (-1), 1) := by decide +kernel
theorem dX6_as_43 : decode cX6_as 43 = .ok (.ireturn, 1) := by decide +kernel
set_option maxRecDepth 20000 in
theorem ggX6_cross_X3_has : GoodIn wsX6_cross wsX3_has := goodIn_r _ [6, 7, 29, 30, 31, 32, 33, 34, 35] (by decide +kernel) (by decide +kernel)
set_option maxRecDepth 20000 in
theorem gX6_cross_X3_has : GoodIn wsX6_cross (wsV RX6 231 RX3 yX3_has wsX3_has) := goodIn_app (goodIn_of _ (by decide +kernel)) ggX6_cross_X3_has
set_option maxRecDepth 20000 in
theorem ggX6_cross_X3_areCrossing : GoodIn wsX6_cross wsX3_areCrossing := goodIn_r _ [11, 12, 13, 14, 15, 16, 17, 18, 19, 29, 30, 31, 32, 33, 34, 35] (by decide +kernel) (by decide +kernel)
set_option maxRecDepth 20000 in
theorem gX6_cross_X3_areCrossing : GoodIn wsX6_cross (wsV RX6 236 RX3 yX3_areCrossing wsX3_areCrossing) := goodIn_app (goodIn_of _ (by decide +kernel)) ggX6_cross_X3_areCrossing
theorem dX6_cross_0 : decode cX6_cross 0 = .ok (.aload_n 0, 1) := by decide +kernel
theorem dX6_cross_1 : decode cX6_cross 1 = .ok (.getfield 53, 3) := by decide +kernel
theorem dX6_cross_4 : decode cX6_cross 4 = .ok (.iload_n 1, 1) := by decide +kernel
theorem dX6_cross_5 : decode cX6_cross 5 = .ok (.invokevirtual 231, 3) := by decide +kernel
theorem dX6_cross_8 : decode cX6_cross 8 = .ok (.ifCond .eq 19, 3) := by decide +kernel
theorem dX6_cross_11 : decode cX6_cross 11 = .ok (.aload_n 0, 1) := by decide +kernel
theorem dX6_cross_12 : decode cX6_cross 12 = .ok (.getfield 53, 3) := by decide +kernel
theorem dX6_cross_15 : decode cX6_cross 15 = .ok (.iload_n 2, 1) := by decide +kernel
theorem dX6_cross_16 : decode cX6_cross 16 = .ok (.invokevirtual 231, 3) := by decide +kernel
theorem dX6_cross_19 : decode cX6_cross 19 = .ok (.ifCond .eq 8, 3) := by decide +kernel
theorem dX6_cross_22 : decode cX6_cross 22 = .ok (.iload_n 1, 1) := by decide +kernel
theorem dX6_cross_23 : decode cX6_cross 23 = .ok (.iload_n 2, 1) := by decide +kernel
theorem dX6_cross_24 : decode cX6_cross 24 = .ok (.if_icmp .ne 6, 3) := by decide +kernel
theorem dX6_cross_27 : decode cX6_cross 27 = .ok (.bipush (-101), 2) := by decide +kernel
theorem dX6_cross_29 : decode cX6_cross 29 = .ok (.ireturn, 1) := by decide +kernel
theorem dX6_cross_30 : decode cX6_cross 30 = .ok (.aload_n 0, 1) := by decide +kernel
theorem dX6_cross_31 : decode cX6_cross 31 = .ok (.getfield 53, 3) := by decide +kernel
theorem dX6_cross_34 : decode cX6_cross 34 = .ok (.iload_n 1, 1) := by decide +kernel
theorem dX6_cross_35 : decode cX6_cross 35 = .ok (.iload_n 2, 1) := by decide +kernel
theorem dX6_cross_36 : decode cX6_cross 36 = .ok (.invokevirtual 236, 3) := by decide +kernel
theorem dX6_cross_39 : decode cX6_cross 39 = .ok (.ifCond .eq 7, 3) := by decide +kernel
theorem dX6_cross_42 : decode cX6_cross 42 = .ok (.iconst 1, 1) := by decide +kernel
theorem dX6_cross_43 : decode cX6_cross 43 = .ok (.goto 4, 3) := by decide +kernel
theorem dX6_cross_46 : decode cX6_cross 46 = .ok (.iconst 0, 1) := by decide +kernel
theorem dX6_cross_47 : decode cX6_cross 47 = .ok (.ireturn, 1) := by decide +kernel
set_option maxRecDepth 20000 in
theorem ggX6_count_X3_ownedDots : GoodIn wsX6_count wsX3_ownedDots := goodIn_r _ [14, 15, 16, 17, 18, 13, 19, 20, 21, 22, 23, 24, 25, 26, 27, 48, 49, 50, 51, 52, 53, 54] (by decide +kernel) (by decide +kernel)
set_option maxRecDepth 20000 in
theorem gX6_count_X3_ownedDots : GoodIn wsX6_count (wsV RX6 239 RX3 yX3_ownedDots wsX3_ownedDots) := goodIn_app (goodIn_of _ (by decide +kernel)) ggX6_count_X3_ownedDots
theorem dX6_count_0 : decode cX6_count 0 = .ok (.iload_n 1, 1) := by decide +kernel
theorem dX6_count_1 : decode cX6_count 1 = .ok (.tableswitch 90 0 6 #[43, 51, 59, 67, 75, 80, 85], 43) := by decide +kernel
theorem dX6_count_44 : decode cX6_count 44 = .ok (.aload_n 0, 1) := by decide +kernel
theorem dX6_count_45 : decode cX6_count 45 = .ok (.getfield 19, 3) := by decide +kernel
theorem dX6_count_48 : decode cX6_count 48 = .ok (.getfield 85, 3) := by decide +kernel
theorem dX6_count_51 : decode cX6_count 51 = .ok (.ireturn, 1) := by decide +kernel
theorem dX6_count_52 : decode cX6_count 52 = .ok (.aload_n 0, 1) := by decide +kernel
theorem dX6_count_53 : decode cX6_count 53 = .ok (.getfield 53, 3) := by decide +kernel
theorem dX6_count_56 : decode cX6_count 56 = .ok (.getfield 220, 3) := by decide +kernel
theorem dX6_count_59 : decode cX6_count 59 = .ok (.ireturn, 1) := by decide +kernel
theorem dX6_count_60 : decode cX6_count 60 = .ok (.aload_n 0, 1) := by decide +kernel
theorem dX6_count_61 : decode cX6_count 61 = .ok (.getfield 53, 3) := by decide +kernel
theorem dX6_count_64 : decode cX6_count 64 = .ok (.invokevirtual 239, 3) := by decide +kernel
theorem dX6_count_67 : decode cX6_count 67 = .ok (.ireturn, 1) := by decide +kernel
theorem dX6_count_68 : decode cX6_count 68 = .ok (.aload_n 0, 1) := by decide +kernel
theorem dX6_count_69 : decode cX6_count 69 = .ok (.getfield 10, 3) := by decide +kernel
theorem dX6_count_72 : decode cX6_count 72 = .ok (.getfield 57, 3) := by decide +kernel
theorem dX6_count_75 : decode cX6_count 75 = .ok (.ireturn, 1) := by decide +kernel
theorem dX6_count_76 : decode cX6_count 76 = .ok (.aload_n 0, 1) := by decide +kernel
theorem dX6_count_77 : decode cX6_count 77 = .ok (.getfield 79, 3) := by decide +kernel
theorem dX6_count_80 : decode cX6_count 80 = .ok (.ireturn, 1) := by decide +kernel
theorem dX6_count_81 : decode cX6_count 81 = .ok (.aload_n 0, 1) := by decide +kernel
theorem dX6_count_82 : decode cX6_count 82 = .ok (.getfield 217, 3) := by decide +kernel
theorem dX6_count_85 : decode cX6_count 85 = .ok (.ireturn, 1) := by decide +kernel
theorem dX6_count_86 : decode cX6_count 86 = .ok (.aload_n 0, 1) := by decide +kernel
theorem dX6_count_87 : decode cX6_count 87 = .ok (.getfield 228, 3) := by decide +kernel
theorem dX6_count_90 : decode cX6_count 90 = .ok (.ireturn, 1) := by decide +kernel
theorem dX6_count_91 : decode cX6_count 91 = .ok (.bipush (-102), 2) := by decide +kernel
theorem dX6_count_93 : decode cX6_count 93 = .ok (.ireturn, 1) := by decide +kernel
set_option maxRecDepth 20000 in
theorem ggX6_digest_X0_isThere : GoodIn wsX6_digest wsX0_isThere := goodIn_r _ [12, 13, 275, 276, 277, 278, 279, 280, 281, 282, 283, 284, 285] (by decide +kernel) (by decide +kernel)
set_option maxRecDepth 20000 in
theorem gX6_digest_X0_isThere : GoodIn wsX6_digest (wsV RX6 88 RX0 yX0_isThere wsX0_isThere) := goodIn_app (goodIn_of _ (by decide +kernel)) ggX6_digest_X0_isThere
set_option maxRecDepth 20000 in
theorem ggX6_digest_X5_refresh : GoodIn wsX6_digest wsX5_refresh := goodIn_r _ [18, 19, 20, 21, 22, 23, 24, 25, 26, 27, 28, 17, 29, 30, 31, 32, 33, 34, 35, 36, 37, 38, 39, 40, 41, 42, 43, 44, 45, 46, 47, 48, 49, 50, 51, 52, 53, 54, 55, 56, 57, 58, 59, 60, 61, 62, 63, 64, 65, 66, 67, 68, 69, 70, 71, 72, 73, 74, 75, 76, 77, 11, 78, 13, 79, 80, 81, 82, 83, 84, 85, 86, 87, 88, 89, 90, 91, 92, 93, 94, 95, 96, 97, 98, 99, 100, 101, 102, 103, 104, 105, 106, 107, 108, 109, 110, 111, 112, 113, 114, 115, 116, 117, 118, 119, 120, 121, 122, 123, 124, 125, 126, 127, 128, 129, 130, 131, 132, 133, 134, 135, 136, 137, 138, 139, 140, 141, 142, 143, 144, 145, 146, 147, 148, 286, 287, 288, 289, 290, 291, 292, 293, 294, 295, 275, 276, 277, 278, 279, 280, 281, 282, 283, 284, 285, 296, 297, 298, 299, 300, 301, 302, 303, 304, 305, 306] (by decide +kernel) (by decide +kernel)
set_option maxRecDepth 20000 in
theorem gX6_digest_X5_refresh : GoodIn wsX6_digest (wsV RX6 198 RX5 yX5_refresh wsX5_refresh) := goodIn_app (goodIn_of _ (by decide +kernel)) ggX6_digest_X5_refresh
set_option maxRecDepth 20000 in
theorem ggX6_digest_X6_withDots : GoodIn wsX6_digest wsX6_withDots := goodIn_r _ [152, 6, 2, 153, 154, 155, 156, 100, 157, 158, 159, 160, 161, 162, 163, 164, 8, 9, 10, 11, 12, 13, 165, 166, 167, 168, 169, 170, 171, 172, 173, 174, 175, 176, 177, 178, 179, 180, 181, 182, 183, 184, 259, 260, 261, 262, 263, 264, 265, 266, 267, 275, 276, 277, 278, 279, 280, 281, 282, 283, 284, 285, 307, 308, 309, 310, 311, 312, 313] (by decide +kernel) (by decide +kernel)
set_option maxRecDepth 20000 in
theorem gX6_digest_X6_withDots : GoodIn wsX6_digest (wsV RX6 244 RX6 yX6_withDots wsX6_withDots) := goodIn_app (goodIn_of _ (by decide +kernel)) ggX6_digest_X6_withDots
set_option maxRecDepth 20000 in
theorem ggX6_digest_X6_withSpots : GoodIn wsX6_digest wsX6_withSpots := goodIn_r _ [188, 6, 3, 189, 190, 191, 192, 17, 193, 23, 21, 30, 194, 195, 196, 197, 198, 199, 200, 201, 22, 202, 203, 204, 205, 25, 24, 109, 110, 111, 112, 121, 100, 122, 123, 124, 125, 126, 206, 207, 208, 209, 210, 211, 212, 113, 114, 115, 116, 117, 118, 119, 120, 213, 214, 215, 216, 131, 132, 217, 218, 219, 220, 146, 147, 221, 259, 260, 261, 262, 263, 264, 265, 266, 267, 286, 287, 288, 289, 290, 291, 292, 293, 294, 295, 303, 304, 305, 306, 275, 276, 277, 278, 279, 280, 281, 282, 283, 284, 285] (by decide +kernel) (by decide +kernel)
set_option maxRecDepth 20000 in
theorem gX6_digest_X6_withSpots : GoodIn wsX6_digest (wsV RX6 248 RX6 yX6_withSpots wsX6_withSpots) := goodIn_app (goodIn_of _ (by decide +kernel)) ggX6_digest_X6_withSpots
set_option maxRecDepth 20000 in
theorem ggX6_digest_X6_withRings : GoodIn wsX6_digest wsX6_withRings := goodIn_r _ [225, 172, 226, 6, 227, 228, 229, 181, 230, 231, 184, 121, 100, 122, 123, 124, 125, 126, 232, 233, 234, 235, 236, 207, 208, 209, 210, 211, 212, 237, 238, 239, 240, 241, 242, 114, 115, 116, 117, 118, 119, 120, 243, 214, 215, 216, 131, 132, 217, 218, 219, 220, 146, 147, 221, 244, 245, 246, 247, 259, 260, 261, 262, 263, 264, 265, 266, 267, 307, 308, 309, 310, 311, 312, 313, 303, 304, 305, 306, 275, 276, 277, 278, 279, 280, 281, 282, 283, 284, 285] (by decide +kernel) (by decide +kernel)
set_option maxRecDepth 20000 in
theorem gX6_digest_X6_withRings : GoodIn wsX6_digest (wsV RX6 251 RX6 yX6_withRings wsX6_withRings) := goodIn_app (goodIn_of _ (by decide +kernel)) ggX6_digest_X6_withRings
set_option maxRecDepth 20000 in
theorem ggX6_digest_X6_count : GoodIn wsX6_digest wsX6_count := goodIn_r _ [251, 2, 153, 172, 226, 4, 5, 252, 253, 254, 255, 256, 257, 181, 258, 183, 232, 233, 234, 235, 184, 236, 207, 208, 209, 210, 211, 212, 259, 260, 261, 262, 263, 264, 265, 266, 267, 275, 276, 277, 278, 279, 280, 281, 282, 283, 284, 285, 307, 308, 309, 310, 311, 312, 313, 268, 269, 270, 271, 272, 273, 274] (by decide +kernel) (by decide +kernel)
set_option maxRecDepth 20000 in
theorem gX6_digest_X6_count : GoodIn wsX6_digest (wsV RX6 259 RX6 yX6_count wsX6_count) := goodIn_app (goodIn_of _ (by decide +kernel)) ggX6_digest_X6_count
theorem dX6_digest_0 : decode cX6_digest 0 = .ok (.ldc2_w 242, 3) := by decide +kernel
theorem dX6_digest_3 : decode cX6_digest 3 = .ok (.lstore_n 1, 1) := by decide +kernel
theorem dX6_digest_4 : decode cX6_digest 4 = .ok (.aload_n 0, 1) := by decide +kernel
theorem dX6_digest_5 : decode cX6_digest 5 = .ok (.getfield 19, 3) := by decide +kernel
theorem dX6_digest_8 : decode cX6_digest 8 = .ok (.invokevirtual 88, 3) := by decide +kernel
theorem dX6_digest_11 : decode cX6_digest 11 = .ok (.ifCond .eq 28, 3) := by decide +kernel
theorem dX6_digest_14 : decode cX6_digest 14 = .ok (.aload_n 0, 1) := by decide +kernel
theorem dX6_digest_15 : decode cX6_digest 15 = .ok (.getfield 44, 3) := by decide +kernel
theorem dX6_digest_18 : decode cX6_digest 18 = .ok (.invokevirtual 198, 3) := by decide +kernel
theorem dX6_digest_21 : decode cX6_digest 21 = .ok (.aload_n 0, 1) := by decide +kernel
theorem dX6_digest_22 : decode cX6_digest 22 = .ok (.lload_n 1, 1) := by decide +kernel
theorem dX6_digest_23 : decode cX6_digest 23 = .ok (.invokevirtual 244, 3) := by decide +kernel
theorem dX6_digest_26 : decode cX6_digest 26 = .ok (.lstore_n 1, 1) := by decide +kernel
theorem dX6_digest_27 : decode cX6_digest 27 = .ok (.aload_n 0, 1) := by decide +kernel
theorem dX6_digest_28 : decode cX6_digest 28 = .ok (.lload_n 1, 1) := by decide +kernel
theorem dX6_digest_29 : decode cX6_digest 29 = .ok (.invokevirtual 248, 3) := by decide +kernel
theorem dX6_digest_32 : decode cX6_digest 32 = .ok (.lstore_n 1, 1) := by decide +kernel
theorem dX6_digest_33 : decode cX6_digest 33 = .ok (.aload_n 0, 1) := by decide +kernel
theorem dX6_digest_34 : decode cX6_digest 34 = .ok (.lload_n 1, 1) := by decide +kernel
theorem dX6_digest_35 : decode cX6_digest 35 = .ok (.invokevirtual 251, 3) := by decide +kernel
theorem dX6_digest_38 : decode cX6_digest 38 = .ok (.lstore_n 1, 1) := by decide +kernel
theorem dX6_digest_39 : decode cX6_digest 39 = .ok (.iconst 0, 1) := by decide +kernel
theorem dX6_digest_40 : decode cX6_digest 40 = .ok (.istore_n 3, 1) := by decide +kernel
theorem dX6_digest_41 : decode cX6_digest 41 = .ok (.iload_n 3, 1) := by decide +kernel
theorem dX6_digest_42 : decode cX6_digest 42 = .ok (.aload_n 0, 1) := by decide +kernel
theorem dX6_digest_43 : decode cX6_digest 43 = .ok (.getfield 10, 3) := by decide +kernel
theorem dX6_digest_46 : decode cX6_digest 46 = .ok (.getfield 57, 3) := by decide +kernel
theorem dX6_digest_49 : decode cX6_digest 49 = .ok (.if_icmp .ge 26, 3) := by decide +kernel
theorem dX6_digest_52 : decode cX6_digest 52 = .ok (.ldc2_w 254, 3) := by decide +kernel
theorem dX6_digest_55 : decode cX6_digest 55 = .ok (.lload_n 1, 1) := by decide +kernel
theorem dX6_digest_56 : decode cX6_digest 56 = .ok (.lmul, 1) := by decide +kernel
theorem dX6_digest_57 : decode cX6_digest 57 = .ok (.aload_n 0, 1) := by decide +kernel
theorem dX6_digest_58 : decode cX6_digest 58 = .ok (.getfield 10, 3) := by decide +kernel
theorem dX6_digest_61 : decode cX6_digest 61 = .ok (.getfield 256, 3) := by decide +kernel
theorem dX6_digest_64 : decode cX6_digest 64 = .ok (.iload_n 3, 1) := by decide +kernel
theorem dX6_digest_65 : decode cX6_digest 65 = .ok (.iaload, 1) := by decide +kernel
theorem dX6_digest_66 : decode cX6_digest 66 = .ok (.i2l, 1) := by decide +kernel
theorem dX6_digest_67 : decode cX6_digest 67 = .ok (.ladd, 1) := by decide +kernel
theorem dX6_digest_68 : decode cX6_digest 68 = .ok (.lstore_n 1, 1) := by decide +kernel
theorem dX6_digest_69 : decode cX6_digest 69 = .ok (.iinc 3 1, 3) := by decide +kernel
theorem dX6_digest_72 : decode cX6_digest 72 = .ok (.goto (-31), 3) := by decide +kernel
theorem dX6_digest_75 : decode cX6_digest 75 = .ok (.iconst 0, 1) := by decide +kernel
theorem dX6_digest_76 : decode cX6_digest 76 = .ok (.istore_n 3, 1) := by decide +kernel
theorem dX6_digest_77 : decode cX6_digest 77 = .ok (.iload_n 3, 1) := by decide +kernel
theorem dX6_digest_78 : decode cX6_digest 78 = .ok (.bipush 6, 2) := by decide +kernel
theorem dX6_digest_80 : decode cX6_digest 80 = .ok (.if_icmp .gt 22, 3) := by decide +kernel
theorem dX6_digest_83 : decode cX6_digest 83 = .ok (.ldc2_w 254, 3) := by decide +kernel
theorem dX6_digest_86 : decode cX6_digest 86 = .ok (.lload_n 1, 1) := by decide +kernel
theorem dX6_digest_87 : decode cX6_digest 87 = .ok (.lmul, 1) := by decide +kernel
theorem dX6_digest_88 : decode cX6_digest 88 = .ok (.aload_n 0, 1) := by decide +kernel
theorem dX6_digest_89 : decode cX6_digest 89 = .ok (.iload_n 3, 1) := by decide +kernel
theorem dX6_digest_90 : decode cX6_digest 90 = .ok (.invokevirtual 259, 3) := by decide +kernel
theorem dX6_digest_93 : decode cX6_digest 93 = .ok (.i2l, 1) := by decide +kernel
theorem dX6_digest_94 : decode cX6_digest 94 = .ok (.ladd, 1) := by decide +kernel
theorem dX6_digest_95 : decode cX6_digest 95 = .ok (.lstore_n 1, 1) := by decide +kernel
theorem dX6_digest_96 : decode cX6_digest 96 = .ok (.iinc 3 1, 3) := by decide +kernel
theorem dX6_digest_99 : decode cX6_digest 99 = .ok (.goto (-22), 3) := by decide +kernel
theorem dX6_digest_102 : decode cX6_digest 102 = .ok (.lload_n 1, 1) := by decide +kernel
theorem dX6_digest_103 : decode cX6_digest 103 = .ok (.lreturn, 1) := by decide +kernel
set_option maxRecDepth 20000 in
theorem ggX6_withDots_X6_about : GoodIn wsX6_withDots wsX6_about := goodIn_r _ [8, 2, 9, 10, 3, 11, 12, 13, 14, 15, 16, 17, 18, 19, 20, 21, 42, 43, 44, 45, 46, 47, 48, 49, 50, 51, 52, 53, 54, 55, 56, 57, 58, 59, 60, 61] (by decide +kernel) (by decide +kernel)
set_option maxRecDepth 20000 in
theorem gX6_withDots_X6_about : GoodIn wsX6_withDots (wsV RX6 169 RX6 yX6_about wsX6_about) := goodIn_app (goodIn_of _ (by decide +kernel)) ggX6_withDots_X6_about
set_option maxRecDepth 20000 in
theorem ggX6_withDots_X6_told : GoodIn wsX6_withDots wsX6_told := goodIn_r _ [25, 2, 26, 27, 28, 29, 30, 31, 32, 19, 33, 34, 35, 36, 37, 38, 39, 40, 41, 42, 43, 44, 45, 46, 47, 48, 49, 50, 51, 52, 53, 54, 55, 56, 57, 58, 59, 60, 61, 62, 63, 64, 65, 66, 67, 68] (by decide +kernel) (by decide +kernel)
set_option maxRecDepth 20000 in
theorem gX6_withDots_X6_told : GoodIn wsX6_withDots (wsV RX6 262 RX6 yX6_told wsX6_told) := goodIn_app (goodIn_of _ (by decide +kernel)) ggX6_withDots_X6_told
theorem dX6_withDots_0 : decode cX6_withDots 0 = .ok (.lload_n 1, 1) := by decide +kernel
theorem dX6_withDots_1 : decode cX6_withDots 1 = .ok (.lstore_n 3, 1) := by decide +kernel
theorem dX6_withDots_2 : decode cX6_withDots 2 = .ok (.iconst 0, 1) := by decide +kernel
theorem dX6_withDots_3 : decode cX6_withDots 3 = .ok (.istore 5, 2) := by decide +kernel
theorem dX6_withDots_5 : decode cX6_withDots 5 = .ok (.iload 5, 2) := by decide +kernel
theorem dX6_withDots_7 : decode cX6_withDots 7 = .ok (.bipush 7, 2) := by decide +kernel
theorem dX6_withDots_9 : decode cX6_withDots 9 = .ok (.if_icmp .gt 23, 3) := by decide +kernel
theorem dX6_withDots_12 : decode cX6_withDots 12 = .ok (.ldc2_w 254, 3) := by decide +kernel
theorem dX6_withDots_15 : decode cX6_withDots 15 = .ok (.lload_n 3, 1) := by decide +kernel
theorem dX6_withDots_16 : decode cX6_withDots 16 = .ok (.lmul, 1) := by decide +kernel
theorem dX6_withDots_17 : decode cX6_withDots 17 = .ok (.aload_n 0, 1) := by decide +kernel
theorem dX6_withDots_18 : decode cX6_withDots 18 = .ok (.iload 5, 2) := by decide +kernel
theorem dX6_withDots_20 : decode cX6_withDots 20 = .ok (.invokevirtual 169, 3) := by decide +kernel
theorem dX6_withDots_23 : decode cX6_withDots 23 = .ok (.i2l, 1) := by decide +kernel
theorem dX6_withDots_24 : decode cX6_withDots 24 = .ok (.ladd, 1) := by decide +kernel
theorem dX6_withDots_25 : decode cX6_withDots 25 = .ok (.lstore_n 3, 1) := by decide +kernel
theorem dX6_withDots_26 : decode cX6_withDots 26 = .ok (.iinc 5 1, 3) := by decide +kernel
theorem dX6_withDots_29 : decode cX6_withDots 29 = .ok (.goto (-24), 3) := by decide +kernel
theorem dX6_withDots_32 : decode cX6_withDots 32 = .ok (.iconst 0, 1) := by decide +kernel
theorem dX6_withDots_33 : decode cX6_withDots 33 = .ok (.istore 5, 2) := by decide +kernel
theorem dX6_withDots_35 : decode cX6_withDots 35 = .ok (.iload 5, 2) := by decide +kernel
theorem dX6_withDots_37 : decode cX6_withDots 37 = .ok (.aload_n 0, 1) := by decide +kernel
theorem dX6_withDots_38 : decode cX6_withDots 38 = .ok (.getfield 19, 3) := by decide +kernel
theorem dX6_withDots_41 : decode cX6_withDots 41 = .ok (.getfield 85, 3) := by decide +kernel
theorem dX6_withDots_44 : decode cX6_withDots 44 = .ok (.if_icmp .ge 40, 3) := by decide +kernel
theorem dX6_withDots_47 : decode cX6_withDots 47 = .ok (.iconst 0, 1) := by decide +kernel
theorem dX6_withDots_48 : decode cX6_withDots 48 = .ok (.istore 6, 2) := by decide +kernel
theorem dX6_withDots_50 : decode cX6_withDots 50 = .ok (.iload 6, 2) := by decide +kernel
theorem dX6_withDots_52 : decode cX6_withDots 52 = .ok (.iconst 3, 1) := by decide +kernel
theorem dX6_withDots_53 : decode cX6_withDots 53 = .ok (.if_icmp .gt 25, 3) := by decide +kernel
theorem dX6_withDots_56 : decode cX6_withDots 56 = .ok (.ldc2_w 254, 3) := by decide +kernel
theorem dX6_withDots_59 : decode cX6_withDots 59 = .ok (.lload_n 3, 1) := by decide +kernel
theorem dX6_withDots_60 : decode cX6_withDots 60 = .ok (.lmul, 1) := by decide +kernel
theorem dX6_withDots_61 : decode cX6_withDots 61 = .ok (.aload_n 0, 1) := by decide +kernel
theorem dX6_withDots_62 : decode cX6_withDots 62 = .ok (.iload 5, 2) := by decide +kernel
theorem dX6_withDots_64 : decode cX6_withDots 64 = .ok (.iload 6, 2) := by decide +kernel
theorem dX6_withDots_66 : decode cX6_withDots 66 = .ok (.invokevirtual 262, 3) := by decide +kernel
theorem dX6_withDots_69 : decode cX6_withDots 69 = .ok (.i2l, 1) := by decide +kernel
theorem dX6_withDots_70 : decode cX6_withDots 70 = .ok (.ladd, 1) := by decide +kernel
theorem dX6_withDots_71 : decode cX6_withDots 71 = .ok (.lstore_n 3, 1) := by decide +kernel
theorem dX6_withDots_72 : decode cX6_withDots 72 = .ok (.iinc 6 1, 3) := by decide +kernel
theorem dX6_withDots_75 : decode cX6_withDots 75 = .ok (.goto (-25), 3) := by decide +kernel
theorem dX6_withDots_78 : decode cX6_withDots 78 = .ok (.iinc 5 1, 3) := by decide +kernel
theorem dX6_withDots_81 : decode cX6_withDots 81 = .ok (.goto (-46), 3) := by decide +kernel
theorem dX6_withDots_84 : decode cX6_withDots 84 = .ok (.lload_n 3, 1) := by decide +kernel
theorem dX6_withDots_85 : decode cX6_withDots 85 = .ok (.lreturn, 1) := by decide +kernel
set_option maxRecDepth 20000 in
theorem ggX6_withSpots_X5_total : GoodIn wsX6_withSpots wsX5_total := goodIn_r _ [8, 9, 10, 11, 12, 13, 14, 7, 15, 16, 17, 18, 19, 20, 75, 76, 77, 78, 79, 80, 81, 82, 83, 84] (by decide +kernel) (by decide +kernel)
set_option maxRecDepth 20000 in
theorem gX6_withSpots_X5_total : GoodIn wsX6_withSpots (wsV RX6 211 RX5 yX5_total wsX5_total) := goodIn_app (goodIn_of _ (by decide +kernel)) ggX6_withSpots_X5_total
set_option maxRecDepth 20000 in
theorem ggX6_withSpots_X5_tell : GoodIn wsX6_withSpots wsX5_tell := goodIn_r _ [24, 25, 26, 27, 28, 29, 7, 30, 20, 31, 32, 33, 34, 35, 36, 37, 16, 17, 18, 19, 38, 39, 40, 41, 42, 43, 44, 45, 46, 47, 48, 49, 50, 51, 52, 53, 54, 55, 56, 57, 58, 59, 60, 61, 62, 63, 64, 65, 75, 76, 77, 78, 79, 80, 81, 82, 83, 84, 85, 86, 87, 88, 89, 90, 91, 92, 93, 94, 95, 96, 97, 98, 99] (by decide +kernel) (by decide +kernel)
set_option maxRecDepth 20000 in
theorem gX6_withSpots_X5_tell : GoodIn wsX6_withSpots (wsV RX6 208 RX5 yX5_tell wsX5_tell) := goodIn_app (goodIn_of _ (by decide +kernel)) ggX6_withSpots_X5_tell
theorem dX6_withSpots_0 : decode cX6_withSpots 0 = .ok (.lload_n 1, 1) := by decide +kernel
theorem dX6_withSpots_1 : decode cX6_withSpots 1 = .ok (.lstore_n 3, 1) := by decide +kernel
theorem dX6_withSpots_2 : decode cX6_withSpots 2 = .ok (.iconst 0, 1) := by decide +kernel
theorem dX6_withSpots_3 : decode cX6_withSpots 3 = .ok (.istore 5, 2) := by decide +kernel
theorem dX6_withSpots_5 : decode cX6_withSpots 5 = .ok (.iload 5, 2) := by decide +kernel
theorem dX6_withSpots_7 : decode cX6_withSpots 7 = .ok (.iconst 3, 1) := by decide +kernel
theorem dX6_withSpots_8 : decode cX6_withSpots 8 = .ok (.if_icmp .gt 26, 3) := by decide +kernel
theorem dX6_withSpots_11 : decode cX6_withSpots 11 = .ok (.ldc2_w 254, 3) := by decide +kernel
theorem dX6_withSpots_14 : decode cX6_withSpots 14 = .ok (.lload_n 3, 1) := by decide +kernel
theorem dX6_withSpots_15 : decode cX6_withSpots 15 = .ok (.lmul, 1) := by decide +kernel
theorem dX6_withSpots_16 : decode cX6_withSpots 16 = .ok (.aload_n 0, 1) := by decide +kernel
theorem dX6_withSpots_17 : decode cX6_withSpots 17 = .ok (.getfield 44, 3) := by decide +kernel
theorem dX6_withSpots_20 : decode cX6_withSpots 20 = .ok (.iload 5, 2) := by decide +kernel
theorem dX6_withSpots_22 : decode cX6_withSpots 22 = .ok (.invokevirtual 211, 3) := by decide +kernel
theorem dX6_withSpots_25 : decode cX6_withSpots 25 = .ok (.i2l, 1) := by decide +kernel
theorem dX6_withSpots_26 : decode cX6_withSpots 26 = .ok (.ladd, 1) := by decide +kernel
theorem dX6_withSpots_27 : decode cX6_withSpots 27 = .ok (.lstore_n 3, 1) := by decide +kernel
theorem dX6_withSpots_28 : decode cX6_withSpots 28 = .ok (.iinc 5 1, 3) := by decide +kernel
theorem dX6_withSpots_31 : decode cX6_withSpots 31 = .ok (.goto (-26), 3) := by decide +kernel
theorem dX6_withSpots_34 : decode cX6_withSpots 34 = .ok (.iconst 0, 1) := by decide +kernel
theorem dX6_withSpots_35 : decode cX6_withSpots 35 = .ok (.istore 5, 2) := by decide +kernel
theorem dX6_withSpots_37 : decode cX6_withSpots 37 = .ok (.iload 5, 2) := by decide +kernel
theorem dX6_withSpots_39 : decode cX6_withSpots 39 = .ok (.aload_n 0, 1) := by decide +kernel
theorem dX6_withSpots_40 : decode cX6_withSpots 40 = .ok (.getfield 44, 3) := by decide +kernel
theorem dX6_withSpots_43 : decode cX6_withSpots 43 = .ok (.getfield 205, 3) := by decide +kernel
theorem dX6_withSpots_46 : decode cX6_withSpots 46 = .ok (.if_icmp .ge 44, 3) := by decide +kernel
theorem dX6_withSpots_49 : decode cX6_withSpots 49 = .ok (.iconst 0, 1) := by decide +kernel
theorem dX6_withSpots_50 : decode cX6_withSpots 50 = .ok (.istore 6, 2) := by decide +kernel
theorem dX6_withSpots_52 : decode cX6_withSpots 52 = .ok (.iload 6, 2) := by decide +kernel
theorem dX6_withSpots_54 : decode cX6_withSpots 54 = .ok (.bipush 6, 2) := by decide +kernel
theorem dX6_withSpots_56 : decode cX6_withSpots 56 = .ok (.if_icmp .gt 28, 3) := by decide +kernel
theorem dX6_withSpots_59 : decode cX6_withSpots 59 = .ok (.ldc2_w 254, 3) := by decide +kernel
theorem dX6_withSpots_62 : decode cX6_withSpots 62 = .ok (.lload_n 3, 1) := by decide +kernel
theorem dX6_withSpots_63 : decode cX6_withSpots 63 = .ok (.lmul, 1) := by decide +kernel
theorem dX6_withSpots_64 : decode cX6_withSpots 64 = .ok (.aload_n 0, 1) := by decide +kernel
theorem dX6_withSpots_65 : decode cX6_withSpots 65 = .ok (.getfield 44, 3) := by decide +kernel
theorem dX6_withSpots_68 : decode cX6_withSpots 68 = .ok (.iload 5, 2) := by decide +kernel
theorem dX6_withSpots_70 : decode cX6_withSpots 70 = .ok (.iload 6, 2) := by decide +kernel
theorem dX6_withSpots_72 : decode cX6_withSpots 72 = .ok (.invokevirtual 208, 3) := by decide +kernel
theorem dX6_withSpots_75 : decode cX6_withSpots 75 = .ok (.i2l, 1) := by decide +kernel
theorem dX6_withSpots_76 : decode cX6_withSpots 76 = .ok (.ladd, 1) := by decide +kernel
theorem dX6_withSpots_77 : decode cX6_withSpots 77 = .ok (.lstore_n 3, 1) := by decide +kernel
theorem dX6_withSpots_78 : decode cX6_withSpots 78 = .ok (.iinc 6 1, 3) := by decide +kernel
theorem dX6_withSpots_81 : decode cX6_withSpots 81 = .ok (.goto (-29), 3) := by decide +kernel
theorem dX6_withSpots_84 : decode cX6_withSpots 84 = .ok (.iinc 5 1, 3) := by decide +kernel
theorem dX6_withSpots_87 : decode cX6_withSpots 87 = .ok (.goto (-50), 3) := by decide +kernel
theorem dX6_withSpots_90 : decode cX6_withSpots 90 = .ok (.lload_n 3, 1) := by decide +kernel
theorem dX6_withSpots_91 : decode cX6_withSpots 91 = .ok (.lreturn, 1) := by decide +kernel
set_option maxRecDepth 20000 in
theorem ggX6_withRings_X3_tell : GoodIn wsX6_withRings wsX3_tell := goodIn_r _ [8, 9, 10, 11, 12, 13, 14, 15, 16, 17, 18, 19, 20, 7, 21, 22, 23, 24, 25, 26, 27, 28, 29, 30, 31, 32, 33, 34, 35, 36, 37, 38, 39, 40, 41, 42, 43, 44, 45, 46, 47, 48, 49, 50, 51, 52, 53, 54, 55, 56, 57, 58, 68, 69, 70, 71, 72, 73, 74, 75, 76, 77, 78, 79, 80, 81, 82, 83, 84, 85, 86, 87, 88, 89] (by decide +kernel) (by decide +kernel)
set_option maxRecDepth 20000 in
theorem gX6_withRings_X3_tell : GoodIn wsX6_withRings (wsV RX6 232 RX3 yX3_tell wsX3_tell) := goodIn_app (goodIn_of _ (by decide +kernel)) ggX6_withRings_X3_tell
theorem dX6_withRings_0 : decode cX6_withRings 0 = .ok (.lload_n 1, 1) := by decide +kernel
theorem dX6_withRings_1 : decode cX6_withRings 1 = .ok (.lstore_n 3, 1) := by decide +kernel
theorem dX6_withRings_2 : decode cX6_withRings 2 = .ok (.iconst 0, 1) := by decide +kernel
theorem dX6_withRings_3 : decode cX6_withRings 3 = .ok (.istore 5, 2) := by decide +kernel
theorem dX6_withRings_5 : decode cX6_withRings 5 = .ok (.iload 5, 2) := by decide +kernel
theorem dX6_withRings_7 : decode cX6_withRings 7 = .ok (.aload_n 0, 1) := by decide +kernel
theorem dX6_withRings_8 : decode cX6_withRings 8 = .ok (.getfield 53, 3) := by decide +kernel
theorem dX6_withRings_11 : decode cX6_withRings 11 = .ok (.getfield 220, 3) := by decide +kernel
theorem dX6_withRings_14 : decode cX6_withRings 14 = .ok (.if_icmp .ge 44, 3) := by decide +kernel
theorem dX6_withRings_17 : decode cX6_withRings 17 = .ok (.iconst 0, 1) := by decide +kernel
theorem dX6_withRings_18 : decode cX6_withRings 18 = .ok (.istore 6, 2) := by decide +kernel
theorem dX6_withRings_20 : decode cX6_withRings 20 = .ok (.iload 6, 2) := by decide +kernel
theorem dX6_withRings_22 : decode cX6_withRings 22 = .ok (.bipush 6, 2) := by decide +kernel
theorem dX6_withRings_24 : decode cX6_withRings 24 = .ok (.if_icmp .gt 28, 3) := by decide +kernel
theorem dX6_withRings_27 : decode cX6_withRings 27 = .ok (.ldc2_w 254, 3) := by decide +kernel
theorem dX6_withRings_30 : decode cX6_withRings 30 = .ok (.lload_n 3, 1) := by decide +kernel
theorem dX6_withRings_31 : decode cX6_withRings 31 = .ok (.lmul, 1) := by decide +kernel
theorem dX6_withRings_32 : decode cX6_withRings 32 = .ok (.aload_n 0, 1) := by decide +kernel
theorem dX6_withRings_33 : decode cX6_withRings 33 = .ok (.getfield 53, 3) := by decide +kernel
theorem dX6_withRings_36 : decode cX6_withRings 36 = .ok (.iload 5, 2) := by decide +kernel
theorem dX6_withRings_38 : decode cX6_withRings 38 = .ok (.iload 6, 2) := by decide +kernel
theorem dX6_withRings_40 : decode cX6_withRings 40 = .ok (.invokevirtual 232, 3) := by decide +kernel
theorem dX6_withRings_43 : decode cX6_withRings 43 = .ok (.i2l, 1) := by decide +kernel
theorem dX6_withRings_44 : decode cX6_withRings 44 = .ok (.ladd, 1) := by decide +kernel
theorem dX6_withRings_45 : decode cX6_withRings 45 = .ok (.lstore_n 3, 1) := by decide +kernel
theorem dX6_withRings_46 : decode cX6_withRings 46 = .ok (.iinc 6 1, 3) := by decide +kernel
theorem dX6_withRings_49 : decode cX6_withRings 49 = .ok (.goto (-29), 3) := by decide +kernel
theorem dX6_withRings_52 : decode cX6_withRings 52 = .ok (.iinc 5 1, 3) := by decide +kernel
theorem dX6_withRings_55 : decode cX6_withRings 55 = .ok (.goto (-50), 3) := by decide +kernel
theorem dX6_withRings_58 : decode cX6_withRings 58 = .ok (.lload_n 3, 1) := by decide +kernel
theorem dX6_withRings_59 : decode cX6_withRings 59 = .ok (.lreturn, 1) := by decide +kernel
set_option maxRecDepth 20000 in
theorem ggX6_comes_X0_add : GoodIn wsX6_comes wsX0_add := goodIn_r _ [6, 7, 8, 9, 10, 11, 12, 13, 5, 14, 15, 16, 17, 18, 19, 20, 45, 46, 47, 48, 49, 50, 51, 52, 53, 54, 55] (by decide +kernel) (by decide +kernel)
set_option maxRecDepth 20000 in
theorem gX6_comes_X0_add : GoodIn wsX6_comes (wsV RX6 265 RX0 yX0_add wsX0_add) := goodIn_app (goodIn_of _ (by decide +kernel)) ggX6_comes_X0_add
set_option maxRecDepth 20000 in
theorem ggX6_comes_X6_forget : GoodIn wsX6_comes wsX6_forget := goodIn_r _ [25, 26, 27, 28, 29, 30, 31, 32, 33, 34, 35, 36, 37, 38, 39, 40, 41, 42, 43, 44, 56, 57, 58, 59, 60, 61, 62, 63, 64, 65, 66, 67, 68, 69, 70, 71, 72] (by decide +kernel) (by decide +kernel)
set_option maxRecDepth 20000 in
theorem gX6_comes_X6_forget : GoodIn wsX6_comes (wsV RX6 82 RX6 yX6_forget wsX6_forget) := goodIn_app (goodIn_of _ (by decide +kernel)) ggX6_comes_X6_forget
theorem dX6_comes_0 : decode cX6_comes 0 = .ok (.aload_n 0, 1) := by decide +kernel
theorem dX6_comes_1 : decode cX6_comes 1 = .ok (.getfield 19, 3) := by decide +kernel
theorem dX6_comes_4 : decode cX6_comes 4 = .ok (.iload_n 1, 1) := by decide +kernel
theorem dX6_comes_5 : decode cX6_comes 5 = .ok (.iload_n 2, 1) := by decide +kernel
theorem dX6_comes_6 : decode cX6_comes 6 = .ok (.iload_n 3, 1) := by decide +kernel
theorem dX6_comes_7 : decode cX6_comes 7 = .ok (.invokevirtual 265, 3) := by decide +kernel
theorem dX6_comes_10 : decode cX6_comes 10 = .ok (.istore 4, 2) := by decide +kernel
theorem dX6_comes_12 : decode cX6_comes 12 = .ok (.iload 4, 2) := by decide +kernel
theorem dX6_comes_14 : decode cX6_comes 14 = .ok (.ifCond .eq 7, 3) := by decide +kernel
theorem dX6_comes_17 : decode cX6_comes 17 = .ok (.aload_n 0, 1) := by decide +kernel
theorem dX6_comes_18 : decode cX6_comes 18 = .ok (.invokevirtual 82, 3) := by decide +kernel
theorem dX6_comes_21 : decode cX6_comes 21 = .ok (.iload 4, 2) := by decide +kernel
theorem dX6_comes_23 : decode cX6_comes 23 = .ok (.ireturn, 1) := by decide +kernel
set_option maxRecDepth 20000 in
theorem ggX6_forget_X3_drop : GoodIn wsX6_forget wsX3_drop := goodIn_r _ [8, 9, 10, 30, 31, 32, 33, 34, 35, 36] (by decide +kernel) (by decide +kernel)
set_option maxRecDepth 20000 in
theorem gX6_forget_X3_drop : GoodIn wsX6_forget (wsV RX6 271 RX3 yX3_drop wsX3_drop) := goodIn_app (goodIn_of _ (by decide +kernel)) ggX6_forget_X3_drop
theorem dX6_forget_0 : decode cX6_forget 0 = .ok (.aload_n 0, 1) := by decide +kernel
theorem dX6_forget_1 : decode cX6_forget 1 = .ok (.getfield 44, 3) := by decide +kernel
theorem dX6_forget_4 : decode cX6_forget 4 = .ok (.iconst 0, 1) := by decide +kernel
theorem dX6_forget_5 : decode cX6_forget 5 = .ok (.putfield 268, 3) := by decide +kernel
theorem dX6_forget_8 : decode cX6_forget 8 = .ok (.aload_n 0, 1) := by decide +kernel
theorem dX6_forget_9 : decode cX6_forget 9 = .ok (.getfield 53, 3) := by decide +kernel
theorem dX6_forget_12 : decode cX6_forget 12 = .ok (.invokevirtual 271, 3) := by decide +kernel
theorem dX6_forget_15 : decode cX6_forget 15 = .ok (.return_, 1) := by decide +kernel
theorem dX6_isBeyond_0 : decode cX6_isBeyond 0 = .ok (.iload_n 0, 1) := by decide +kernel
theorem dX6_isBeyond_1 : decode cX6_isBeyond 1 = .ok (.bipush (-31), 2) := by decide +kernel
theorem dX6_isBeyond_3 : decode cX6_isBeyond 3 = .ok (.if_icmp .lt 9, 3) := by decide +kernel
theorem dX6_isBeyond_6 : decode cX6_isBeyond 6 = .ok (.iload_n 0, 1) := by decide +kernel
theorem dX6_isBeyond_7 : decode cX6_isBeyond 7 = .ok (.bipush 62, 2) := by decide +kernel
theorem dX6_isBeyond_9 : decode cX6_isBeyond 9 = .ok (.if_icmp .le 7, 3) := by decide +kernel
theorem dX6_isBeyond_12 : decode cX6_isBeyond 12 = .ok (.iconst 1, 1) := by decide +kernel
theorem dX6_isBeyond_13 : decode cX6_isBeyond 13 = .ok (.goto 4, 3) := by decide +kernel
theorem dX6_isBeyond_16 : decode cX6_isBeyond 16 = .ok (.iconst 0, 1) := by decide +kernel
theorem dX6_isBeyond_17 : decode cX6_isBeyond 17 = .ok (.ireturn, 1) := by decide +kernel
theorem dX6_slantingSteps_0 : decode cX6_slantingSteps 0 = .ok (.iconst 0, 1) := by decide +kernel
theorem dX6_slantingSteps_1 : decode cX6_slantingSteps 1 = .ok (.istore_n 1, 1) := by decide +kernel
theorem dX6_slantingSteps_2 : decode cX6_slantingSteps 2 = .ok (.iload_n 1, 1) := by decide +kernel
theorem dX6_slantingSteps_3 : decode cX6_slantingSteps 3 = .ok (.iload_n 0, 1) := by decide +kernel
theorem dX6_slantingSteps_4 : decode cX6_slantingSteps 4 = .ok (.if_icmp .ge 24, 3) := by decide +kernel
theorem dX6_slantingSteps_7 : decode cX6_slantingSteps 7 = .ok (.iconst 2, 1) := by decide +kernel
theorem dX6_slantingSteps_8 : decode cX6_slantingSteps 8 = .ok (.iload_n 1, 1) := by decide +kernel
theorem dX6_slantingSteps_9 : decode cX6_slantingSteps 9 = .ok (.iconst 1, 1) := by decide +kernel
theorem dX6_slantingSteps_10 : decode cX6_slantingSteps 10 = .ok (.iadd, 1) := by decide +kernel
theorem dX6_slantingSteps_11 : decode cX6_slantingSteps 11 = .ok (.imul, 1) := by decide +kernel
theorem dX6_slantingSteps_12 : decode cX6_slantingSteps 12 = .ok (.iload_n 1, 1) := by decide +kernel
theorem dX6_slantingSteps_13 : decode cX6_slantingSteps 13 = .ok (.iconst 1, 1) := by decide +kernel
theorem dX6_slantingSteps_14 : decode cX6_slantingSteps 14 = .ok (.iadd, 1) := by decide +kernel
theorem dX6_slantingSteps_15 : decode cX6_slantingSteps 15 = .ok (.imul, 1) := by decide +kernel
theorem dX6_slantingSteps_16 : decode cX6_slantingSteps 16 = .ok (.iload_n 0, 1) := by decide +kernel
theorem dX6_slantingSteps_17 : decode cX6_slantingSteps 17 = .ok (.iload_n 0, 1) := by decide +kernel
theorem dX6_slantingSteps_18 : decode cX6_slantingSteps 18 = .ok (.imul, 1) := by decide +kernel
theorem dX6_slantingSteps_19 : decode cX6_slantingSteps 19 = .ok (.if_icmp .gt 9, 3) := by decide +kernel
theorem dX6_slantingSteps_22 : decode cX6_slantingSteps 22 = .ok (.iinc 1 1, 3) := by decide +kernel
theorem dX6_slantingSteps_25 : decode cX6_slantingSteps 25 = .ok (.goto (-23), 3) := by decide +kernel
theorem dX6_slantingSteps_28 : decode cX6_slantingSteps 28 = .ok (.iload_n 1, 1) := by decide +kernel
theorem dX6_slantingSteps_29 : decode cX6_slantingSteps 29 = .ok (.ireturn, 1) := by decide +kernel
theorem dX6_nextSeed_0 : decode cX6_nextSeed 0 = .ok (.ldc2_w 274, 3) := by decide +kernel
theorem dX6_nextSeed_3 : decode cX6_nextSeed 3 = .ok (.iload_n 0, 1) := by decide +kernel
theorem dX6_nextSeed_4 : decode cX6_nextSeed 4 = .ok (.i2l, 1) := by decide +kernel
theorem dX6_nextSeed_5 : decode cX6_nextSeed 5 = .ok (.lmul, 1) := by decide +kernel
theorem dX6_nextSeed_6 : decode cX6_nextSeed 6 = .ok (.ldc2_w 276, 3) := by decide +kernel
theorem dX6_nextSeed_9 : decode cX6_nextSeed 9 = .ok (.ladd, 1) := by decide +kernel
theorem dX6_nextSeed_10 : decode cX6_nextSeed 10 = .ok (.ldc2_w 278, 3) := by decide +kernel
theorem dX6_nextSeed_13 : decode cX6_nextSeed 13 = .ok (.land, 1) := by decide +kernel
theorem dX6_nextSeed_14 : decode cX6_nextSeed 14 = .ok (.l2i, 1) := by decide +kernel
theorem dX6_nextSeed_15 : decode cX6_nextSeed 15 = .ok (.ireturn, 1) := by decide +kernel
theorem dX6_drawn_0 : decode cX6_drawn 0 = .ok (.iload_n 1, 1) := by decide +kernel
theorem dX6_drawn_1 : decode cX6_drawn 1 = .ok (.iconst 1, 1) := by decide +kernel
theorem dX6_drawn_2 : decode cX6_drawn 2 = .ok (.if_icmp .ge 7, 3) := by decide +kernel
theorem dX6_drawn_5 : decode cX6_drawn 5 = .ok (.iconst 0, 1) := by decide +kernel
theorem dX6_drawn_6 : decode cX6_drawn 6 = .ok (.goto 10, 3) := by decide +kernel
theorem dX6_drawn_9 : decode cX6_drawn 9 = .ok (.iload_n 0, 1) := by decide +kernel
theorem dX6_drawn_10 : decode cX6_drawn 10 = .ok (.ldc_w 280, 3) := by decide +kernel
theorem dX6_drawn_13 : decode cX6_drawn 13 = .ok (.idiv, 1) := by decide +kernel
theorem dX6_drawn_14 : decode cX6_drawn 14 = .ok (.iload_n 1, 1) := by decide +kernel
theorem dX6_drawn_15 : decode cX6_drawn 15 = .ok (.irem, 1) := by decide +kernel
theorem dX6_drawn_16 : decode cX6_drawn 16 = .ok (.ireturn, 1) := by decide +kernel
theorem dX6_keyOf_0 : decode cX6_keyOf 0 = .ok (.iload_n 2, 1) := by decide +kernel
theorem dX6_keyOf_1 : decode cX6_keyOf 1 = .ok (.bipush 10, 2) := by decide +kernel
theorem dX6_keyOf_3 : decode cX6_keyOf 3 = .ok (.ishl, 1) := by decide +kernel
theorem dX6_keyOf_4 : decode cX6_keyOf 4 = .ok (.iload_n 1, 1) := by decide +kernel
theorem dX6_keyOf_5 : decode cX6_keyOf 5 = .ok (.iconst 5, 1) := by decide +kernel
theorem dX6_keyOf_6 : decode cX6_keyOf 6 = .ok (.ishl, 1) := by decide +kernel
theorem dX6_keyOf_7 : decode cX6_keyOf 7 = .ok (.ior, 1) := by decide +kernel
theorem dX6_keyOf_8 : decode cX6_keyOf 8 = .ok (.iload_n 0, 1) := by decide +kernel
theorem dX6_keyOf_9 : decode cX6_keyOf 9 = .ok (.ior, 1) := by decide +kernel
theorem dX6_keyOf_10 : decode cX6_keyOf 10 = .ok (.ireturn, 1) := by decide +kernel
theorem dX6_keyX_0 : decode cX6_keyX 0 = .ok (.iload_n 0, 1) := by decide +kernel
theorem dX6_keyX_1 : decode cX6_keyX 1 = .ok (.bipush 31, 2) := by decide +kernel
theorem dX6_keyX_3 : decode cX6_keyX 3 = .ok (.iand, 1) := by decide +kernel
theorem dX6_keyX_4 : decode cX6_keyX 4 = .ok (.ireturn, 1) := by decide +kernel
theorem dX6_keyY_0 : decode cX6_keyY 0 = .ok (.iload_n 0, 1) := by decide +kernel
theorem dX6_keyY_1 : decode cX6_keyY 1 = .ok (.iconst 5, 1) := by decide +kernel
theorem dX6_keyY_2 : decode cX6_keyY 2 = .ok (.ishr, 1) := by decide +kernel
theorem dX6_keyY_3 : decode cX6_keyY 3 = .ok (.bipush 31, 2) := by decide +kernel
theorem dX6_keyY_5 : decode cX6_keyY 5 = .ok (.iand, 1) := by decide +kernel
theorem dX6_keyY_6 : decode cX6_keyY 6 = .ok (.ireturn, 1) := by decide +kernel
theorem dX6_keyRadius_0 : decode cX6_keyRadius 0 = .ok (.iload_n 0, 1) := by decide +kernel
theorem dX6_keyRadius_1 : decode cX6_keyRadius 1 = .ok (.bipush 10, 2) := by decide +kernel
theorem dX6_keyRadius_3 : decode cX6_keyRadius 3 = .ok (.ishr, 1) := by decide +kernel
theorem dX6_keyRadius_4 : decode cX6_keyRadius 4 = .ok (.bipush 31, 2) := by decide +kernel
theorem dX6_keyRadius_6 : decode cX6_keyRadius 6 = .ok (.iand, 1) := by decide +kernel
theorem dX6_keyRadius_7 : decode cX6_keyRadius 7 = .ok (.ireturn, 1) := by decide +kernel
