theorem dX0_init_0 : decode cX0_init 0 = .ok (.aload_n 0, 1) := by decide +kernel
theorem dX0_init_1 : decode cX0_init 1 = .ok (.invokespecial 3, 3) := by decide +kernel
theorem dX0_init_4 : decode cX0_init 4 = .ok (.aload_n 0, 1) := by decide +kernel
theorem dX0_init_5 : decode cX0_init 5 = .ok (.bipush 14, 2) := by decide +kernel
theorem dX0_init_7 : decode cX0_init 7 = .ok (.newarray .int, 2) := by decide +kernel
theorem dX0_init_9 : decode cX0_init 9 = .ok (.putfield 9, 3) := by decide +kernel
theorem dX0_init_12 : decode cX0_init 12 = .ok (.aload_n 0, 1) := by decide +kernel
theorem dX0_init_13 : decode cX0_init 13 = .ok (.bipush 14, 2) := by decide +kernel
theorem dX0_init_15 : decode cX0_init 15 = .ok (.newarray .int, 2) := by decide +kernel
theorem dX0_init_17 : decode cX0_init 17 = .ok (.putfield 15, 3) := by decide +kernel
theorem dX0_init_20 : decode cX0_init 20 = .ok (.aload_n 0, 1) := by decide +kernel
theorem dX0_init_21 : decode cX0_init 21 = .ok (.bipush 14, 2) := by decide +kernel
theorem dX0_init_23 : decode cX0_init 23 = .ok (.newarray .int, 2) := by decide +kernel
theorem dX0_init_25 : decode cX0_init 25 = .ok (.putfield 18, 3) := by decide +kernel
theorem dX0_init_28 : decode cX0_init 28 = .ok (.return_, 1) := by decide +kernel
theorem dX0_isThere_0 : decode cX0_isThere 0 = .ok (.aload_n 0, 1) := by decide +kernel
theorem dX0_isThere_1 : decode cX0_isThere 1 = .ok (.getfield 21, 3) := by decide +kernel
theorem dX0_isThere_4 : decode cX0_isThere 4 = .ok (.ifCond .le 7, 3) := by decide +kernel
theorem dX0_isThere_7 : decode cX0_isThere 7 = .ok (.iconst 1, 1) := by decide +kernel
theorem dX0_isThere_8 : decode cX0_isThere 8 = .ok (.goto 4, 3) := by decide +kernel
theorem dX0_isThere_11 : decode cX0_isThere 11 = .ok (.iconst 0, 1) := by decide +kernel
theorem dX0_isThere_12 : decode cX0_isThere 12 = .ok (.ireturn, 1) := by decide +kernel
theorem dX0_clear_0 : decode cX0_clear 0 = .ok (.aload_n 0, 1) := by decide +kernel
theorem dX0_clear_1 : decode cX0_clear 1 = .ok (.iconst 0, 1) := by decide +kernel
theorem dX0_clear_2 : decode cX0_clear 2 = .ok (.putfield 21, 3) := by decide +kernel
theorem dX0_clear_5 : decode cX0_clear 5 = .ok (.aload_n 0, 1) := by decide +kernel
theorem dX0_clear_6 : decode cX0_clear 6 = .ok (.iconst 0, 1) := by decide +kernel
theorem dX0_clear_7 : decode cX0_clear 7 = .ok (.putfield 25, 3) := by decide +kernel
theorem dX0_clear_10 : decode cX0_clear 10 = .ok (.aload_n 0, 1) := by decide +kernel
theorem dX0_clear_11 : decode cX0_clear 11 = .ok (.iconst 0, 1) := by decide +kernel
theorem dX0_clear_12 : decode cX0_clear 12 = .ok (.putfield 28, 3) := by decide +kernel
theorem dX0_clear_15 : decode cX0_clear 15 = .ok (.aload_n 0, 1) := by decide +kernel
theorem dX0_clear_16 : decode cX0_clear 16 = .ok (.iconst 2, 1) := by decide +kernel
theorem dX0_clear_17 : decode cX0_clear 17 = .ok (.putfield 31, 3) := by decide +kernel
theorem dX0_clear_20 : decode cX0_clear 20 = .ok (.aload_n 0, 1) := by decide +kernel
theorem dX0_clear_21 : decode cX0_clear 21 = .ok (.bipush 12, 2) := by decide +kernel
theorem dX0_clear_23 : decode cX0_clear 23 = .ok (.putfield 34, 3) := by decide +kernel
theorem dX0_clear_26 : decode cX0_clear 26 = .ok (.aload_n 0, 1) := by decide +kernel
theorem dX0_clear_27 : decode cX0_clear 27 = .ok (.iconst 1, 1) := by decide +kernel
theorem dX0_clear_28 : decode cX0_clear 28 = .ok (.putfield 37, 3) := by decide +kernel
theorem dX0_clear_31 : decode cX0_clear 31 = .ok (.aload_n 0, 1) := by decide +kernel
theorem dX0_clear_32 : decode cX0_clear 32 = .ok (.iconst 4, 1) := by decide +kernel
theorem dX0_clear_33 : decode cX0_clear 33 = .ok (.putfield 40, 3) := by decide +kernel
theorem dX0_clear_36 : decode cX0_clear 36 = .ok (.aload_n 0, 1) := by decide +kernel
theorem dX0_clear_37 : decode cX0_clear 37 = .ok (.iconst 3, 1) := by decide +kernel
theorem dX0_clear_38 : decode cX0_clear 38 = .ok (.putfield 43, 3) := by decide +kernel
theorem dX0_clear_41 : decode cX0_clear 41 = .ok (.return_, 1) := by decide +kernel
set_option maxRecDepth 20000 in
theorem ggX0_become_X0_clear : GoodIn wsX0_become wsX0_clear := goodIn_r _ [11, 1, 2, 3, 12, 13, 14, 15, 16, 29, 30, 31, 32, 33, 34, 35, 36, 37, 38, 39] (by decide +kernel) (by decide +kernel)
set_option maxRecDepth 20000 in
theorem gX0_become_X0_clear : GoodIn wsX0_become (wsV RX0 46 RX0 yX0_clear wsX0_clear) := goodIn_app (goodIn_of _ (by decide +kernel)) ggX0_become_X0_clear
set_option maxRecDepth 20000 in
theorem ggX0_become_X0_add : GoodIn wsX0_become wsX0_add := goodIn_r _ [20, 3, 4, 5, 6, 21, 22, 23, 10, 24, 1, 2, 25, 26, 27, 28, 29, 30, 31, 32, 33, 34, 35, 36, 37, 38, 39] (by decide +kernel) (by decide +kernel)
set_option maxRecDepth 20000 in
theorem gX0_become_X0_add : GoodIn wsX0_become (wsV RX0 49 RX0 yX0_add wsX0_add) := goodIn_app (goodIn_of _ (by decide +kernel)) ggX0_become_X0_add
theorem dX0_become_0 : decode cX0_become 0 = .ok (.aload_n 0, 1) := by decide +kernel
theorem dX0_become_1 : decode cX0_become 1 = .ok (.invokevirtual 46, 3) := by decide +kernel
theorem dX0_become_4 : decode cX0_become 4 = .ok (.aload_n 0, 1) := by decide +kernel
theorem dX0_become_5 : decode cX0_become 5 = .ok (.aload_n 1, 1) := by decide +kernel
theorem dX0_become_6 : decode cX0_become 6 = .ok (.getfield 21, 3) := by decide +kernel
theorem dX0_become_9 : decode cX0_become 9 = .ok (.putfield 21, 3) := by decide +kernel
theorem dX0_become_12 : decode cX0_become 12 = .ok (.aload_n 0, 1) := by decide +kernel
theorem dX0_become_13 : decode cX0_become 13 = .ok (.aload_n 1, 1) := by decide +kernel
theorem dX0_become_14 : decode cX0_become 14 = .ok (.getfield 25, 3) := by decide +kernel
theorem dX0_become_17 : decode cX0_become 17 = .ok (.putfield 25, 3) := by decide +kernel
theorem dX0_become_20 : decode cX0_become 20 = .ok (.iconst 0, 1) := by decide +kernel
theorem dX0_become_21 : decode cX0_become 21 = .ok (.istore_n 2, 1) := by decide +kernel
theorem dX0_become_22 : decode cX0_become 22 = .ok (.iload_n 2, 1) := by decide +kernel
theorem dX0_become_23 : decode cX0_become 23 = .ok (.aload_n 1, 1) := by decide +kernel
theorem dX0_become_24 : decode cX0_become 24 = .ok (.getfield 28, 3) := by decide +kernel
theorem dX0_become_27 : decode cX0_become 27 = .ok (.if_icmp .ge 32, 3) := by decide +kernel
theorem dX0_become_30 : decode cX0_become 30 = .ok (.aload_n 0, 1) := by decide +kernel
theorem dX0_become_31 : decode cX0_become 31 = .ok (.aload_n 1, 1) := by decide +kernel
theorem dX0_become_32 : decode cX0_become 32 = .ok (.getfield 9, 3) := by decide +kernel
theorem dX0_become_35 : decode cX0_become 35 = .ok (.iload_n 2, 1) := by decide +kernel
theorem dX0_become_36 : decode cX0_become 36 = .ok (.iaload, 1) := by decide +kernel
theorem dX0_become_37 : decode cX0_become 37 = .ok (.aload_n 1, 1) := by decide +kernel
theorem dX0_become_38 : decode cX0_become 38 = .ok (.getfield 15, 3) := by decide +kernel
theorem dX0_become_41 : decode cX0_become 41 = .ok (.iload_n 2, 1) := by decide +kernel
theorem dX0_become_42 : decode cX0_become 42 = .ok (.iaload, 1) := by decide +kernel
theorem dX0_become_43 : decode cX0_become 43 = .ok (.aload_n 1, 1) := by decide +kernel
theorem dX0_become_44 : decode cX0_become 44 = .ok (.getfield 18, 3) := by decide +kernel
theorem dX0_become_47 : decode cX0_become 47 = .ok (.iload_n 2, 1) := by decide +kernel
theorem dX0_become_48 : decode cX0_become 48 = .ok (.iaload, 1) := by decide +kernel
theorem dX0_become_49 : decode cX0_become 49 = .ok (.invokevirtual 49, 3) := by decide +kernel
theorem dX0_become_52 : decode cX0_become 52 = .ok (.pop, 1) := by decide +kernel
theorem dX0_become_53 : decode cX0_become 53 = .ok (.iinc 2 1, 3) := by decide +kernel
theorem dX0_become_56 : decode cX0_become 56 = .ok (.goto (-34), 3) := by decide +kernel
theorem dX0_become_59 : decode cX0_become 59 = .ok (.return_, 1) := by decide +kernel
theorem dX0_has_0 : decode cX0_has 0 = .ok (.iload_n 1, 1) := by decide +kernel
theorem dX0_has_1 : decode cX0_has 1 = .ok (.ifCond .lt 15, 3) := by decide +kernel
theorem dX0_has_4 : decode cX0_has 4 = .ok (.iload_n 1, 1) := by decide +kernel
theorem dX0_has_5 : decode cX0_has 5 = .ok (.aload_n 0, 1) := by decide +kernel
theorem dX0_has_6 : decode cX0_has 6 = .ok (.getfield 28, 3) := by decide +kernel
theorem dX0_has_9 : decode cX0_has 9 = .ok (.if_icmp .ge 7, 3) := by decide +kernel
theorem dX0_has_12 : decode cX0_has 12 = .ok (.iconst 1, 1) := by decide +kernel
theorem dX0_has_13 : decode cX0_has 13 = .ok (.goto 4, 3) := by decide +kernel
theorem dX0_has_16 : decode cX0_has 16 = .ok (.iconst 0, 1) := by decide +kernel
theorem dX0_has_17 : decode cX0_has 17 = .ok (.ireturn, 1) := by decide +kernel
theorem dX0_holds_0 : decode cX0_holds 0 = .ok (.iload_n 1, 1) := by decide +kernel
theorem dX0_holds_1 : decode cX0_holds 1 = .ok (.ifCond .lt 27, 3) := by decide +kernel
theorem dX0_holds_4 : decode cX0_holds 4 = .ok (.iload_n 1, 1) := by decide +kernel
theorem dX0_holds_5 : decode cX0_holds 5 = .ok (.aload_n 0, 1) := by decide +kernel
theorem dX0_holds_6 : decode cX0_holds 6 = .ok (.getfield 21, 3) := by decide +kernel
theorem dX0_holds_9 : decode cX0_holds 9 = .ok (.if_icmp .ge 19, 3) := by decide +kernel
theorem dX0_holds_12 : decode cX0_holds 12 = .ok (.iload_n 2, 1) := by decide +kernel
theorem dX0_holds_13 : decode cX0_holds 13 = .ok (.ifCond .lt 15, 3) := by decide +kernel
theorem dX0_holds_16 : decode cX0_holds 16 = .ok (.iload_n 2, 1) := by decide +kernel
theorem dX0_holds_17 : decode cX0_holds 17 = .ok (.aload_n 0, 1) := by decide +kernel
theorem dX0_holds_18 : decode cX0_holds 18 = .ok (.getfield 25, 3) := by decide +kernel
theorem dX0_holds_21 : decode cX0_holds 21 = .ok (.if_icmp .ge 7, 3) := by decide +kernel
theorem dX0_holds_24 : decode cX0_holds 24 = .ok (.iconst 1, 1) := by decide +kernel
theorem dX0_holds_25 : decode cX0_holds 25 = .ok (.goto 4, 3) := by decide +kernel
theorem dX0_holds_28 : decode cX0_holds 28 = .ok (.iconst 0, 1) := by decide +kernel
theorem dX0_holds_29 : decode cX0_holds 29 = .ok (.ireturn, 1) := by decide +kernel
theorem dX0_isTaken_0 : decode cX0_isTaken 0 = .ok (.iconst 0, 1) := by decide +kernel
theorem dX0_isTaken_1 : decode cX0_isTaken 1 = .ok (.istore_n 3, 1) := by decide +kernel
theorem dX0_isTaken_2 : decode cX0_isTaken 2 = .ok (.iload_n 3, 1) := by decide +kernel
theorem dX0_isTaken_3 : decode cX0_isTaken 3 = .ok (.aload_n 0, 1) := by decide +kernel
theorem dX0_isTaken_4 : decode cX0_isTaken 4 = .ok (.getfield 28, 3) := by decide +kernel
theorem dX0_isTaken_7 : decode cX0_isTaken 7 = .ok (.if_icmp .ge 31, 3) := by decide +kernel
theorem dX0_isTaken_10 : decode cX0_isTaken 10 = .ok (.aload_n 0, 1) := by decide +kernel
theorem dX0_isTaken_11 : decode cX0_isTaken 11 = .ok (.getfield 9, 3) := by decide +kernel
theorem dX0_isTaken_14 : decode cX0_isTaken 14 = .ok (.iload_n 3, 1) := by decide +kernel
theorem dX0_isTaken_15 : decode cX0_isTaken 15 = .ok (.iaload, 1) := by decide +kernel
theorem dX0_isTaken_16 : decode cX0_isTaken 16 = .ok (.iload_n 1, 1) := by decide +kernel
theorem dX0_isTaken_17 : decode cX0_isTaken 17 = .ok (.if_icmp .ne 15, 3) := by decide +kernel
theorem dX0_isTaken_20 : decode cX0_isTaken 20 = .ok (.aload_n 0, 1) := by decide +kernel
theorem dX0_isTaken_21 : decode cX0_isTaken 21 = .ok (.getfield 15, 3) := by decide +kernel
theorem dX0_isTaken_24 : decode cX0_isTaken 24 = .ok (.iload_n 3, 1) := by decide +kernel
theorem dX0_isTaken_25 : decode cX0_isTaken 25 = .ok (.iaload, 1) := by decide +kernel
theorem dX0_isTaken_26 : decode cX0_isTaken 26 = .ok (.iload_n 2, 1) := by decide +kernel
theorem dX0_isTaken_27 : decode cX0_isTaken 27 = .ok (.if_icmp .ne 5, 3) := by decide +kernel
theorem dX0_isTaken_30 : decode cX0_isTaken 30 = .ok (.iconst 1, 1) := by decide +kernel
theorem dX0_isTaken_31 : decode cX0_isTaken 31 = .ok (.ireturn, 1) := by decide +kernel
theorem dX0_isTaken_32 : decode cX0_isTaken 32 = .ok (.iinc 3 1, 3) := by decide +kernel
theorem dX0_isTaken_35 : decode cX0_isTaken 35 = .ok (.goto (-33), 3) := by decide +kernel
theorem dX0_isTaken_38 : decode cX0_isTaken 38 = .ok (.iconst 0, 1) := by decide +kernel
theorem dX0_isTaken_39 : decode cX0_isTaken 39 = .ok (.ireturn, 1) := by decide +kernel
theorem dX0_isColumnFull_0 : decode cX0_isColumnFull 0 = .ok (.iconst 0, 1) := by decide +kernel
theorem dX0_isColumnFull_1 : decode cX0_isColumnFull 1 = .ok (.istore_n 2, 1) := by decide +kernel
theorem dX0_isColumnFull_2 : decode cX0_isColumnFull 2 = .ok (.iconst 0, 1) := by decide +kernel
theorem dX0_isColumnFull_3 : decode cX0_isColumnFull 3 = .ok (.istore_n 3, 1) := by decide +kernel
theorem dX0_isColumnFull_4 : decode cX0_isColumnFull 4 = .ok (.iload_n 3, 1) := by decide +kernel
theorem dX0_isColumnFull_5 : decode cX0_isColumnFull 5 = .ok (.aload_n 0, 1) := by decide +kernel
theorem dX0_isColumnFull_6 : decode cX0_isColumnFull 6 = .ok (.getfield 28, 3) := by decide +kernel
theorem dX0_isColumnFull_9 : decode cX0_isColumnFull 9 = .ok (.if_icmp .ge 22, 3) := by decide +kernel
theorem dX0_isColumnFull_12 : decode cX0_isColumnFull 12 = .ok (.aload_n 0, 1) := by decide +kernel
theorem dX0_isColumnFull_13 : decode cX0_isColumnFull 13 = .ok (.getfield 9, 3) := by decide +kernel
theorem dX0_isColumnFull_16 : decode cX0_isColumnFull 16 = .ok (.iload_n 3, 1) := by decide +kernel
theorem dX0_isColumnFull_17 : decode cX0_isColumnFull 17 = .ok (.iaload, 1) := by decide +kernel
theorem dX0_isColumnFull_18 : decode cX0_isColumnFull 18 = .ok (.iload_n 1, 1) := by decide +kernel
theorem dX0_isColumnFull_19 : decode cX0_isColumnFull 19 = .ok (.if_icmp .ne 6, 3) := by decide +kernel
theorem dX0_isColumnFull_22 : decode cX0_isColumnFull 22 = .ok (.iinc 2 1, 3) := by decide +kernel
theorem dX0_isColumnFull_25 : decode cX0_isColumnFull 25 = .ok (.iinc 3 1, 3) := by decide +kernel
theorem dX0_isColumnFull_28 : decode cX0_isColumnFull 28 = .ok (.goto (-24), 3) := by decide +kernel
theorem dX0_isColumnFull_31 : decode cX0_isColumnFull 31 = .ok (.iload_n 2, 1) := by decide +kernel
theorem dX0_isColumnFull_32 : decode cX0_isColumnFull 32 = .ok (.aload_n 0, 1) := by decide +kernel
theorem dX0_isColumnFull_33 : decode cX0_isColumnFull 33 = .ok (.getfield 25, 3) := by decide +kernel
theorem dX0_isColumnFull_36 : decode cX0_isColumnFull 36 = .ok (.if_icmp .lt 7, 3) := by decide +kernel
theorem dX0_isColumnFull_39 : decode cX0_isColumnFull 39 = .ok (.iconst 1, 1) := by decide +kernel
theorem dX0_isColumnFull_40 : decode cX0_isColumnFull 40 = .ok (.goto 4, 3) := by decide +kernel
theorem dX0_isColumnFull_43 : decode cX0_isColumnFull 43 = .ok (.iconst 0, 1) := by decide +kernel
theorem dX0_isColumnFull_44 : decode cX0_isColumnFull 44 = .ok (.ireturn, 1) := by decide +kernel
set_option maxRecDepth 20000 in
theorem ggX0_add_X0_holds : GoodIn wsX0_add wsX0_holds := goodIn_r _ [9, 10, 11, 16, 17, 18, 19, 20, 21, 22, 23, 24, 25, 26] (by decide +kernel) (by decide +kernel)
set_option maxRecDepth 20000 in
theorem gX0_add_X0_holds : GoodIn wsX0_add (wsV RX0 53 RX0 yX0_holds wsX0_holds) := goodIn_app (goodIn_of _ (by decide +kernel)) ggX0_add_X0_holds
set_option maxRecDepth 20000 in
theorem ggX0_add_X0_isTaken : GoodIn wsX0_add wsX0_isTaken := goodIn_r _ [15, 1, 2, 3, 16, 17, 18, 19, 20, 21, 22, 23, 24, 25, 26] (by decide +kernel) (by decide +kernel)
set_option maxRecDepth 20000 in
theorem gX0_add_X0_isTaken : GoodIn wsX0_add (wsV RX0 57 RX0 yX0_isTaken wsX0_isTaken) := goodIn_app (goodIn_of _ (by decide +kernel)) ggX0_add_X0_isTaken
theorem dX0_add_0 : decode cX0_add 0 = .ok (.aload_n 0, 1) := by decide +kernel
theorem dX0_add_1 : decode cX0_add 1 = .ok (.iload_n 1, 1) := by decide +kernel
theorem dX0_add_2 : decode cX0_add 2 = .ok (.iload_n 2, 1) := by decide +kernel
theorem dX0_add_3 : decode cX0_add 3 = .ok (.invokevirtual 53, 3) := by decide +kernel
theorem dX0_add_6 : decode cX0_add 6 = .ok (.ifCond .eq 21, 3) := by decide +kernel
theorem dX0_add_9 : decode cX0_add 9 = .ok (.aload_n 0, 1) := by decide +kernel
theorem dX0_add_10 : decode cX0_add 10 = .ok (.iload_n 1, 1) := by decide +kernel
theorem dX0_add_11 : decode cX0_add 11 = .ok (.iload_n 2, 1) := by decide +kernel
theorem dX0_add_12 : decode cX0_add 12 = .ok (.invokevirtual 57, 3) := by decide +kernel
theorem dX0_add_15 : decode cX0_add 15 = .ok (.ifCond .ne 12, 3) := by decide +kernel
theorem dX0_add_18 : decode cX0_add 18 = .ok (.aload_n 0, 1) := by decide +kernel
theorem dX0_add_19 : decode cX0_add 19 = .ok (.getfield 28, 3) := by decide +kernel
theorem dX0_add_22 : decode cX0_add 22 = .ok (.bipush 14, 2) := by decide +kernel
theorem dX0_add_24 : decode cX0_add 24 = .ok (.if_icmp .lt 5, 3) := by decide +kernel
theorem dX0_add_27 : decode cX0_add 27 = .ok (.iconst 0, 1) := by decide +kernel
theorem dX0_add_28 : decode cX0_add 28 = .ok (.ireturn, 1) := by decide +kernel
theorem dX0_add_29 : decode cX0_add 29 = .ok (.aload_n 0, 1) := by decide +kernel
theorem dX0_add_30 : decode cX0_add 30 = .ok (.getfield 9, 3) := by decide +kernel
theorem dX0_add_33 : decode cX0_add 33 = .ok (.aload_n 0, 1) := by decide +kernel
theorem dX0_add_34 : decode cX0_add 34 = .ok (.getfield 28, 3) := by decide +kernel
theorem dX0_add_37 : decode cX0_add 37 = .ok (.iload_n 1, 1) := by decide +kernel
theorem dX0_add_38 : decode cX0_add 38 = .ok (.iastore, 1) := by decide +kernel
theorem dX0_add_39 : decode cX0_add 39 = .ok (.aload_n 0, 1) := by decide +kernel
theorem dX0_add_40 : decode cX0_add 40 = .ok (.getfield 15, 3) := by decide +kernel
theorem dX0_add_43 : decode cX0_add 43 = .ok (.aload_n 0, 1) := by decide +kernel
theorem dX0_add_44 : decode cX0_add 44 = .ok (.getfield 28, 3) := by decide +kernel
theorem dX0_add_47 : decode cX0_add 47 = .ok (.iload_n 2, 1) := by decide +kernel
theorem dX0_add_48 : decode cX0_add 48 = .ok (.iastore, 1) := by decide +kernel
theorem dX0_add_49 : decode cX0_add 49 = .ok (.aload_n 0, 1) := by decide +kernel
theorem dX0_add_50 : decode cX0_add 50 = .ok (.getfield 18, 3) := by decide +kernel
theorem dX0_add_53 : decode cX0_add 53 = .ok (.aload_n 0, 1) := by decide +kernel
theorem dX0_add_54 : decode cX0_add 54 = .ok (.getfield 28, 3) := by decide +kernel
theorem dX0_add_57 : decode cX0_add 57 = .ok (.iload_n 3, 1) := by decide +kernel
theorem dX0_add_58 : decode cX0_add 58 = .ok (.iastore, 1) := by decide +kernel
theorem dX0_add_59 : decode cX0_add 59 = .ok (.aload_n 0, 1) := by decide +kernel
theorem dX0_add_60 : decode cX0_add 60 = .ok (.dup, 1) := by decide +kernel
theorem dX0_add_61 : decode cX0_add 61 = .ok (.getfield 28, 3) := by decide +kernel
theorem dX0_add_64 : decode cX0_add 64 = .ok (.iconst 1, 1) := by decide +kernel
theorem dX0_add_65 : decode cX0_add 65 = .ok (.iadd, 1) := by decide +kernel
theorem dX0_add_66 : decode cX0_add 66 = .ok (.putfield 28, 3) := by decide +kernel
theorem dX0_add_69 : decode cX0_add 69 = .ok (.iconst 1, 1) := by decide +kernel
theorem dX0_add_70 : decode cX0_add 70 = .ok (.ireturn, 1) := by decide +kernel
set_option maxRecDepth 20000 in
theorem ggX0_remove_X0_has : GoodIn wsX0_remove wsX0_has := goodIn_r _ [9, 1, 10, 11, 12, 13, 14, 15, 16, 17, 18, 19, 20] (by decide +kernel) (by decide +kernel)
set_option maxRecDepth 20000 in
theorem gX0_remove_X0_has : GoodIn wsX0_remove (wsV RX0 60 RX0 yX0_has wsX0_has) := goodIn_app (goodIn_of _ (by decide +kernel)) ggX0_remove_X0_has
theorem dX0_remove_0 : decode cX0_remove 0 = .ok (.aload_n 0, 1) := by decide +kernel
theorem dX0_remove_1 : decode cX0_remove 1 = .ok (.iload_n 1, 1) := by decide +kernel
theorem dX0_remove_2 : decode cX0_remove 2 = .ok (.invokevirtual 60, 3) := by decide +kernel
theorem dX0_remove_5 : decode cX0_remove 5 = .ok (.ifCond .ne 4, 3) := by decide +kernel
theorem dX0_remove_8 : decode cX0_remove 8 = .ok (.return_, 1) := by decide +kernel
theorem dX0_remove_9 : decode cX0_remove 9 = .ok (.iload_n 1, 1) := by decide +kernel
theorem dX0_remove_10 : decode cX0_remove 10 = .ok (.istore_n 2, 1) := by decide +kernel
theorem dX0_remove_11 : decode cX0_remove 11 = .ok (.iload_n 2, 1) := by decide +kernel
theorem dX0_remove_12 : decode cX0_remove 12 = .ok (.iconst 1, 1) := by decide +kernel
theorem dX0_remove_13 : decode cX0_remove 13 = .ok (.iadd, 1) := by decide +kernel
theorem dX0_remove_14 : decode cX0_remove 14 = .ok (.aload_n 0, 1) := by decide +kernel
theorem dX0_remove_15 : decode cX0_remove 15 = .ok (.getfield 28, 3) := by decide +kernel
theorem dX0_remove_18 : decode cX0_remove 18 = .ok (.if_icmp .ge 51, 3) := by decide +kernel
theorem dX0_remove_21 : decode cX0_remove 21 = .ok (.aload_n 0, 1) := by decide +kernel
theorem dX0_remove_22 : decode cX0_remove 22 = .ok (.getfield 9, 3) := by decide +kernel
theorem dX0_remove_25 : decode cX0_remove 25 = .ok (.iload_n 2, 1) := by decide +kernel
theorem dX0_remove_26 : decode cX0_remove 26 = .ok (.aload_n 0, 1) := by decide +kernel
theorem dX0_remove_27 : decode cX0_remove 27 = .ok (.getfield 9, 3) := by decide +kernel
theorem dX0_remove_30 : decode cX0_remove 30 = .ok (.iload_n 2, 1) := by decide +kernel
theorem dX0_remove_31 : decode cX0_remove 31 = .ok (.iconst 1, 1) := by decide +kernel
theorem dX0_remove_32 : decode cX0_remove 32 = .ok (.iadd, 1) := by decide +kernel
theorem dX0_remove_33 : decode cX0_remove 33 = .ok (.iaload, 1) := by decide +kernel
theorem dX0_remove_34 : decode cX0_remove 34 = .ok (.iastore, 1) := by decide +kernel
theorem dX0_remove_35 : decode cX0_remove 35 = .ok (.aload_n 0, 1) := by decide +kernel
theorem dX0_remove_36 : decode cX0_remove 36 = .ok (.getfield 15, 3) := by decide +kernel
theorem dX0_remove_39 : decode cX0_remove 39 = .ok (.iload_n 2, 1) := by decide +kernel
theorem dX0_remove_40 : decode cX0_remove 40 = .ok (.aload_n 0, 1) := by decide +kernel
theorem dX0_remove_41 : decode cX0_remove 41 = .ok (.getfield 15, 3) := by decide +kernel
theorem dX0_remove_44 : decode cX0_remove 44 = .ok (.iload_n 2, 1) := by decide +kernel
theorem dX0_remove_45 : decode cX0_remove 45 = .ok (.iconst 1, 1) := by decide +kernel
theorem dX0_remove_46 : decode cX0_remove 46 = .ok (.iadd, 1) := by decide +kernel
theorem dX0_remove_47 : decode cX0_remove 47 = .ok (.iaload, 1) := by decide +kernel
theorem dX0_remove_48 : decode cX0_remove 48 = .ok (.iastore, 1) := by decide +kernel
theorem dX0_remove_49 : decode cX0_remove 49 = .ok (.aload_n 0, 1) := by decide +kernel
theorem dX0_remove_50 : decode cX0_remove 50 = .ok (.getfield 18, 3) := by decide +kernel
theorem dX0_remove_53 : decode cX0_remove 53 = .ok (.iload_n 2, 1) := by decide +kernel
theorem dX0_remove_54 : decode cX0_remove 54 = .ok (.aload_n 0, 1) := by decide +kernel
theorem dX0_remove_55 : decode cX0_remove 55 = .ok (.getfield 18, 3) := by decide +kernel
theorem dX0_remove_58 : decode cX0_remove 58 = .ok (.iload_n 2, 1) := by decide +kernel
theorem dX0_remove_59 : decode cX0_remove 59 = .ok (.iconst 1, 1) := by decide +kernel
theorem dX0_remove_60 : decode cX0_remove 60 = .ok (.iadd, 1) := by decide +kernel
theorem dX0_remove_61 : decode cX0_remove 61 = .ok (.iaload, 1) := by decide +kernel
theorem dX0_remove_62 : decode cX0_remove 62 = .ok (.iastore, 1) := by decide +kernel
theorem dX0_remove_63 : decode cX0_remove 63 = .ok (.iinc 2 1, 3) := by decide +kernel
theorem dX0_remove_66 : decode cX0_remove 66 = .ok (.goto (-55), 3) := by decide +kernel
theorem dX0_remove_69 : decode cX0_remove 69 = .ok (.aload_n 0, 1) := by decide +kernel
theorem dX0_remove_70 : decode cX0_remove 70 = .ok (.dup, 1) := by decide +kernel
theorem dX0_remove_71 : decode cX0_remove 71 = .ok (.getfield 28, 3) := by decide +kernel
theorem dX0_remove_74 : decode cX0_remove 74 = .ok (.iconst 1, 1) := by decide +kernel
theorem dX0_remove_75 : decode cX0_remove 75 = .ok (.isub, 1) := by decide +kernel
theorem dX0_remove_76 : decode cX0_remove 76 = .ok (.putfield 28, 3) := by decide +kernel
theorem dX0_remove_79 : decode cX0_remove 79 = .ok (.return_, 1) := by decide +kernel
theorem dX0_allows_0 : decode cX0_allows 0 = .ok (.iload_n 1, 1) := by decide +kernel
theorem dX0_allows_1 : decode cX0_allows 1 = .ok (.tableswitch 123 0 4 #[35, 54, 74, 89, 106], 35) := by decide +kernel
theorem dX0_allows_36 : decode cX0_allows 36 = .ok (.iload_n 2, 1) := by decide +kernel
theorem dX0_allows_37 : decode cX0_allows 37 = .ok (.iconst 1, 1) := by decide +kernel
theorem dX0_allows_38 : decode cX0_allows 38 = .ok (.if_icmp .lt 15, 3) := by decide +kernel
theorem dX0_allows_41 : decode cX0_allows 41 = .ok (.iload_n 2, 1) := by decide +kernel
theorem dX0_allows_42 : decode cX0_allows 42 = .ok (.aload_n 0, 1) := by decide +kernel
theorem dX0_allows_43 : decode cX0_allows 43 = .ok (.getfield 34, 3) := by decide +kernel
theorem dX0_allows_46 : decode cX0_allows 46 = .ok (.if_icmp .gt 7, 3) := by decide +kernel
theorem dX0_allows_49 : decode cX0_allows 49 = .ok (.iconst 1, 1) := by decide +kernel
theorem dX0_allows_50 : decode cX0_allows 50 = .ok (.goto 4, 3) := by decide +kernel
theorem dX0_allows_53 : decode cX0_allows 53 = .ok (.iconst 0, 1) := by decide +kernel
theorem dX0_allows_54 : decode cX0_allows 54 = .ok (.ireturn, 1) := by decide +kernel
theorem dX0_allows_55 : decode cX0_allows 55 = .ok (.iload_n 2, 1) := by decide +kernel
theorem dX0_allows_56 : decode cX0_allows 56 = .ok (.aload_n 0, 1) := by decide +kernel
theorem dX0_allows_57 : decode cX0_allows 57 = .ok (.getfield 31, 3) := by decide +kernel
theorem dX0_allows_60 : decode cX0_allows 60 = .ok (.if_icmp .lt 13, 3) := by decide +kernel
theorem dX0_allows_63 : decode cX0_allows 63 = .ok (.iload_n 2, 1) := by decide +kernel
theorem dX0_allows_64 : decode cX0_allows 64 = .ok (.bipush 22, 2) := by decide +kernel
theorem dX0_allows_66 : decode cX0_allows 66 = .ok (.if_icmp .gt 7, 3) := by decide +kernel
theorem dX0_allows_69 : decode cX0_allows 69 = .ok (.iconst 1, 1) := by decide +kernel
theorem dX0_allows_70 : decode cX0_allows 70 = .ok (.goto 4, 3) := by decide +kernel
theorem dX0_allows_73 : decode cX0_allows 73 = .ok (.iconst 0, 1) := by decide +kernel
theorem dX0_allows_74 : decode cX0_allows 74 = .ok (.ireturn, 1) := by decide +kernel
theorem dX0_allows_75 : decode cX0_allows 75 = .ok (.iload_n 2, 1) := by decide +kernel
theorem dX0_allows_76 : decode cX0_allows 76 = .ok (.ifCond .lt 12, 3) := by decide +kernel
theorem dX0_allows_79 : decode cX0_allows 79 = .ok (.iload_n 2, 1) := by decide +kernel
theorem dX0_allows_80 : decode cX0_allows 80 = .ok (.iconst 4, 1) := by decide +kernel
theorem dX0_allows_81 : decode cX0_allows 81 = .ok (.if_icmp .gt 7, 3) := by decide +kernel
theorem dX0_allows_84 : decode cX0_allows 84 = .ok (.iconst 1, 1) := by decide +kernel
theorem dX0_allows_85 : decode cX0_allows 85 = .ok (.goto 4, 3) := by decide +kernel
theorem dX0_allows_88 : decode cX0_allows 88 = .ok (.iconst 0, 1) := by decide +kernel
theorem dX0_allows_89 : decode cX0_allows 89 = .ok (.ireturn, 1) := by decide +kernel
theorem dX0_allows_90 : decode cX0_allows 90 = .ok (.iload_n 2, 1) := by decide +kernel
theorem dX0_allows_91 : decode cX0_allows 91 = .ok (.iconst 2, 1) := by decide +kernel
theorem dX0_allows_92 : decode cX0_allows 92 = .ok (.if_icmp .lt 13, 3) := by decide +kernel
theorem dX0_allows_95 : decode cX0_allows 95 = .ok (.iload_n 2, 1) := by decide +kernel
theorem dX0_allows_96 : decode cX0_allows 96 = .ok (.bipush 14, 2) := by decide +kernel
theorem dX0_allows_98 : decode cX0_allows 98 = .ok (.if_icmp .gt 7, 3) := by decide +kernel
theorem dX0_allows_101 : decode cX0_allows 101 = .ok (.iconst 1, 1) := by decide +kernel
theorem dX0_allows_102 : decode cX0_allows 102 = .ok (.goto 4, 3) := by decide +kernel
theorem dX0_allows_105 : decode cX0_allows 105 = .ok (.iconst 0, 1) := by decide +kernel
theorem dX0_allows_106 : decode cX0_allows 106 = .ok (.ireturn, 1) := by decide +kernel
theorem dX0_allows_107 : decode cX0_allows 107 = .ok (.iload_n 2, 1) := by decide +kernel
theorem dX0_allows_108 : decode cX0_allows 108 = .ok (.iconst 1, 1) := by decide +kernel
theorem dX0_allows_109 : decode cX0_allows 109 = .ok (.if_icmp .lt 13, 3) := by decide +kernel
theorem dX0_allows_112 : decode cX0_allows 112 = .ok (.iload_n 2, 1) := by decide +kernel
theorem dX0_allows_113 : decode cX0_allows 113 = .ok (.bipush 8, 2) := by decide +kernel
theorem dX0_allows_115 : decode cX0_allows 115 = .ok (.if_icmp .gt 7, 3) := by decide +kernel
theorem dX0_allows_118 : decode cX0_allows 118 = .ok (.iconst 1, 1) := by decide +kernel
theorem dX0_allows_119 : decode cX0_allows 119 = .ok (.goto 4, 3) := by decide +kernel
theorem dX0_allows_122 : decode cX0_allows 122 = .ok (.iconst 0, 1) := by decide +kernel
theorem dX0_allows_123 : decode cX0_allows 123 = .ok (.ireturn, 1) := by decide +kernel
theorem dX0_allows_124 : decode cX0_allows 124 = .ok (.iconst 0, 1) := by decide +kernel
theorem dX0_allows_125 : decode cX0_allows 125 = .ok (.ireturn, 1) := by decide +kernel
theorem dX0_setBound_0 : decode cX0_setBound 0 = .ok (.iload_n 1, 1) := by decide +kernel
theorem dX0_setBound_1 : decode cX0_setBound 1 = .ok (.tableswitch 75 0 4 #[35, 43, 51, 59, 67], 35) := by decide +kernel
theorem dX0_setBound_36 : decode cX0_setBound 36 = .ok (.aload_n 0, 1) := by decide +kernel
theorem dX0_setBound_37 : decode cX0_setBound 37 = .ok (.iload_n 2, 1) := by decide +kernel
theorem dX0_setBound_38 : decode cX0_setBound 38 = .ok (.putfield 31, 3) := by decide +kernel
theorem dX0_setBound_41 : decode cX0_setBound 41 = .ok (.goto 35, 3) := by decide +kernel
theorem dX0_setBound_44 : decode cX0_setBound 44 = .ok (.aload_n 0, 1) := by decide +kernel
theorem dX0_setBound_45 : decode cX0_setBound 45 = .ok (.iload_n 2, 1) := by decide +kernel
theorem dX0_setBound_46 : decode cX0_setBound 46 = .ok (.putfield 34, 3) := by decide +kernel
theorem dX0_setBound_49 : decode cX0_setBound 49 = .ok (.goto 27, 3) := by decide +kernel
theorem dX0_setBound_52 : decode cX0_setBound 52 = .ok (.aload_n 0, 1) := by decide +kernel
theorem dX0_setBound_53 : decode cX0_setBound 53 = .ok (.iload_n 2, 1) := by decide +kernel
theorem dX0_setBound_54 : decode cX0_setBound 54 = .ok (.putfield 37, 3) := by decide +kernel
theorem dX0_setBound_57 : decode cX0_setBound 57 = .ok (.goto 19, 3) := by decide +kernel
theorem dX0_setBound_60 : decode cX0_setBound 60 = .ok (.aload_n 0, 1) := by decide +kernel
theorem dX0_setBound_61 : decode cX0_setBound 61 = .ok (.iload_n 2, 1) := by decide +kernel
theorem dX0_setBound_62 : decode cX0_setBound 62 = .ok (.putfield 40, 3) := by decide +kernel
theorem dX0_setBound_65 : decode cX0_setBound 65 = .ok (.goto 11, 3) := by decide +kernel
theorem dX0_setBound_68 : decode cX0_setBound 68 = .ok (.aload_n 0, 1) := by decide +kernel
theorem dX0_setBound_69 : decode cX0_setBound 69 = .ok (.iload_n 2, 1) := by decide +kernel
theorem dX0_setBound_70 : decode cX0_setBound 70 = .ok (.putfield 43, 3) := by decide +kernel
theorem dX0_setBound_73 : decode cX0_setBound 73 = .ok (.goto 3, 3) := by decide +kernel
theorem dX0_setBound_76 : decode cX0_setBound 76 = .ok (.return_, 1) := by decide +kernel
theorem dX0_agrees_0 : decode cX0_agrees 0 = .ok (.aload_n 0, 1) := by decide +kernel
theorem dX0_agrees_1 : decode cX0_agrees 1 = .ok (.getfield 18, 3) := by decide +kernel
theorem dX0_agrees_4 : decode cX0_agrees 4 = .ok (.iload_n 1, 1) := by decide +kernel
theorem dX0_agrees_5 : decode cX0_agrees 5 = .ok (.iaload, 1) := by decide +kernel
theorem dX0_agrees_6 : decode cX0_agrees 6 = .ok (.istore 5, 2) := by decide +kernel
theorem dX0_agrees_8 : decode cX0_agrees 8 = .ok (.iload 5, 2) := by decide +kernel
theorem dX0_agrees_10 : decode cX0_agrees 10 = .ok (.ifCond .lt 10, 3) := by decide +kernel
theorem dX0_agrees_13 : decode cX0_agrees 13 = .ok (.iload 5, 2) := by decide +kernel
theorem dX0_agrees_15 : decode cX0_agrees 15 = .ok (.bipush 8, 2) := by decide +kernel
theorem dX0_agrees_17 : decode cX0_agrees 17 = .ok (.if_icmp .lt 5, 3) := by decide +kernel
theorem dX0_agrees_20 : decode cX0_agrees 20 = .ok (.iconst 1, 1) := by decide +kernel
theorem dX0_agrees_21 : decode cX0_agrees 21 = .ok (.ireturn, 1) := by decide +kernel
theorem dX0_agrees_22 : decode cX0_agrees 22 = .ok (.iload_n 2, 1) := by decide +kernel
theorem dX0_agrees_23 : decode cX0_agrees 23 = .ok (.iload 4, 2) := by decide +kernel
theorem dX0_agrees_25 : decode cX0_agrees 25 = .ok (.aload_n 0, 1) := by decide +kernel
theorem dX0_agrees_26 : decode cX0_agrees 26 = .ok (.getfield 9, 3) := by decide +kernel
theorem dX0_agrees_29 : decode cX0_agrees 29 = .ok (.iload_n 1, 1) := by decide +kernel
theorem dX0_agrees_30 : decode cX0_agrees 30 = .ok (.iaload, 1) := by decide +kernel
theorem dX0_agrees_31 : decode cX0_agrees 31 = .ok (.imul, 1) := by decide +kernel
theorem dX0_agrees_32 : decode cX0_agrees 32 = .ok (.isub, 1) := by decide +kernel
theorem dX0_agrees_33 : decode cX0_agrees 33 = .ok (.istore 6, 2) := by decide +kernel
theorem dX0_agrees_35 : decode cX0_agrees 35 = .ok (.iload_n 3, 1) := by decide +kernel
theorem dX0_agrees_36 : decode cX0_agrees 36 = .ok (.iload 4, 2) := by decide +kernel
theorem dX0_agrees_38 : decode cX0_agrees 38 = .ok (.aload_n 0, 1) := by decide +kernel
theorem dX0_agrees_39 : decode cX0_agrees 39 = .ok (.getfield 15, 3) := by decide +kernel
theorem dX0_agrees_42 : decode cX0_agrees 42 = .ok (.iload_n 1, 1) := by decide +kernel
theorem dX0_agrees_43 : decode cX0_agrees 43 = .ok (.iaload, 1) := by decide +kernel
theorem dX0_agrees_44 : decode cX0_agrees 44 = .ok (.imul, 1) := by decide +kernel
theorem dX0_agrees_45 : decode cX0_agrees 45 = .ok (.isub, 1) := by decide +kernel
theorem dX0_agrees_46 : decode cX0_agrees 46 = .ok (.istore 7, 2) := by decide +kernel
theorem dX0_agrees_48 : decode cX0_agrees 48 = .ok (.iload 6, 2) := by decide +kernel
theorem dX0_agrees_50 : decode cX0_agrees 50 = .ok (.getstatic 64, 3) := by decide +kernel
theorem dX0_agrees_53 : decode cX0_agrees 53 = .ok (.iload 5, 2) := by decide +kernel
theorem dX0_agrees_55 : decode cX0_agrees 55 = .ok (.iaload, 1) := by decide +kernel
theorem dX0_agrees_56 : decode cX0_agrees 56 = .ok (.imul, 1) := by decide +kernel
theorem dX0_agrees_57 : decode cX0_agrees 57 = .ok (.iload 7, 2) := by decide +kernel
theorem dX0_agrees_59 : decode cX0_agrees 59 = .ok (.getstatic 67, 3) := by decide +kernel
theorem dX0_agrees_62 : decode cX0_agrees 62 = .ok (.iload 5, 2) := by decide +kernel
theorem dX0_agrees_64 : decode cX0_agrees 64 = .ok (.iaload, 1) := by decide +kernel
theorem dX0_agrees_65 : decode cX0_agrees 65 = .ok (.imul, 1) := by decide +kernel
theorem dX0_agrees_66 : decode cX0_agrees 66 = .ok (.iadd, 1) := by decide +kernel
theorem dX0_agrees_67 : decode cX0_agrees 67 = .ok (.istore 8, 2) := by decide +kernel
theorem dX0_agrees_69 : decode cX0_agrees 69 = .ok (.iload 6, 2) := by decide +kernel
theorem dX0_agrees_71 : decode cX0_agrees 71 = .ok (.getstatic 67, 3) := by decide +kernel
theorem dX0_agrees_74 : decode cX0_agrees 74 = .ok (.iload 5, 2) := by decide +kernel
theorem dX0_agrees_76 : decode cX0_agrees 76 = .ok (.iaload, 1) := by decide +kernel
theorem dX0_agrees_77 : decode cX0_agrees 77 = .ok (.imul, 1) := by decide +kernel
theorem dX0_agrees_78 : decode cX0_agrees 78 = .ok (.iload 7, 2) := by decide +kernel
theorem dX0_agrees_80 : decode cX0_agrees 80 = .ok (.getstatic 64, 3) := by decide +kernel
theorem dX0_agrees_83 : decode cX0_agrees 83 = .ok (.iload 5, 2) := by decide +kernel
theorem dX0_agrees_85 : decode cX0_agrees 85 = .ok (.iaload, 1) := by decide +kernel
theorem dX0_agrees_86 : decode cX0_agrees 86 = .ok (.imul, 1) := by decide +kernel
theorem dX0_agrees_87 : decode cX0_agrees 87 = .ok (.isub, 1) := by decide +kernel
theorem dX0_agrees_88 : decode cX0_agrees 88 = .ok (.istore 9, 2) := by decide +kernel
theorem dX0_agrees_90 : decode cX0_agrees 90 = .ok (.iload 8, 2) := by decide +kernel
theorem dX0_agrees_92 : decode cX0_agrees 92 = .ok (.ifCond .le 22, 3) := by decide +kernel
theorem dX0_agrees_95 : decode cX0_agrees 95 = .ok (.iload 9, 2) := by decide +kernel
theorem dX0_agrees_97 : decode cX0_agrees 97 = .ok (.iload 8, 2) := by decide +kernel
theorem dX0_agrees_99 : decode cX0_agrees 99 = .ok (.if_icmp .gt 15, 3) := by decide +kernel
theorem dX0_agrees_102 : decode cX0_agrees 102 = .ok (.iload 9, 2) := by decide +kernel
theorem dX0_agrees_104 : decode cX0_agrees 104 = .ok (.ineg, 1) := by decide +kernel
theorem dX0_agrees_105 : decode cX0_agrees 105 = .ok (.iload 8, 2) := by decide +kernel
theorem dX0_agrees_107 : decode cX0_agrees 107 = .ok (.if_icmp .gt 7, 3) := by decide +kernel
theorem dX0_agrees_110 : decode cX0_agrees 110 = .ok (.iconst 1, 1) := by decide +kernel
theorem dX0_agrees_111 : decode cX0_agrees 111 = .ok (.goto 4, 3) := by decide +kernel
theorem dX0_agrees_114 : decode cX0_agrees 114 = .ok (.iconst 0, 1) := by decide +kernel
theorem dX0_agrees_115 : decode cX0_agrees 115 = .ok (.ireturn, 1) := by decide +kernel
set_option maxRecDepth 20000 in
theorem ggX0_textAt_X0_digitAt : GoodIn wsX0_textAt wsX0_digitAt := goodIn_r _ [6] (by decide +kernel) (by decide +kernel)
set_option maxRecDepth 20000 in
theorem gX0_textAt_X0_digitAt : GoodIn wsX0_textAt (va_wsS RX0 70 yX0_digitAt wsX0_digitAt) := goodIn_app (goodIn_of _ (by decide +kernel)) ggX0_textAt_X0_digitAt
set_option maxRecDepth 20000 in
theorem ggX0_textAt_X0_dotLetter : GoodIn wsX0_textAt wsX0_dotLetter := goodIn_r _ [10, 11, 12, 13, 14, 15, 16, 5, 17, 18, 19, 20, 21, 22, 23, 24, 25, 26, 27, 28, 29, 30, 31, 32] (by decide +kernel) (by decide +kernel)
set_option maxRecDepth 20000 in
theorem gX0_textAt_X0_dotLetter : GoodIn wsX0_textAt (wsV RX0 74 RX0 yX0_dotLetter wsX0_dotLetter) := goodIn_app (goodIn_of _ (by decide +kernel)) ggX0_textAt_X0_dotLetter
theorem dX0_textAt_0 : decode cX0_textAt 0 = .ok (.aload_n 0, 1) := by decide +kernel
theorem dX0_textAt_1 : decode cX0_textAt 1 = .ok (.getfield 21, 3) := by decide +kernel
theorem dX0_textAt_4 : decode cX0_textAt 4 = .ok (.bipush 10, 2) := by decide +kernel
theorem dX0_textAt_6 : decode cX0_textAt 6 = .ok (.if_icmp .ge 7, 3) := by decide +kernel
theorem dX0_textAt_9 : decode cX0_textAt 9 = .ok (.iconst 1, 1) := by decide +kernel
theorem dX0_textAt_10 : decode cX0_textAt 10 = .ok (.goto 4, 3) := by decide +kernel
theorem dX0_textAt_13 : decode cX0_textAt 13 = .ok (.iconst 2, 1) := by decide +kernel
theorem dX0_textAt_14 : decode cX0_textAt 14 = .ok (.istore_n 2, 1) := by decide +kernel
theorem dX0_textAt_15 : decode cX0_textAt 15 = .ok (.iload_n 2, 1) := by decide +kernel
theorem dX0_textAt_16 : decode cX0_textAt 16 = .ok (.aload_n 0, 1) := by decide +kernel
theorem dX0_textAt_17 : decode cX0_textAt 17 = .ok (.getfield 25, 3) := by decide +kernel
theorem dX0_textAt_20 : decode cX0_textAt 20 = .ok (.bipush 10, 2) := by decide +kernel
theorem dX0_textAt_22 : decode cX0_textAt 22 = .ok (.if_icmp .ge 7, 3) := by decide +kernel
theorem dX0_textAt_25 : decode cX0_textAt 25 = .ok (.iconst 2, 1) := by decide +kernel
theorem dX0_textAt_26 : decode cX0_textAt 26 = .ok (.goto 4, 3) := by decide +kernel
theorem dX0_textAt_29 : decode cX0_textAt 29 = .ok (.iconst 3, 1) := by decide +kernel
theorem dX0_textAt_30 : decode cX0_textAt 30 = .ok (.iadd, 1) := by decide +kernel
theorem dX0_textAt_31 : decode cX0_textAt 31 = .ok (.istore_n 3, 1) := by decide +kernel
theorem dX0_textAt_32 : decode cX0_textAt 32 = .ok (.iload_n 1, 1) := by decide +kernel
theorem dX0_textAt_33 : decode cX0_textAt 33 = .ok (.iload_n 2, 1) := by decide +kernel
theorem dX0_textAt_34 : decode cX0_textAt 34 = .ok (.if_icmp .ge 16, 3) := by decide +kernel
theorem dX0_textAt_37 : decode cX0_textAt 37 = .ok (.aload_n 0, 1) := by decide +kernel
theorem dX0_textAt_38 : decode cX0_textAt 38 = .ok (.getfield 21, 3) := by decide +kernel
theorem dX0_textAt_41 : decode cX0_textAt 41 = .ok (.iload_n 2, 1) := by decide +kernel
theorem dX0_textAt_42 : decode cX0_textAt 42 = .ok (.iconst 1, 1) := by decide +kernel
theorem dX0_textAt_43 : decode cX0_textAt 43 = .ok (.isub, 1) := by decide +kernel
theorem dX0_textAt_44 : decode cX0_textAt 44 = .ok (.iload_n 1, 1) := by decide +kernel
theorem dX0_textAt_45 : decode cX0_textAt 45 = .ok (.isub, 1) := by decide +kernel
theorem dX0_textAt_46 : decode cX0_textAt 46 = .ok (.invokestatic 70, 3) := by decide +kernel
theorem dX0_textAt_49 : decode cX0_textAt 49 = .ok (.ireturn, 1) := by decide +kernel
theorem dX0_textAt_50 : decode cX0_textAt 50 = .ok (.iload_n 1, 1) := by decide +kernel
theorem dX0_textAt_51 : decode cX0_textAt 51 = .ok (.iload_n 2, 1) := by decide +kernel
theorem dX0_textAt_52 : decode cX0_textAt 52 = .ok (.if_icmp .ne 6, 3) := by decide +kernel
theorem dX0_textAt_55 : decode cX0_textAt 55 = .ok (.bipush 120, 2) := by decide +kernel
theorem dX0_textAt_57 : decode cX0_textAt 57 = .ok (.ireturn, 1) := by decide +kernel
theorem dX0_textAt_58 : decode cX0_textAt 58 = .ok (.iload_n 1, 1) := by decide +kernel
theorem dX0_textAt_59 : decode cX0_textAt 59 = .ok (.iload_n 3, 1) := by decide +kernel
theorem dX0_textAt_60 : decode cX0_textAt 60 = .ok (.if_icmp .ge 16, 3) := by decide +kernel
theorem dX0_textAt_63 : decode cX0_textAt 63 = .ok (.aload_n 0, 1) := by decide +kernel
theorem dX0_textAt_64 : decode cX0_textAt 64 = .ok (.getfield 25, 3) := by decide +kernel
theorem dX0_textAt_67 : decode cX0_textAt 67 = .ok (.iload_n 3, 1) := by decide +kernel
theorem dX0_textAt_68 : decode cX0_textAt 68 = .ok (.iconst 1, 1) := by decide +kernel
theorem dX0_textAt_69 : decode cX0_textAt 69 = .ok (.isub, 1) := by decide +kernel
theorem dX0_textAt_70 : decode cX0_textAt 70 = .ok (.iload_n 1, 1) := by decide +kernel
theorem dX0_textAt_71 : decode cX0_textAt 71 = .ok (.isub, 1) := by decide +kernel
theorem dX0_textAt_72 : decode cX0_textAt 72 = .ok (.invokestatic 70, 3) := by decide +kernel
theorem dX0_textAt_75 : decode cX0_textAt 75 = .ok (.ireturn, 1) := by decide +kernel
theorem dX0_textAt_76 : decode cX0_textAt 76 = .ok (.iload_n 1, 1) := by decide +kernel
theorem dX0_textAt_77 : decode cX0_textAt 77 = .ok (.iload_n 3, 1) := by decide +kernel
theorem dX0_textAt_78 : decode cX0_textAt 78 = .ok (.if_icmp .ne 6, 3) := by decide +kernel
theorem dX0_textAt_81 : decode cX0_textAt 81 = .ok (.bipush 58, 2) := by decide +kernel
theorem dX0_textAt_83 : decode cX0_textAt 83 = .ok (.ireturn, 1) := by decide +kernel
theorem dX0_textAt_84 : decode cX0_textAt 84 = .ok (.aload_n 0, 1) := by decide +kernel
theorem dX0_textAt_85 : decode cX0_textAt 85 = .ok (.iload_n 1, 1) := by decide +kernel
theorem dX0_textAt_86 : decode cX0_textAt 86 = .ok (.iload_n 3, 1) := by decide +kernel
theorem dX0_textAt_87 : decode cX0_textAt 87 = .ok (.isub, 1) := by decide +kernel
theorem dX0_textAt_88 : decode cX0_textAt 88 = .ok (.iconst 1, 1) := by decide +kernel
theorem dX0_textAt_89 : decode cX0_textAt 89 = .ok (.isub, 1) := by decide +kernel
theorem dX0_textAt_90 : decode cX0_textAt 90 = .ok (.invokevirtual 74, 3) := by decide +kernel
theorem dX0_textAt_93 : decode cX0_textAt 93 = .ok (.ireturn, 1) := by decide +kernel
set_option maxRecDepth 20000 in
theorem ggX0_dotLetter_X0_has : GoodIn wsX0_dotLetter wsX0_has := goodIn_r _ [8, 9, 13, 14, 15, 16, 17, 18, 19, 20, 21, 22, 23] (by decide +kernel) (by decide +kernel)
set_option maxRecDepth 20000 in
theorem gX0_dotLetter_X0_has : GoodIn wsX0_dotLetter (wsV RX0 60 RX0 yX0_has wsX0_has) := goodIn_app (goodIn_of _ (by decide +kernel)) ggX0_dotLetter_X0_has
set_option maxRecDepth 20000 in
theorem ggX0_dotLetter_X0_signOf : GoodIn wsX0_dotLetter wsX0_signOf := goodIn_r _ [12] (by decide +kernel) (by decide +kernel)
set_option maxRecDepth 20000 in
theorem gX0_dotLetter_X0_signOf : GoodIn wsX0_dotLetter (va_wsS RX0 78 yX0_signOf wsX0_signOf) := goodIn_app (goodIn_of _ (by decide +kernel)) ggX0_dotLetter_X0_signOf
theorem dX0_dotLetter_0 : decode cX0_dotLetter 0 = .ok (.iload_n 1, 1) := by decide +kernel
theorem dX0_dotLetter_1 : decode cX0_dotLetter 1 = .ok (.iconst 3, 1) := by decide +kernel
theorem dX0_dotLetter_2 : decode cX0_dotLetter 2 = .ok (.idiv, 1) := by decide +kernel
theorem dX0_dotLetter_3 : decode cX0_dotLetter 3 = .ok (.istore_n 2, 1) := by decide +kernel
theorem dX0_dotLetter_4 : decode cX0_dotLetter 4 = .ok (.aload_n 0, 1) := by decide +kernel
theorem dX0_dotLetter_5 : decode cX0_dotLetter 5 = .ok (.iload_n 2, 1) := by decide +kernel
theorem dX0_dotLetter_6 : decode cX0_dotLetter 6 = .ok (.invokevirtual 60, 3) := by decide +kernel
theorem dX0_dotLetter_9 : decode cX0_dotLetter 9 = .ok (.ifCond .ne 5, 3) := by decide +kernel
theorem dX0_dotLetter_12 : decode cX0_dotLetter 12 = .ok (.iconst (-1), 1) := by decide +kernel
theorem dX0_dotLetter_13 : decode cX0_dotLetter 13 = .ok (.ireturn, 1) := by decide +kernel
theorem dX0_dotLetter_14 : decode cX0_dotLetter 14 = .ok (.iload_n 1, 1) := by decide +kernel
theorem dX0_dotLetter_15 : decode cX0_dotLetter 15 = .ok (.iconst 3, 1) := by decide +kernel
theorem dX0_dotLetter_16 : decode cX0_dotLetter 16 = .ok (.irem, 1) := by decide +kernel
theorem dX0_dotLetter_17 : decode cX0_dotLetter 17 = .ok (.lookupswitch 47 #[(0, 27), (1, 37)], 27) := by decide +kernel
theorem dX0_dotLetter_44 : decode cX0_dotLetter 44 = .ok (.aload_n 0, 1) := by decide +kernel
theorem dX0_dotLetter_45 : decode cX0_dotLetter 45 = .ok (.getfield 9, 3) := by decide +kernel
theorem dX0_dotLetter_48 : decode cX0_dotLetter 48 = .ok (.iload_n 2, 1) := by decide +kernel
theorem dX0_dotLetter_49 : decode cX0_dotLetter 49 = .ok (.iaload, 1) := by decide +kernel
theorem dX0_dotLetter_50 : decode cX0_dotLetter 50 = .ok (.invokestatic 78, 3) := by decide +kernel
theorem dX0_dotLetter_53 : decode cX0_dotLetter 53 = .ok (.ireturn, 1) := by decide +kernel
theorem dX0_dotLetter_54 : decode cX0_dotLetter 54 = .ok (.aload_n 0, 1) := by decide +kernel
theorem dX0_dotLetter_55 : decode cX0_dotLetter 55 = .ok (.getfield 15, 3) := by decide +kernel
theorem dX0_dotLetter_58 : decode cX0_dotLetter 58 = .ok (.iload_n 2, 1) := by decide +kernel
theorem dX0_dotLetter_59 : decode cX0_dotLetter 59 = .ok (.iaload, 1) := by decide +kernel
theorem dX0_dotLetter_60 : decode cX0_dotLetter 60 = .ok (.invokestatic 78, 3) := by decide +kernel
theorem dX0_dotLetter_63 : decode cX0_dotLetter 63 = .ok (.ireturn, 1) := by decide +kernel
theorem dX0_dotLetter_64 : decode cX0_dotLetter 64 = .ok (.aload_n 0, 1) := by decide +kernel
theorem dX0_dotLetter_65 : decode cX0_dotLetter 65 = .ok (.getfield 18, 3) := by decide +kernel
theorem dX0_dotLetter_68 : decode cX0_dotLetter 68 = .ok (.iload_n 2, 1) := by decide +kernel
theorem dX0_dotLetter_69 : decode cX0_dotLetter 69 = .ok (.iaload, 1) := by decide +kernel
theorem dX0_dotLetter_70 : decode cX0_dotLetter 70 = .ok (.iconst (-1), 1) := by decide +kernel
theorem dX0_dotLetter_71 : decode cX0_dotLetter 71 = .ok (.if_icmp .ne 8, 3) := by decide +kernel
theorem dX0_dotLetter_74 : decode cX0_dotLetter 74 = .ok (.bipush 45, 2) := by decide +kernel
theorem dX0_dotLetter_76 : decode cX0_dotLetter 76 = .ok (.goto 12, 3) := by decide +kernel
theorem dX0_dotLetter_79 : decode cX0_dotLetter 79 = .ok (.bipush 48, 2) := by decide +kernel
theorem dX0_dotLetter_81 : decode cX0_dotLetter 81 = .ok (.aload_n 0, 1) := by decide +kernel
theorem dX0_dotLetter_82 : decode cX0_dotLetter 82 = .ok (.getfield 18, 3) := by decide +kernel
theorem dX0_dotLetter_85 : decode cX0_dotLetter 85 = .ok (.iload_n 2, 1) := by decide +kernel
theorem dX0_dotLetter_86 : decode cX0_dotLetter 86 = .ok (.iaload, 1) := by decide +kernel
theorem dX0_dotLetter_87 : decode cX0_dotLetter 87 = .ok (.iadd, 1) := by decide +kernel
theorem dX0_dotLetter_88 : decode cX0_dotLetter 88 = .ok (.ireturn, 1) := by decide +kernel
theorem dX0_digitAt_0 : decode cX0_digitAt 0 = .ok (.bipush 48, 2) := by decide +kernel
theorem dX0_digitAt_2 : decode cX0_digitAt 2 = .ok (.iload_n 1, 1) := by decide +kernel
theorem dX0_digitAt_3 : decode cX0_digitAt 3 = .ok (.ifCond .ne 10, 3) := by decide +kernel
theorem dX0_digitAt_6 : decode cX0_digitAt 6 = .ok (.iload_n 0, 1) := by decide +kernel
theorem dX0_digitAt_7 : decode cX0_digitAt 7 = .ok (.bipush 10, 2) := by decide +kernel
theorem dX0_digitAt_9 : decode cX0_digitAt 9 = .ok (.irem, 1) := by decide +kernel
theorem dX0_digitAt_10 : decode cX0_digitAt 10 = .ok (.goto 7, 3) := by decide +kernel
theorem dX0_digitAt_13 : decode cX0_digitAt 13 = .ok (.iload_n 0, 1) := by decide +kernel
theorem dX0_digitAt_14 : decode cX0_digitAt 14 = .ok (.bipush 10, 2) := by decide +kernel
theorem dX0_digitAt_16 : decode cX0_digitAt 16 = .ok (.idiv, 1) := by decide +kernel
theorem dX0_digitAt_17 : decode cX0_digitAt 17 = .ok (.iadd, 1) := by decide +kernel
theorem dX0_digitAt_18 : decode cX0_digitAt 18 = .ok (.ireturn, 1) := by decide +kernel
theorem dX0_signOf_0 : decode cX0_signOf 0 = .ok (.iload_n 0, 1) := by decide +kernel
theorem dX0_signOf_1 : decode cX0_signOf 1 = .ok (.bipush 10, 2) := by decide +kernel
theorem dX0_signOf_3 : decode cX0_signOf 3 = .ok (.if_icmp .ge 10, 3) := by decide +kernel
theorem dX0_signOf_6 : decode cX0_signOf 6 = .ok (.bipush 48, 2) := by decide +kernel
theorem dX0_signOf_8 : decode cX0_signOf 8 = .ok (.iload_n 0, 1) := by decide +kernel
theorem dX0_signOf_9 : decode cX0_signOf 9 = .ok (.iadd, 1) := by decide +kernel
theorem dX0_signOf_10 : decode cX0_signOf 10 = .ok (.goto 10, 3) := by decide +kernel
theorem dX0_signOf_13 : decode cX0_signOf 13 = .ok (.bipush 97, 2) := by decide +kernel
theorem dX0_signOf_15 : decode cX0_signOf 15 = .ok (.iload_n 0, 1) := by decide +kernel
theorem dX0_signOf_16 : decode cX0_signOf 16 = .ok (.iadd, 1) := by decide +kernel
theorem dX0_signOf_17 : decode cX0_signOf 17 = .ok (.bipush 10, 2) := by decide +kernel
theorem dX0_signOf_19 : decode cX0_signOf 19 = .ok (.isub, 1) := by decide +kernel
theorem dX0_signOf_20 : decode cX0_signOf 20 = .ok (.ireturn, 1) := by decide +kernel
theorem dX1_init_0 : decode cX1_init 0 = .ok (.aload_n 0, 1) := by decide +kernel
theorem dX1_init_1 : decode cX1_init 1 = .ok (.invokespecial 3, 3) := by decide +kernel
theorem dX1_init_4 : decode cX1_init 4 = .ok (.aload_n 0, 1) := by decide +kernel
theorem dX1_init_5 : decode cX1_init 5 = .ok (.aload_n 1, 1) := by decide +kernel
theorem dX1_init_6 : decode cX1_init 6 = .ok (.putfield 9, 3) := by decide +kernel
theorem dX1_init_9 : decode cX1_init 9 = .ok (.return_, 1) := by decide +kernel
theorem dX1_lay_0 : decode cX1_lay 0 = .ok (.aload_n 0, 1) := by decide +kernel
theorem dX1_lay_1 : decode cX1_lay 1 = .ok (.iload_n 1, 1) := by decide +kernel
theorem dX1_lay_2 : decode cX1_lay 2 = .ok (.putfield 15, 3) := by decide +kernel
theorem dX1_lay_5 : decode cX1_lay 5 = .ok (.aload_n 0, 1) := by decide +kernel
theorem dX1_lay_6 : decode cX1_lay 6 = .ok (.iload_n 2, 1) := by decide +kernel
theorem dX1_lay_7 : decode cX1_lay 7 = .ok (.putfield 19, 3) := by decide +kernel
theorem dX1_lay_10 : decode cX1_lay 10 = .ok (.aload_n 0, 1) := by decide +kernel
theorem dX1_lay_11 : decode cX1_lay 11 = .ok (.iload_n 3, 1) := by decide +kernel
theorem dX1_lay_12 : decode cX1_lay 12 = .ok (.putfield 22, 3) := by decide +kernel
theorem dX1_lay_15 : decode cX1_lay 15 = .ok (.aload_n 0, 1) := by decide +kernel
theorem dX1_lay_16 : decode cX1_lay 16 = .ok (.getfield 9, 3) := by decide +kernel
theorem dX1_lay_19 : decode cX1_lay 19 = .ok (.getfield 25, 3) := by decide +kernel
theorem dX1_lay_22 : decode cX1_lay 22 = .ok (.iload_n 2, 1) := by decide +kernel
theorem dX1_lay_23 : decode cX1_lay 23 = .ok (.iaload, 1) := by decide +kernel
theorem dX1_lay_24 : decode cX1_lay 24 = .ok (.aload_n 0, 1) := by decide +kernel
theorem dX1_lay_25 : decode cX1_lay 25 = .ok (.getfield 9, 3) := by decide +kernel
theorem dX1_lay_28 : decode cX1_lay 28 = .ok (.getfield 25, 3) := by decide +kernel
theorem dX1_lay_31 : decode cX1_lay 31 = .ok (.iload_n 1, 1) := by decide +kernel
theorem dX1_lay_32 : decode cX1_lay 32 = .ok (.iaload, 1) := by decide +kernel
theorem dX1_lay_33 : decode cX1_lay 33 = .ok (.isub, 1) := by decide +kernel
theorem dX1_lay_34 : decode cX1_lay 34 = .ok (.istore 4, 2) := by decide +kernel
theorem dX1_lay_36 : decode cX1_lay 36 = .ok (.aload_n 0, 1) := by decide +kernel
theorem dX1_lay_37 : decode cX1_lay 37 = .ok (.getfield 9, 3) := by decide +kernel
theorem dX1_lay_40 : decode cX1_lay 40 = .ok (.getfield 31, 3) := by decide +kernel
theorem dX1_lay_43 : decode cX1_lay 43 = .ok (.iload_n 2, 1) := by decide +kernel
theorem dX1_lay_44 : decode cX1_lay 44 = .ok (.iaload, 1) := by decide +kernel
theorem dX1_lay_45 : decode cX1_lay 45 = .ok (.aload_n 0, 1) := by decide +kernel
theorem dX1_lay_46 : decode cX1_lay 46 = .ok (.getfield 9, 3) := by decide +kernel
theorem dX1_lay_49 : decode cX1_lay 49 = .ok (.getfield 31, 3) := by decide +kernel
theorem dX1_lay_52 : decode cX1_lay 52 = .ok (.iload_n 1, 1) := by decide +kernel
theorem dX1_lay_53 : decode cX1_lay 53 = .ok (.iaload, 1) := by decide +kernel
theorem dX1_lay_54 : decode cX1_lay 54 = .ok (.isub, 1) := by decide +kernel
theorem dX1_lay_55 : decode cX1_lay 55 = .ok (.istore 5, 2) := by decide +kernel
theorem dX1_lay_57 : decode cX1_lay 57 = .ok (.aload_n 0, 1) := by decide +kernel
theorem dX1_lay_58 : decode cX1_lay 58 = .ok (.getfield 9, 3) := by decide +kernel
theorem dX1_lay_61 : decode cX1_lay 61 = .ok (.getfield 25, 3) := by decide +kernel
theorem dX1_lay_64 : decode cX1_lay 64 = .ok (.iload_n 3, 1) := by decide +kernel
theorem dX1_lay_65 : decode cX1_lay 65 = .ok (.iaload, 1) := by decide +kernel
theorem dX1_lay_66 : decode cX1_lay 66 = .ok (.aload_n 0, 1) := by decide +kernel
theorem dX1_lay_67 : decode cX1_lay 67 = .ok (.getfield 9, 3) := by decide +kernel
theorem dX1_lay_70 : decode cX1_lay 70 = .ok (.getfield 25, 3) := by decide +kernel
theorem dX1_lay_73 : decode cX1_lay 73 = .ok (.iload_n 1, 1) := by decide +kernel
theorem dX1_lay_74 : decode cX1_lay 74 = .ok (.iaload, 1) := by decide +kernel
theorem dX1_lay_75 : decode cX1_lay 75 = .ok (.isub, 1) := by decide +kernel
theorem dX1_lay_76 : decode cX1_lay 76 = .ok (.istore 6, 2) := by decide +kernel
theorem dX1_lay_78 : decode cX1_lay 78 = .ok (.aload_n 0, 1) := by decide +kernel
theorem dX1_lay_79 : decode cX1_lay 79 = .ok (.getfield 9, 3) := by decide +kernel
theorem dX1_lay_82 : decode cX1_lay 82 = .ok (.getfield 31, 3) := by decide +kernel
theorem dX1_lay_85 : decode cX1_lay 85 = .ok (.iload_n 3, 1) := by decide +kernel
theorem dX1_lay_86 : decode cX1_lay 86 = .ok (.iaload, 1) := by decide +kernel
theorem dX1_lay_87 : decode cX1_lay 87 = .ok (.aload_n 0, 1) := by decide +kernel
theorem dX1_lay_88 : decode cX1_lay 88 = .ok (.getfield 9, 3) := by decide +kernel
theorem dX1_lay_91 : decode cX1_lay 91 = .ok (.getfield 31, 3) := by decide +kernel
theorem dX1_lay_94 : decode cX1_lay 94 = .ok (.iload_n 1, 1) := by decide +kernel
theorem dX1_lay_95 : decode cX1_lay 95 = .ok (.iaload, 1) := by decide +kernel
theorem dX1_lay_96 : decode cX1_lay 96 = .ok (.isub, 1) := by decide +kernel
theorem dX1_lay_97 : decode cX1_lay 97 = .ok (.istore 7, 2) := by decide +kernel
theorem dX1_lay_99 : decode cX1_lay 99 = .ok (.iload 4, 2) := by decide +kernel
theorem dX1_lay_101 : decode cX1_lay 101 = .ok (.iload 4, 2) := by decide +kernel
theorem dX1_lay_103 : decode cX1_lay 103 = .ok (.imul, 1) := by decide +kernel
theorem dX1_lay_104 : decode cX1_lay 104 = .ok (.iload 5, 2) := by decide +kernel
theorem dX1_lay_106 : decode cX1_lay 106 = .ok (.iload 5, 2) := by decide +kernel
theorem dX1_lay_108 : decode cX1_lay 108 = .ok (.imul, 1) := by decide +kernel
theorem dX1_lay_109 : decode cX1_lay 109 = .ok (.iadd, 1) := by decide +kernel
theorem dX1_lay_110 : decode cX1_lay 110 = .ok (.istore 8, 2) := by decide +kernel
theorem dX1_lay_112 : decode cX1_lay 112 = .ok (.iload 6, 2) := by decide +kernel
theorem dX1_lay_114 : decode cX1_lay 114 = .ok (.iload 6, 2) := by decide +kernel
theorem dX1_lay_116 : decode cX1_lay 116 = .ok (.imul, 1) := by decide +kernel
theorem dX1_lay_117 : decode cX1_lay 117 = .ok (.iload 7, 2) := by decide +kernel
theorem dX1_lay_119 : decode cX1_lay 119 = .ok (.iload 7, 2) := by decide +kernel
theorem dX1_lay_121 : decode cX1_lay 121 = .ok (.imul, 1) := by decide +kernel
theorem dX1_lay_122 : decode cX1_lay 122 = .ok (.iadd, 1) := by decide +kernel
theorem dX1_lay_123 : decode cX1_lay 123 = .ok (.istore 9, 2) := by decide +kernel
theorem dX1_lay_125 : decode cX1_lay 125 = .ok (.iload 4, 2) := by decide +kernel
theorem dX1_lay_127 : decode cX1_lay 127 = .ok (.iload 7, 2) := by decide +kernel
theorem dX1_lay_129 : decode cX1_lay 129 = .ok (.imul, 1) := by decide +kernel
theorem dX1_lay_130 : decode cX1_lay 130 = .ok (.iload 5, 2) := by decide +kernel
theorem dX1_lay_132 : decode cX1_lay 132 = .ok (.iload 6, 2) := by decide +kernel
theorem dX1_lay_134 : decode cX1_lay 134 = .ok (.imul, 1) := by decide +kernel
theorem dX1_lay_135 : decode cX1_lay 135 = .ok (.isub, 1) := by decide +kernel
theorem dX1_lay_136 : decode cX1_lay 136 = .ok (.istore 10, 2) := by decide +kernel
theorem dX1_lay_138 : decode cX1_lay 138 = .ok (.iload 10, 2) := by decide +kernel
theorem dX1_lay_140 : decode cX1_lay 140 = .ok (.ifCond .ge 7, 3) := by decide +kernel
theorem dX1_lay_143 : decode cX1_lay 143 = .ok (.iconst (-1), 1) := by decide +kernel
theorem dX1_lay_144 : decode cX1_lay 144 = .ok (.goto 4, 3) := by decide +kernel
theorem dX1_lay_147 : decode cX1_lay 147 = .ok (.iconst 1, 1) := by decide +kernel
theorem dX1_lay_148 : decode cX1_lay 148 = .ok (.istore 11, 2) := by decide +kernel
theorem dX1_lay_150 : decode cX1_lay 150 = .ok (.aload_n 0, 1) := by decide +kernel
theorem dX1_lay_151 : decode cX1_lay 151 = .ok (.iconst 2, 1) := by decide +kernel
theorem dX1_lay_152 : decode cX1_lay 152 = .ok (.iload 10, 2) := by decide +kernel
theorem dX1_lay_154 : decode cX1_lay 154 = .ok (.imul, 1) := by decide +kernel
theorem dX1_lay_155 : decode cX1_lay 155 = .ok (.iload 11, 2) := by decide +kernel
theorem dX1_lay_157 : decode cX1_lay 157 = .ok (.imul, 1) := by decide +kernel
theorem dX1_lay_158 : decode cX1_lay 158 = .ok (.putfield 34, 3) := by decide +kernel
theorem dX1_lay_161 : decode cX1_lay 161 = .ok (.aload_n 0, 1) := by decide +kernel
theorem dX1_lay_162 : decode cX1_lay 162 = .ok (.aload_n 0, 1) := by decide +kernel
theorem dX1_lay_163 : decode cX1_lay 163 = .ok (.getfield 34, 3) := by decide +kernel
theorem dX1_lay_166 : decode cX1_lay 166 = .ok (.aload_n 0, 1) := by decide +kernel
theorem dX1_lay_167 : decode cX1_lay 167 = .ok (.getfield 9, 3) := by decide +kernel
theorem dX1_lay_170 : decode cX1_lay 170 = .ok (.getfield 25, 3) := by decide +kernel
theorem dX1_lay_173 : decode cX1_lay 173 = .ok (.iload_n 1, 1) := by decide +kernel
theorem dX1_lay_174 : decode cX1_lay 174 = .ok (.iaload, 1) := by decide +kernel
theorem dX1_lay_175 : decode cX1_lay 175 = .ok (.imul, 1) := by decide +kernel
theorem dX1_lay_176 : decode cX1_lay 176 = .ok (.iload 11, 2) := by decide +kernel
theorem dX1_lay_178 : decode cX1_lay 178 = .ok (.iload 7, 2) := by decide +kernel
theorem dX1_lay_180 : decode cX1_lay 180 = .ok (.iload 8, 2) := by decide +kernel
theorem dX1_lay_182 : decode cX1_lay 182 = .ok (.imul, 1) := by decide +kernel
theorem dX1_lay_183 : decode cX1_lay 183 = .ok (.iload 5, 2) := by decide +kernel
theorem dX1_lay_185 : decode cX1_lay 185 = .ok (.iload 9, 2) := by decide +kernel
theorem dX1_lay_187 : decode cX1_lay 187 = .ok (.imul, 1) := by decide +kernel
theorem dX1_lay_188 : decode cX1_lay 188 = .ok (.isub, 1) := by decide +kernel
theorem dX1_lay_189 : decode cX1_lay 189 = .ok (.imul, 1) := by decide +kernel
theorem dX1_lay_190 : decode cX1_lay 190 = .ok (.iadd, 1) := by decide +kernel
theorem dX1_lay_191 : decode cX1_lay 191 = .ok (.putfield 37, 3) := by decide +kernel
theorem dX1_lay_194 : decode cX1_lay 194 = .ok (.aload_n 0, 1) := by decide +kernel
theorem dX1_lay_195 : decode cX1_lay 195 = .ok (.aload_n 0, 1) := by decide +kernel
theorem dX1_lay_196 : decode cX1_lay 196 = .ok (.getfield 34, 3) := by decide +kernel
theorem dX1_lay_199 : decode cX1_lay 199 = .ok (.aload_n 0, 1) := by decide +kernel
theorem dX1_lay_200 : decode cX1_lay 200 = .ok (.getfield 9, 3) := by decide +kernel
theorem dX1_lay_203 : decode cX1_lay 203 = .ok (.getfield 31, 3) := by decide +kernel
theorem dX1_lay_206 : decode cX1_lay 206 = .ok (.iload_n 1, 1) := by decide +kernel
theorem dX1_lay_207 : decode cX1_lay 207 = .ok (.iaload, 1) := by decide +kernel
theorem dX1_lay_208 : decode cX1_lay 208 = .ok (.imul, 1) := by decide +kernel
theorem dX1_lay_209 : decode cX1_lay 209 = .ok (.iload 11, 2) := by decide +kernel
theorem dX1_lay_211 : decode cX1_lay 211 = .ok (.iload 4, 2) := by decide +kernel
theorem dX1_lay_213 : decode cX1_lay 213 = .ok (.iload 9, 2) := by decide +kernel
theorem dX1_lay_215 : decode cX1_lay 215 = .ok (.imul, 1) := by decide +kernel
theorem dX1_lay_216 : decode cX1_lay 216 = .ok (.iload 6, 2) := by decide +kernel
theorem dX1_lay_218 : decode cX1_lay 218 = .ok (.iload 8, 2) := by decide +kernel
theorem dX1_lay_220 : decode cX1_lay 220 = .ok (.imul, 1) := by decide +kernel
theorem dX1_lay_221 : decode cX1_lay 221 = .ok (.isub, 1) := by decide +kernel
theorem dX1_lay_222 : decode cX1_lay 222 = .ok (.imul, 1) := by decide +kernel
theorem dX1_lay_223 : decode cX1_lay 223 = .ok (.iadd, 1) := by decide +kernel
theorem dX1_lay_224 : decode cX1_lay 224 = .ok (.putfield 40, 3) := by decide +kernel
theorem dX1_lay_227 : decode cX1_lay 227 = .ok (.return_, 1) := by decide +kernel
theorem dX1_isLine_0 : decode cX1_isLine 0 = .ok (.aload_n 0, 1) := by decide +kernel
theorem dX1_isLine_1 : decode cX1_isLine 1 = .ok (.getfield 34, 3) := by decide +kernel
theorem dX1_isLine_4 : decode cX1_isLine 4 = .ok (.ifCond .ne 7, 3) := by decide +kernel
theorem dX1_isLine_7 : decode cX1_isLine 7 = .ok (.iconst 1, 1) := by decide +kernel
theorem dX1_isLine_8 : decode cX1_isLine 8 = .ok (.goto 4, 3) := by decide +kernel
theorem dX1_isLine_11 : decode cX1_isLine 11 = .ok (.iconst 0, 1) := by decide +kernel
theorem dX1_isLine_12 : decode cX1_isLine 12 = .ok (.ireturn, 1) := by decide +kernel
set_option maxRecDepth 20000 in
theorem ggX1_cellX_J9_floorDiv_7cf53 : GoodIn wsX1_cellX wsJ9_floorDiv_7cf53 := goodIn_r _ [6] (by decide +kernel) (by decide +kernel)
set_option maxRecDepth 20000 in
theorem gX1_cellX_J9_floorDiv_7cf53 : GoodIn wsX1_cellX (va_wsS RX1 43 yJ9_floorDiv_7cf53 wsJ9_floorDiv_7cf53) := goodIn_app (goodIn_of _ (by decide +kernel)) ggX1_cellX_J9_floorDiv_7cf53
theorem dX1_cellX_0 : decode cX1_cellX 0 = .ok (.aload_n 0, 1) := by decide +kernel
theorem dX1_cellX_1 : decode cX1_cellX 1 = .ok (.getfield 34, 3) := by decide +kernel
theorem dX1_cellX_4 : decode cX1_cellX 4 = .ok (.ifCond .ne 7, 3) := by decide +kernel
theorem dX1_cellX_7 : decode cX1_cellX 7 = .ok (.iconst 0, 1) := by decide +kernel
theorem dX1_cellX_8 : decode cX1_cellX 8 = .ok (.goto 14, 3) := by decide +kernel
theorem dX1_cellX_11 : decode cX1_cellX 11 = .ok (.aload_n 0, 1) := by decide +kernel
theorem dX1_cellX_12 : decode cX1_cellX 12 = .ok (.getfield 37, 3) := by decide +kernel
theorem dX1_cellX_15 : decode cX1_cellX 15 = .ok (.aload_n 0, 1) := by decide +kernel
theorem dX1_cellX_16 : decode cX1_cellX 16 = .ok (.getfield 34, 3) := by decide +kernel
theorem dX1_cellX_19 : decode cX1_cellX 19 = .ok (.invokestatic 43, 3) := by decide +kernel
theorem dX1_cellX_22 : decode cX1_cellX 22 = .ok (.ireturn, 1) := by decide +kernel
set_option maxRecDepth 20000 in
theorem ggX1_cellY_J9_floorDiv_7cf53 : GoodIn wsX1_cellY wsJ9_floorDiv_7cf53 := goodIn_r _ [6] (by decide +kernel) (by decide +kernel)
set_option maxRecDepth 20000 in
theorem gX1_cellY_J9_floorDiv_7cf53 : GoodIn wsX1_cellY (va_wsS RX1 43 yJ9_floorDiv_7cf53 wsJ9_floorDiv_7cf53) := goodIn_app (goodIn_of _ (by decide +kernel)) ggX1_cellY_J9_floorDiv_7cf53
theorem dX1_cellY_0 : decode cX1_cellY 0 = .ok (.aload_n 0, 1) := by decide +kernel
theorem dX1_cellY_1 : decode cX1_cellY 1 = .ok (.getfield 34, 3) := by decide +kernel
theorem dX1_cellY_4 : decode cX1_cellY 4 = .ok (.ifCond .ne 7, 3) := by decide +kernel
theorem dX1_cellY_7 : decode cX1_cellY 7 = .ok (.iconst 0, 1) := by decide +kernel
theorem dX1_cellY_8 : decode cX1_cellY 8 = .ok (.goto 14, 3) := by decide +kernel
theorem dX1_cellY_11 : decode cX1_cellY 11 = .ok (.aload_n 0, 1) := by decide +kernel
theorem dX1_cellY_12 : decode cX1_cellY 12 = .ok (.getfield 40, 3) := by decide +kernel
theorem dX1_cellY_15 : decode cX1_cellY 15 = .ok (.aload_n 0, 1) := by decide +kernel
theorem dX1_cellY_16 : decode cX1_cellY 16 = .ok (.getfield 34, 3) := by decide +kernel
theorem dX1_cellY_19 : decode cX1_cellY 19 = .ok (.invokestatic 43, 3) := by decide +kernel
theorem dX1_cellY_22 : decode cX1_cellY 22 = .ok (.ireturn, 1) := by decide +kernel
set_option maxRecDepth 20000 in
theorem ggX1_radius_X1_rootOf : GoodIn wsX1_radius wsX1_rootOf := goodIn_r _ [11, 12] (by decide +kernel) (by decide +kernel)
set_option maxRecDepth 20000 in
theorem gX1_radius_X1_rootOf : GoodIn wsX1_radius (va_wsS RX1 49 yX1_rootOf wsX1_rootOf) := goodIn_app (goodIn_of _ (by decide +kernel)) ggX1_radius_X1_rootOf
theorem dX1_radius_0 : decode cX1_radius 0 = .ok (.aload_n 0, 1) := by decide +kernel
theorem dX1_radius_1 : decode cX1_radius 1 = .ok (.getfield 34, 3) := by decide +kernel
theorem dX1_radius_4 : decode cX1_radius 4 = .ok (.ifCond .ne 5, 3) := by decide +kernel
theorem dX1_radius_7 : decode cX1_radius 7 = .ok (.iconst 0, 1) := by decide +kernel
theorem dX1_radius_8 : decode cX1_radius 8 = .ok (.ireturn, 1) := by decide +kernel
theorem dX1_radius_9 : decode cX1_radius 9 = .ok (.aload_n 0, 1) := by decide +kernel
theorem dX1_radius_10 : decode cX1_radius 10 = .ok (.getfield 37, 3) := by decide +kernel
theorem dX1_radius_13 : decode cX1_radius 13 = .ok (.aload_n 0, 1) := by decide +kernel
theorem dX1_radius_14 : decode cX1_radius 14 = .ok (.getfield 34, 3) := by decide +kernel
theorem dX1_radius_17 : decode cX1_radius 17 = .ok (.aload_n 0, 1) := by decide +kernel
theorem dX1_radius_18 : decode cX1_radius 18 = .ok (.getfield 9, 3) := by decide +kernel
theorem dX1_radius_21 : decode cX1_radius 21 = .ok (.getfield 25, 3) := by decide +kernel
theorem dX1_radius_24 : decode cX1_radius 24 = .ok (.aload_n 0, 1) := by decide +kernel
theorem dX1_radius_25 : decode cX1_radius 25 = .ok (.getfield 15, 3) := by decide +kernel
theorem dX1_radius_28 : decode cX1_radius 28 = .ok (.iaload, 1) := by decide +kernel
theorem dX1_radius_29 : decode cX1_radius 29 = .ok (.imul, 1) := by decide +kernel
theorem dX1_radius_30 : decode cX1_radius 30 = .ok (.isub, 1) := by decide +kernel
theorem dX1_radius_31 : decode cX1_radius 31 = .ok (.i2l, 1) := by decide +kernel
theorem dX1_radius_32 : decode cX1_radius 32 = .ok (.lstore_n 1, 1) := by decide +kernel
theorem dX1_radius_33 : decode cX1_radius 33 = .ok (.aload_n 0, 1) := by decide +kernel
theorem dX1_radius_34 : decode cX1_radius 34 = .ok (.getfield 40, 3) := by decide +kernel
theorem dX1_radius_37 : decode cX1_radius 37 = .ok (.aload_n 0, 1) := by decide +kernel
theorem dX1_radius_38 : decode cX1_radius 38 = .ok (.getfield 34, 3) := by decide +kernel
theorem dX1_radius_41 : decode cX1_radius 41 = .ok (.aload_n 0, 1) := by decide +kernel
theorem dX1_radius_42 : decode cX1_radius 42 = .ok (.getfield 9, 3) := by decide +kernel
theorem dX1_radius_45 : decode cX1_radius 45 = .ok (.getfield 31, 3) := by decide +kernel
theorem dX1_radius_48 : decode cX1_radius 48 = .ok (.aload_n 0, 1) := by decide +kernel
theorem dX1_radius_49 : decode cX1_radius 49 = .ok (.getfield 15, 3) := by decide +kernel
theorem dX1_radius_52 : decode cX1_radius 52 = .ok (.iaload, 1) := by decide +kernel
theorem dX1_radius_53 : decode cX1_radius 53 = .ok (.imul, 1) := by decide +kernel
theorem dX1_radius_54 : decode cX1_radius 54 = .ok (.isub, 1) := by decide +kernel
theorem dX1_radius_55 : decode cX1_radius 55 = .ok (.i2l, 1) := by decide +kernel
theorem dX1_radius_56 : decode cX1_radius 56 = .ok (.lstore_n 3, 1) := by decide +kernel
theorem dX1_radius_57 : decode cX1_radius 57 = .ok (.lload_n 1, 1) := by decide +kernel
theorem dX1_radius_58 : decode cX1_radius 58 = .ok (.lload_n 1, 1) := by decide +kernel
theorem dX1_radius_59 : decode cX1_radius 59 = .ok (.lmul, 1) := by decide +kernel
theorem dX1_radius_60 : decode cX1_radius 60 = .ok (.lload_n 3, 1) := by decide +kernel
theorem dX1_radius_61 : decode cX1_radius 61 = .ok (.lload_n 3, 1) := by decide +kernel
theorem dX1_radius_62 : decode cX1_radius 62 = .ok (.lmul, 1) := by decide +kernel
theorem dX1_radius_63 : decode cX1_radius 63 = .ok (.ladd, 1) := by decide +kernel
theorem dX1_radius_64 : decode cX1_radius 64 = .ok (.aload_n 0, 1) := by decide +kernel
theorem dX1_radius_65 : decode cX1_radius 65 = .ok (.getfield 34, 3) := by decide +kernel
theorem dX1_radius_68 : decode cX1_radius 68 = .ok (.i2l, 1) := by decide +kernel
theorem dX1_radius_69 : decode cX1_radius 69 = .ok (.aload_n 0, 1) := by decide +kernel
theorem dX1_radius_70 : decode cX1_radius 70 = .ok (.getfield 34, 3) := by decide +kernel
theorem dX1_radius_73 : decode cX1_radius 73 = .ok (.i2l, 1) := by decide +kernel
theorem dX1_radius_74 : decode cX1_radius 74 = .ok (.lmul, 1) := by decide +kernel
theorem dX1_radius_75 : decode cX1_radius 75 = .ok (.ldiv, 1) := by decide +kernel
theorem dX1_radius_76 : decode cX1_radius 76 = .ok (.invokestatic 49, 3) := by decide +kernel
theorem dX1_radius_79 : decode cX1_radius 79 = .ok (.ireturn, 1) := by decide +kernel
set_option maxRecDepth 20000 in
theorem ggX1_agreeing_X0_agrees : GoodIn wsX1_agreeing wsX0_agrees := goodIn_r _ [12, 13, 14, 15, 23, 24, 25, 26, 27, 28, 29, 30, 31, 32, 33] (by decide +kernel) (by decide +kernel)
set_option maxRecDepth 20000 in
theorem gX1_agreeing_X0_agrees : GoodIn wsX1_agreeing (wsV RX1 53 RX0 yX0_agrees wsX0_agrees) := goodIn_app (goodIn_of _ (by decide +kernel)) ggX1_agreeing_X0_agrees
theorem dX1_agreeing_0 : decode cX1_agreeing 0 = .ok (.aload_n 0, 1) := by decide +kernel
theorem dX1_agreeing_1 : decode cX1_agreeing 1 = .ok (.getfield 9, 3) := by decide +kernel
theorem dX1_agreeing_4 : decode cX1_agreeing 4 = .ok (.aload_n 0, 1) := by decide +kernel
theorem dX1_agreeing_5 : decode cX1_agreeing 5 = .ok (.getfield 15, 3) := by decide +kernel
theorem dX1_agreeing_8 : decode cX1_agreeing 8 = .ok (.aload_n 0, 1) := by decide +kernel
theorem dX1_agreeing_9 : decode cX1_agreeing 9 = .ok (.getfield 37, 3) := by decide +kernel
theorem dX1_agreeing_12 : decode cX1_agreeing 12 = .ok (.aload_n 0, 1) := by decide +kernel
theorem dX1_agreeing_13 : decode cX1_agreeing 13 = .ok (.getfield 40, 3) := by decide +kernel
theorem dX1_agreeing_16 : decode cX1_agreeing 16 = .ok (.aload_n 0, 1) := by decide +kernel
theorem dX1_agreeing_17 : decode cX1_agreeing 17 = .ok (.getfield 34, 3) := by decide +kernel
theorem dX1_agreeing_20 : decode cX1_agreeing 20 = .ok (.invokevirtual 53, 3) := by decide +kernel
theorem dX1_agreeing_23 : decode cX1_agreeing 23 = .ok (.ifCond .eq 7, 3) := by decide +kernel
theorem dX1_agreeing_26 : decode cX1_agreeing 26 = .ok (.iconst 1, 1) := by decide +kernel
theorem dX1_agreeing_27 : decode cX1_agreeing 27 = .ok (.goto 4, 3) := by decide +kernel
theorem dX1_agreeing_30 : decode cX1_agreeing 30 = .ok (.iconst 0, 1) := by decide +kernel
theorem dX1_agreeing_31 : decode cX1_agreeing 31 = .ok (.istore_n 1, 1) := by decide +kernel
theorem dX1_agreeing_32 : decode cX1_agreeing 32 = .ok (.iload_n 1, 1) := by decide +kernel
theorem dX1_agreeing_33 : decode cX1_agreeing 33 = .ok (.aload_n 0, 1) := by decide +kernel
theorem dX1_agreeing_34 : decode cX1_agreeing 34 = .ok (.getfield 9, 3) := by decide +kernel
theorem dX1_agreeing_37 : decode cX1_agreeing 37 = .ok (.aload_n 0, 1) := by decide +kernel
theorem dX1_agreeing_38 : decode cX1_agreeing 38 = .ok (.getfield 19, 3) := by decide +kernel
theorem dX1_agreeing_41 : decode cX1_agreeing 41 = .ok (.aload_n 0, 1) := by decide +kernel
theorem dX1_agreeing_42 : decode cX1_agreeing 42 = .ok (.getfield 37, 3) := by decide +kernel
theorem dX1_agreeing_45 : decode cX1_agreeing 45 = .ok (.aload_n 0, 1) := by decide +kernel
theorem dX1_agreeing_46 : decode cX1_agreeing 46 = .ok (.getfield 40, 3) := by decide +kernel
theorem dX1_agreeing_49 : decode cX1_agreeing 49 = .ok (.aload_n 0, 1) := by decide +kernel
theorem dX1_agreeing_50 : decode cX1_agreeing 50 = .ok (.getfield 34, 3) := by decide +kernel
theorem dX1_agreeing_53 : decode cX1_agreeing 53 = .ok (.invokevirtual 53, 3) := by decide +kernel
theorem dX1_agreeing_56 : decode cX1_agreeing 56 = .ok (.ifCond .eq 7, 3) := by decide +kernel
theorem dX1_agreeing_59 : decode cX1_agreeing 59 = .ok (.iconst 1, 1) := by decide +kernel
theorem dX1_agreeing_60 : decode cX1_agreeing 60 = .ok (.goto 4, 3) := by decide +kernel
theorem dX1_agreeing_63 : decode cX1_agreeing 63 = .ok (.iconst 0, 1) := by decide +kernel
theorem dX1_agreeing_64 : decode cX1_agreeing 64 = .ok (.iadd, 1) := by decide +kernel
theorem dX1_agreeing_65 : decode cX1_agreeing 65 = .ok (.istore_n 1, 1) := by decide +kernel
theorem dX1_agreeing_66 : decode cX1_agreeing 66 = .ok (.iload_n 1, 1) := by decide +kernel
theorem dX1_agreeing_67 : decode cX1_agreeing 67 = .ok (.aload_n 0, 1) := by decide +kernel
theorem dX1_agreeing_68 : decode cX1_agreeing 68 = .ok (.getfield 9, 3) := by decide +kernel
theorem dX1_agreeing_71 : decode cX1_agreeing 71 = .ok (.aload_n 0, 1) := by decide +kernel
theorem dX1_agreeing_72 : decode cX1_agreeing 72 = .ok (.getfield 22, 3) := by decide +kernel
theorem dX1_agreeing_75 : decode cX1_agreeing 75 = .ok (.aload_n 0, 1) := by decide +kernel
theorem dX1_agreeing_76 : decode cX1_agreeing 76 = .ok (.getfield 37, 3) := by decide +kernel
theorem dX1_agreeing_79 : decode cX1_agreeing 79 = .ok (.aload_n 0, 1) := by decide +kernel
theorem dX1_agreeing_80 : decode cX1_agreeing 80 = .ok (.getfield 40, 3) := by decide +kernel
theorem dX1_agreeing_83 : decode cX1_agreeing 83 = .ok (.aload_n 0, 1) := by decide +kernel
theorem dX1_agreeing_84 : decode cX1_agreeing 84 = .ok (.getfield 34, 3) := by decide +kernel
theorem dX1_agreeing_87 : decode cX1_agreeing 87 = .ok (.invokevirtual 53, 3) := by decide +kernel
theorem dX1_agreeing_90 : decode cX1_agreeing 90 = .ok (.ifCond .eq 7, 3) := by decide +kernel
theorem dX1_agreeing_93 : decode cX1_agreeing 93 = .ok (.iconst 1, 1) := by decide +kernel
theorem dX1_agreeing_94 : decode cX1_agreeing 94 = .ok (.goto 4, 3) := by decide +kernel
theorem dX1_agreeing_97 : decode cX1_agreeing 97 = .ok (.iconst 0, 1) := by decide +kernel
theorem dX1_agreeing_98 : decode cX1_agreeing 98 = .ok (.iadd, 1) := by decide +kernel
theorem dX1_agreeing_99 : decode cX1_agreeing 99 = .ok (.ireturn, 1) := by decide +kernel
set_option maxRecDepth 20000 in
theorem ggX1_vote_X1_isLine : GoodIn wsX1_vote wsX1_isLine := goodIn_r _ [8, 9, 58, 59, 60, 61, 62, 63, 64] (by decide +kernel) (by decide +kernel)
set_option maxRecDepth 20000 in
theorem gX1_vote_X1_isLine : GoodIn wsX1_vote (wsV RX1 57 RX1 yX1_isLine wsX1_isLine) := goodIn_app (goodIn_of _ (by decide +kernel)) ggX1_vote_X1_isLine
set_option maxRecDepth 20000 in
theorem ggX1_vote_X1_cellX : GoodIn wsX1_vote wsX1_cellX := goodIn_r _ [13, 9, 14, 15, 16, 17, 18, 58, 59, 60, 61, 62, 63, 64] (by decide +kernel) (by decide +kernel)
set_option maxRecDepth 20000 in
theorem gX1_vote_X1_cellX : GoodIn wsX1_vote (wsV RX1 61 RX1 yX1_cellX wsX1_cellX) := goodIn_app (goodIn_of _ (by decide +kernel)) ggX1_vote_X1_cellX
set_option maxRecDepth 20000 in
theorem ggX1_vote_X1_cellY : GoodIn wsX1_vote wsX1_cellY := goodIn_r _ [22, 9, 23, 15, 16, 17, 18, 58, 59, 60, 61, 62, 63, 64] (by decide +kernel) (by decide +kernel)
set_option maxRecDepth 20000 in
theorem gX1_vote_X1_cellY : GoodIn wsX1_vote (wsV RX1 65 RX1 yX1_cellY wsX1_cellY) := goodIn_app (goodIn_of _ (by decide +kernel)) ggX1_vote_X1_cellY
set_option maxRecDepth 20000 in
theorem ggX1_vote_X0_holds : GoodIn wsX1_vote wsX0_holds := goodIn_r _ [28, 29, 30, 65, 66, 67, 68, 69, 70, 71, 72, 73, 74, 75] (by decide +kernel) (by decide +kernel)
set_option maxRecDepth 20000 in
theorem gX1_vote_X0_holds : GoodIn wsX1_vote (wsV RX1 68 RX0 yX0_holds wsX0_holds) := goodIn_app (goodIn_of _ (by decide +kernel)) ggX1_vote_X0_holds
set_option maxRecDepth 20000 in
theorem ggX1_vote_X1_agreeing : GoodIn wsX1_vote wsX1_agreeing := goodIn_r _ [34, 1, 35, 14, 23, 9, 36, 37, 38, 39, 40, 27, 41, 42, 43, 44, 58, 59, 60, 61, 62, 63, 64, 65, 66, 67, 68, 69, 70, 71, 72, 73, 74, 75] (by decide +kernel) (by decide +kernel)
set_option maxRecDepth 20000 in
theorem gX1_vote_X1_agreeing : GoodIn wsX1_vote (wsV RX1 72 RX1 yX1_agreeing wsX1_agreeing) := goodIn_app (goodIn_of _ (by decide +kernel)) ggX1_vote_X1_agreeing
set_option maxRecDepth 20000 in
theorem ggX1_vote_X1_radius : GoodIn wsX1_vote wsX1_radius := goodIn_r _ [48, 9, 14, 1, 49, 35, 23, 50, 51, 52, 7, 53, 54, 58, 59, 60, 61, 62, 63, 64, 65, 66, 67, 68, 69, 70, 71, 72, 73, 74, 75] (by decide +kernel) (by decide +kernel)
set_option maxRecDepth 20000 in
theorem gX1_vote_X1_radius : GoodIn wsX1_vote (wsV RX1 75 RX1 yX1_radius wsX1_radius) := goodIn_app (goodIn_of _ (by decide +kernel)) ggX1_vote_X1_radius
set_option maxRecDepth 20000 in
theorem ggX1_vote_X6_keyOf : GoodIn wsX1_vote wsX6_keyOf := goodIn_r _ [57] (by decide +kernel) (by decide +kernel)
set_option maxRecDepth 20000 in
theorem gX1_vote_X6_keyOf_n84 : GoodIn wsX1_vote (wsX6_keyOf) := ggX1_vote_X6_keyOf
theorem dX1_vote_0 : decode cX1_vote 0 = .ok (.aload_n 0, 1) := by decide +kernel
theorem dX1_vote_1 : decode cX1_vote 1 = .ok (.invokevirtual 57, 3) := by decide +kernel
theorem dX1_vote_4 : decode cX1_vote 4 = .ok (.ifCond .eq 5, 3) := by decide +kernel
theorem dX1_vote_7 : decode cX1_vote 7 = .ok (.iconst (-1), 1) := by decide +kernel
theorem dX1_vote_8 : decode cX1_vote 8 = .ok (.ireturn, 1) := by decide +kernel
theorem dX1_vote_9 : decode cX1_vote 9 = .ok (.aload_n 0, 1) := by decide +kernel
theorem dX1_vote_10 : decode cX1_vote 10 = .ok (.invokevirtual 61, 3) := by decide +kernel
theorem dX1_vote_13 : decode cX1_vote 13 = .ok (.istore_n 1, 1) := by decide +kernel
theorem dX1_vote_14 : decode cX1_vote 14 = .ok (.aload_n 0, 1) := by decide +kernel
theorem dX1_vote_15 : decode cX1_vote 15 = .ok (.invokevirtual 65, 3) := by decide +kernel
theorem dX1_vote_18 : decode cX1_vote 18 = .ok (.istore_n 2, 1) := by decide +kernel
theorem dX1_vote_19 : decode cX1_vote 19 = .ok (.aload_n 0, 1) := by decide +kernel
theorem dX1_vote_20 : decode cX1_vote 20 = .ok (.getfield 9, 3) := by decide +kernel
theorem dX1_vote_23 : decode cX1_vote 23 = .ok (.iload_n 1, 1) := by decide +kernel
theorem dX1_vote_24 : decode cX1_vote 24 = .ok (.iload_n 2, 1) := by decide +kernel
theorem dX1_vote_25 : decode cX1_vote 25 = .ok (.invokevirtual 68, 3) := by decide +kernel
theorem dX1_vote_28 : decode cX1_vote 28 = .ok (.ifCond .eq 11, 3) := by decide +kernel
theorem dX1_vote_31 : decode cX1_vote 31 = .ok (.aload_n 0, 1) := by decide +kernel
theorem dX1_vote_32 : decode cX1_vote 32 = .ok (.invokevirtual 72, 3) := by decide +kernel
theorem dX1_vote_35 : decode cX1_vote 35 = .ok (.iconst 3, 1) := by decide +kernel
theorem dX1_vote_36 : decode cX1_vote 36 = .ok (.if_icmp .ge 5, 3) := by decide +kernel
theorem dX1_vote_39 : decode cX1_vote 39 = .ok (.iconst (-1), 1) := by decide +kernel
theorem dX1_vote_40 : decode cX1_vote 40 = .ok (.ireturn, 1) := by decide +kernel
theorem dX1_vote_41 : decode cX1_vote 41 = .ok (.aload_n 0, 1) := by decide +kernel
theorem dX1_vote_42 : decode cX1_vote 42 = .ok (.invokevirtual 75, 3) := by decide +kernel
theorem dX1_vote_45 : decode cX1_vote 45 = .ok (.istore_n 3, 1) := by decide +kernel
theorem dX1_vote_46 : decode cX1_vote 46 = .ok (.iload_n 3, 1) := by decide +kernel
theorem dX1_vote_47 : decode cX1_vote 47 = .ok (.aload_n 0, 1) := by decide +kernel
theorem dX1_vote_48 : decode cX1_vote 48 = .ok (.getfield 9, 3) := by decide +kernel
theorem dX1_vote_51 : decode cX1_vote 51 = .ok (.getfield 78, 3) := by decide +kernel
theorem dX1_vote_54 : decode cX1_vote 54 = .ok (.if_icmp .lt 14, 3) := by decide +kernel
theorem dX1_vote_57 : decode cX1_vote 57 = .ok (.iload_n 3, 1) := by decide +kernel
theorem dX1_vote_58 : decode cX1_vote 58 = .ok (.aload_n 0, 1) := by decide +kernel
theorem dX1_vote_59 : decode cX1_vote 59 = .ok (.getfield 9, 3) := by decide +kernel
theorem dX1_vote_62 : decode cX1_vote 62 = .ok (.getfield 81, 3) := by decide +kernel
theorem dX1_vote_65 : decode cX1_vote 65 = .ok (.if_icmp .le 7, 3) := by decide +kernel
theorem dX1_vote_68 : decode cX1_vote 68 = .ok (.iconst (-1), 1) := by decide +kernel
theorem dX1_vote_69 : decode cX1_vote 69 = .ok (.goto 9, 3) := by decide +kernel
theorem dX1_vote_72 : decode cX1_vote 72 = .ok (.iload_n 1, 1) := by decide +kernel
theorem dX1_vote_73 : decode cX1_vote 73 = .ok (.iload_n 2, 1) := by decide +kernel
theorem dX1_vote_74 : decode cX1_vote 74 = .ok (.iload_n 3, 1) := by decide +kernel
theorem dX1_vote_75 : decode cX1_vote 75 = .ok (.invokestatic 84, 3) := by decide +kernel
theorem dX1_vote_78 : decode cX1_vote 78 = .ok (.ireturn, 1) := by decide +kernel
theorem dX1_rootOf_0 : decode cX1_rootOf 0 = .ok (.lconst 0, 1) := by decide +kernel
theorem dX1_rootOf_1 : decode cX1_rootOf 1 = .ok (.lstore_n 2, 1) := by decide +kernel
theorem dX1_rootOf_2 : decode cX1_rootOf 2 = .ok (.ldc2_w 88, 3) := by decide +kernel
theorem dX1_rootOf_5 : decode cX1_rootOf 5 = .ok (.lstore 4, 2) := by decide +kernel
theorem dX1_rootOf_7 : decode cX1_rootOf 7 = .ok (.lload 4, 2) := by decide +kernel
theorem dX1_rootOf_9 : decode cX1_rootOf 9 = .ok (.lconst 0, 1) := by decide +kernel
theorem dX1_rootOf_10 : decode cX1_rootOf 10 = .ok (.lcmp, 1) := by decide +kernel
theorem dX1_rootOf_11 : decode cX1_rootOf 11 = .ok (.ifCond .le 31, 3) := by decide +kernel
theorem dX1_rootOf_14 : decode cX1_rootOf 14 = .ok (.lload_n 2, 1) := by decide +kernel
theorem dX1_rootOf_15 : decode cX1_rootOf 15 = .ok (.lload 4, 2) := by decide +kernel
theorem dX1_rootOf_17 : decode cX1_rootOf 17 = .ok (.ladd, 1) := by decide +kernel
theorem dX1_rootOf_18 : decode cX1_rootOf 18 = .ok (.lload_n 2, 1) := by decide +kernel
theorem dX1_rootOf_19 : decode cX1_rootOf 19 = .ok (.lload 4, 2) := by decide +kernel
theorem dX1_rootOf_21 : decode cX1_rootOf 21 = .ok (.ladd, 1) := by decide +kernel
theorem dX1_rootOf_22 : decode cX1_rootOf 22 = .ok (.lmul, 1) := by decide +kernel
theorem dX1_rootOf_23 : decode cX1_rootOf 23 = .ok (.lload_n 0, 1) := by decide +kernel
theorem dX1_rootOf_24 : decode cX1_rootOf 24 = .ok (.lcmp, 1) := by decide +kernel
theorem dX1_rootOf_25 : decode cX1_rootOf 25 = .ok (.ifCond .gt 8, 3) := by decide +kernel
theorem dX1_rootOf_28 : decode cX1_rootOf 28 = .ok (.lload_n 2, 1) := by decide +kernel
theorem dX1_rootOf_29 : decode cX1_rootOf 29 = .ok (.lload 4, 2) := by decide +kernel
theorem dX1_rootOf_31 : decode cX1_rootOf 31 = .ok (.ladd, 1) := by decide +kernel
theorem dX1_rootOf_32 : decode cX1_rootOf 32 = .ok (.lstore_n 2, 1) := by decide +kernel
theorem dX1_rootOf_33 : decode cX1_rootOf 33 = .ok (.lload 4, 2) := by decide +kernel
theorem dX1_rootOf_35 : decode cX1_rootOf 35 = .ok (.iconst 1, 1) := by decide +kernel
theorem dX1_rootOf_36 : decode cX1_rootOf 36 = .ok (.lshr, 1) := by decide +kernel
theorem dX1_rootOf_37 : decode cX1_rootOf 37 = .ok (.lstore 4, 2) := by decide +kernel
theorem dX1_rootOf_39 : decode cX1_rootOf 39 = .ok (.goto (-32), 3) := by decide +kernel
theorem dX1_rootOf_42 : decode cX1_rootOf 42 = .ok (.lload_n 2, 1) := by decide +kernel
theorem dX1_rootOf_43 : decode cX1_rootOf 43 = .ok (.l2i, 1) := by decide +kernel
theorem dX1_rootOf_44 : decode cX1_rootOf 44 = .ok (.ireturn, 1) := by decide +kernel
set_option maxRecDepth 20000 in
theorem ggX2_init_X0_init : GoodIn wsX2_init wsX0_init := goodIn_r _ [11, 12, 2, 3, 4, 13, 14, 15, 23, 24, 25, 26, 27, 28, 29, 30, 31, 32, 33] (by decide +kernel) (by decide +kernel)
set_option maxRecDepth 20000 in
theorem gX2_init_X0_init_n17 : GoodIn wsX2_init (wsX0_init) := ggX2_init_X0_init
theorem dX2_init_0 : decode cX2_init 0 = .ok (.aload_n 0, 1) := by decide +kernel
theorem dX2_init_1 : decode cX2_init 1 = .ok (.invokespecial 3, 3) := by decide +kernel
theorem dX2_init_4 : decode cX2_init 4 = .ok (.aload_n 0, 1) := by decide +kernel
theorem dX2_init_5 : decode cX2_init 5 = .ok (.bipush 50, 2) := by decide +kernel
theorem dX2_init_7 : decode cX2_init 7 = .ok (.newarray .int, 2) := by decide +kernel
theorem dX2_init_9 : decode cX2_init 9 = .ok (.putfield 9, 3) := by decide +kernel
theorem dX2_init_12 : decode cX2_init 12 = .ok (.aload_n 0, 1) := by decide +kernel
theorem dX2_init_13 : decode cX2_init 13 = .ok (.new 15, 3) := by decide +kernel
theorem dX2_init_16 : decode cX2_init 16 = .ok (.dup, 1) := by decide +kernel
theorem dX2_init_17 : decode cX2_init 17 = .ok (.invokespecial 17, 3) := by decide +kernel
theorem dX2_init_20 : decode cX2_init 20 = .ok (.putfield 18, 3) := by decide +kernel
theorem dX2_init_23 : decode cX2_init 23 = .ok (.return_, 1) := by decide +kernel
theorem dX2_put_0 : decode cX2_put 0 = .ok (.aload_n 0, 1) := by decide +kernel
theorem dX2_put_1 : decode cX2_put 1 = .ok (.getfield 22, 3) := by decide +kernel
theorem dX2_put_4 : decode cX2_put 4 = .ok (.bipush 50, 2) := by decide +kernel
theorem dX2_put_6 : decode cX2_put 6 = .ok (.if_icmp .ge 23, 3) := by decide +kernel
theorem dX2_put_9 : decode cX2_put 9 = .ok (.aload_n 0, 1) := by decide +kernel
theorem dX2_put_10 : decode cX2_put 10 = .ok (.getfield 9, 3) := by decide +kernel
theorem dX2_put_13 : decode cX2_put 13 = .ok (.aload_n 0, 1) := by decide +kernel
theorem dX2_put_14 : decode cX2_put 14 = .ok (.getfield 22, 3) := by decide +kernel
theorem dX2_put_17 : decode cX2_put 17 = .ok (.iload_n 1, 1) := by decide +kernel
theorem dX2_put_18 : decode cX2_put 18 = .ok (.iastore, 1) := by decide +kernel
theorem dX2_put_19 : decode cX2_put 19 = .ok (.aload_n 0, 1) := by decide +kernel
theorem dX2_put_20 : decode cX2_put 20 = .ok (.dup, 1) := by decide +kernel
theorem dX2_put_21 : decode cX2_put 21 = .ok (.getfield 22, 3) := by decide +kernel
theorem dX2_put_24 : decode cX2_put 24 = .ok (.iconst 1, 1) := by decide +kernel
theorem dX2_put_25 : decode cX2_put 25 = .ok (.iadd, 1) := by decide +kernel
theorem dX2_put_26 : decode cX2_put 26 = .ok (.putfield 22, 3) := by decide +kernel
theorem dX2_put_29 : decode cX2_put 29 = .ok (.return_, 1) := by decide +kernel
set_option maxRecDepth 20000 in
theorem ggX2_isSheet_X2_read : GoodIn wsX2_isSheet wsX2_read := goodIn_r _ [7, 8, 2, 1, 9, 10, 11, 12, 13, 14, 15, 16, 17, 18, 19, 20, 21, 22, 23, 24, 25, 6, 26, 27, 28, 29, 30, 31, 32, 33, 34, 35, 36, 37, 38, 39, 40, 41, 42, 43, 44, 45, 46, 47, 48, 49, 50, 51, 52, 53, 54, 55, 56, 57, 58, 59, 60, 61, 62, 63, 64, 65, 66, 67, 68, 69, 70, 71, 72, 73, 74, 75, 76, 77, 78, 79, 80, 81, 82, 83, 84, 85, 86, 87, 88, 89, 90, 91, 92, 93, 94, 95, 96, 97, 98] (by decide +kernel) (by decide +kernel)
set_option maxRecDepth 20000 in
theorem gX2_isSheet_X2_read : GoodIn wsX2_isSheet (wsV RX2 26 RX2 yX2_read wsX2_read) := goodIn_app (goodIn_of _ (by decide +kernel)) ggX2_isSheet_X2_read
theorem dX2_isSheet_0 : decode cX2_isSheet 0 = .ok (.aload_n 0, 1) := by decide +kernel
theorem dX2_isSheet_1 : decode cX2_isSheet 1 = .ok (.invokevirtual 26, 3) := by decide +kernel
theorem dX2_isSheet_4 : decode cX2_isSheet 4 = .ok (.aload_n 0, 1) := by decide +kernel
theorem dX2_isSheet_5 : decode cX2_isSheet 5 = .ok (.getfield 22, 3) := by decide +kernel
theorem dX2_isSheet_8 : decode cX2_isSheet 8 = .ok (.if_icmp .ne 15, 3) := by decide +kernel
theorem dX2_isSheet_11 : decode cX2_isSheet 11 = .ok (.aload_n 0, 1) := by decide +kernel
theorem dX2_isSheet_12 : decode cX2_isSheet 12 = .ok (.getfield 30, 3) := by decide +kernel
theorem dX2_isSheet_15 : decode cX2_isSheet 15 = .ok (.iconst 3, 1) := by decide +kernel
theorem dX2_isSheet_16 : decode cX2_isSheet 16 = .ok (.if_icmp .ne 7, 3) := by decide +kernel
theorem dX2_isSheet_19 : decode cX2_isSheet 19 = .ok (.iconst 1, 1) := by decide +kernel
theorem dX2_isSheet_20 : decode cX2_isSheet 20 = .ok (.goto 4, 3) := by decide +kernel
theorem dX2_isSheet_23 : decode cX2_isSheet 23 = .ok (.iconst 0, 1) := by decide +kernel
theorem dX2_isSheet_24 : decode cX2_isSheet 24 = .ok (.ireturn, 1) := by decide +kernel
set_option maxRecDepth 20000 in
theorem ggX2_read_X0_clear : GoodIn wsX2_read wsX0_clear := goodIn_r _ [9, 10, 11, 12, 13, 14, 15, 16, 17, 84, 85, 86, 87, 88, 89, 90, 91, 92, 93, 94] (by decide +kernel) (by decide +kernel)
set_option maxRecDepth 20000 in
theorem gX2_read_X0_clear : GoodIn wsX2_read (wsV RX2 33 RX0 yX0_clear wsX0_clear) := goodIn_app (goodIn_of _ (by decide +kernel)) ggX2_read_X0_clear
set_option maxRecDepth 20000 in
theorem ggX2_read_X2_takes : GoodIn wsX2_read wsX2_takes := goodIn_r _ [22, 2, 23, 24, 25, 21, 26, 27, 28, 29, 30, 31, 32, 33, 34, 35, 1, 36, 37, 38, 39, 40, 41, 42, 43, 44, 45, 46, 47, 48, 49, 8, 50, 12, 51, 11, 52, 53, 54, 55, 56, 57, 58, 59, 60, 10, 61, 62, 63, 64, 65, 66, 67, 68, 69, 70, 71, 72, 73, 74, 75, 76, 77, 78, 79, 80, 81, 82, 83, 84, 85, 86, 87, 88, 89, 90, 91, 92, 93, 94] (by decide +kernel) (by decide +kernel)
set_option maxRecDepth 20000 in
theorem gX2_read_X2_takes : GoodIn wsX2_read (wsV RX2 36 RX2 yX2_takes wsX2_takes) := goodIn_app (goodIn_of _ (by decide +kernel)) ggX2_read_X2_takes
theorem dX2_read_0 : decode cX2_read 0 = .ok (.aload_n 0, 1) := by decide +kernel
theorem dX2_read_1 : decode cX2_read 1 = .ok (.getfield 18, 3) := by decide +kernel
theorem dX2_read_4 : decode cX2_read 4 = .ok (.invokevirtual 33, 3) := by decide +kernel
theorem dX2_read_7 : decode cX2_read 7 = .ok (.aload_n 0, 1) := by decide +kernel
theorem dX2_read_8 : decode cX2_read 8 = .ok (.iconst 0, 1) := by decide +kernel
theorem dX2_read_9 : decode cX2_read 9 = .ok (.putfield 30, 3) := by decide +kernel
theorem dX2_read_12 : decode cX2_read 12 = .ok (.iconst 0, 1) := by decide +kernel
theorem dX2_read_13 : decode cX2_read 13 = .ok (.istore_n 1, 1) := by decide +kernel
theorem dX2_read_14 : decode cX2_read 14 = .ok (.iload_n 1, 1) := by decide +kernel
theorem dX2_read_15 : decode cX2_read 15 = .ok (.aload_n 0, 1) := by decide +kernel
theorem dX2_read_16 : decode cX2_read 16 = .ok (.getfield 22, 3) := by decide +kernel
theorem dX2_read_19 : decode cX2_read 19 = .ok (.if_icmp .ge 24, 3) := by decide +kernel
theorem dX2_read_22 : decode cX2_read 22 = .ok (.aload_n 0, 1) := by decide +kernel
theorem dX2_read_23 : decode cX2_read 23 = .ok (.aload_n 0, 1) := by decide +kernel
theorem dX2_read_24 : decode cX2_read 24 = .ok (.getfield 9, 3) := by decide +kernel
theorem dX2_read_27 : decode cX2_read 27 = .ok (.iload_n 1, 1) := by decide +kernel
theorem dX2_read_28 : decode cX2_read 28 = .ok (.iaload, 1) := by decide +kernel
theorem dX2_read_29 : decode cX2_read 29 = .ok (.invokevirtual 36, 3) := by decide +kernel
theorem dX2_read_32 : decode cX2_read 32 = .ok (.ifCond .ne 5, 3) := by decide +kernel
theorem dX2_read_35 : decode cX2_read 35 = .ok (.iload_n 1, 1) := by decide +kernel
theorem dX2_read_36 : decode cX2_read 36 = .ok (.ireturn, 1) := by decide +kernel
theorem dX2_read_37 : decode cX2_read 37 = .ok (.iinc 1 1, 3) := by decide +kernel
theorem dX2_read_40 : decode cX2_read 40 = .ok (.goto (-26), 3) := by decide +kernel
theorem dX2_read_43 : decode cX2_read 43 = .ok (.aload_n 0, 1) := by decide +kernel
theorem dX2_read_44 : decode cX2_read 44 = .ok (.getfield 22, 3) := by decide +kernel
theorem dX2_read_47 : decode cX2_read 47 = .ok (.ireturn, 1) := by decide +kernel
set_option maxRecDepth 20000 in
theorem ggX2_takes_X2_takesFirstDigit : GoodIn wsX2_takes wsX2_takesFirstDigit := goodIn_r _ [6, 7, 1, 62, 63, 64, 65, 66, 67, 68] (by decide +kernel) (by decide +kernel)
set_option maxRecDepth 20000 in
theorem gX2_takes_X2_takesFirstDigit : GoodIn wsX2_takes (wsV RX2 40 RX2 yX2_takesFirstDigit wsX2_takesFirstDigit) := goodIn_app (goodIn_of _ (by decide +kernel)) ggX2_takes_X2_takesFirstDigit
set_option maxRecDepth 20000 in
theorem ggX2_takes_X2_takesSecondDigit : GoodIn wsX2_takes wsX2_takesSecondDigit := goodIn_r _ [11, 7, 1, 62, 63, 64, 65, 66, 67, 68] (by decide +kernel) (by decide +kernel)
set_option maxRecDepth 20000 in
theorem gX2_takes_X2_takesSecondDigit : GoodIn wsX2_takes (wsV RX2 43 RX2 yX2_takesSecondDigit wsX2_takesSecondDigit) := goodIn_app (goodIn_of _ (by decide +kernel)) ggX2_takes_X2_takesSecondDigit
set_option maxRecDepth 20000 in
theorem ggX2_takes_X2_takesMark : GoodIn wsX2_takes wsX2_takesMark := goodIn_r _ [15, 16, 17, 7, 1, 18, 62, 63, 64, 65, 66, 67, 68, 69, 70, 71, 72, 73, 74, 75, 76, 77, 78, 79] (by decide +kernel) (by decide +kernel)
set_option maxRecDepth 20000 in
theorem gX2_takes_X2_takesMark : GoodIn wsX2_takes (wsV RX2 46 RX2 yX2_takesMark wsX2_takesMark) := goodIn_app (goodIn_of _ (by decide +kernel)) ggX2_takes_X2_takesMark
set_option maxRecDepth 20000 in
theorem ggX2_takes_X2_valueOf : GoodIn wsX2_takes wsX2_valueOf := goodIn_r _ [21] (by decide +kernel) (by decide +kernel)
set_option maxRecDepth 20000 in
theorem gX2_takes_X2_valueOf : GoodIn wsX2_takes (va_wsS RX2 49 yX2_valueOf wsX2_valueOf) := goodIn_app (goodIn_of _ (by decide +kernel)) ggX2_takes_X2_valueOf
set_option maxRecDepth 20000 in
theorem ggX2_takes_X2_takesAcross : GoodIn wsX2_takes wsX2_takesAcross := goodIn_r _ [25, 16, 17, 26, 27, 1, 28, 29, 30, 31, 32, 33, 34, 35, 62, 63, 64, 65, 66, 67, 68, 69, 70, 71, 72, 73, 74, 75, 76, 77, 78, 79] (by decide +kernel) (by decide +kernel)
set_option maxRecDepth 20000 in
theorem gX2_takes_X2_takesAcross : GoodIn wsX2_takes (wsV RX2 53 RX2 yX2_takesAcross wsX2_takesAcross) := goodIn_app (goodIn_of _ (by decide +kernel)) ggX2_takes_X2_takesAcross
set_option maxRecDepth 20000 in
theorem ggX2_takes_X2_takesDown : GoodIn wsX2_takes wsX2_takesDown := goodIn_r _ [39, 16, 27, 40, 1, 41, 42, 43, 31, 44, 45, 35, 46, 47, 48, 49, 33, 34, 50, 62, 63, 64, 65, 66, 67, 68, 69, 70, 71, 72, 73, 74, 75, 76, 77, 78, 79] (by decide +kernel) (by decide +kernel)
set_option maxRecDepth 20000 in
theorem gX2_takes_X2_takesDown : GoodIn wsX2_takes (wsV RX2 56 RX2 yX2_takesDown wsX2_takesDown) := goodIn_app (goodIn_of _ (by decide +kernel)) ggX2_takes_X2_takesDown
set_option maxRecDepth 20000 in
theorem ggX2_takes_X2_takesTurn : GoodIn wsX2_takes wsX2_takesTurn := goodIn_r _ [54, 1, 16, 27, 40, 55, 56, 57, 31, 58, 33, 34, 50, 59, 60, 42, 43, 44, 45, 35, 61, 47, 48, 49, 62, 63, 64, 65, 66, 67, 68, 69, 70, 71, 72, 73, 74, 75, 76, 77, 78, 79] (by decide +kernel) (by decide +kernel)
set_option maxRecDepth 20000 in
theorem gX2_takes_X2_takesTurn : GoodIn wsX2_takes (wsV RX2 59 RX2 yX2_takesTurn wsX2_takesTurn) := goodIn_app (goodIn_of _ (by decide +kernel)) ggX2_takes_X2_takesTurn
theorem dX2_takes_0 : decode cX2_takes 0 = .ok (.aload_n 0, 1) := by decide +kernel
theorem dX2_takes_1 : decode cX2_takes 1 = .ok (.getfield 30, 3) := by decide +kernel
theorem dX2_takes_4 : decode cX2_takes 4 = .ok (.tableswitch 78 0 4 #[36, 45, 54, 60, 69], 36) := by decide +kernel
theorem dX2_takes_40 : decode cX2_takes 40 = .ok (.aload_n 0, 1) := by decide +kernel
theorem dX2_takes_41 : decode cX2_takes 41 = .ok (.iload_n 1, 1) := by decide +kernel
theorem dX2_takes_42 : decode cX2_takes 42 = .ok (.bipush 48, 2) := by decide +kernel
theorem dX2_takes_44 : decode cX2_takes 44 = .ok (.isub, 1) := by decide +kernel
theorem dX2_takes_45 : decode cX2_takes 45 = .ok (.invokevirtual 40, 3) := by decide +kernel
theorem dX2_takes_48 : decode cX2_takes 48 = .ok (.ireturn, 1) := by decide +kernel
theorem dX2_takes_49 : decode cX2_takes 49 = .ok (.aload_n 0, 1) := by decide +kernel
theorem dX2_takes_50 : decode cX2_takes 50 = .ok (.iload_n 1, 1) := by decide +kernel
theorem dX2_takes_51 : decode cX2_takes 51 = .ok (.bipush 48, 2) := by decide +kernel
theorem dX2_takes_53 : decode cX2_takes 53 = .ok (.isub, 1) := by decide +kernel
theorem dX2_takes_54 : decode cX2_takes 54 = .ok (.invokevirtual 43, 3) := by decide +kernel
theorem dX2_takes_57 : decode cX2_takes 57 = .ok (.ireturn, 1) := by decide +kernel
theorem dX2_takes_58 : decode cX2_takes 58 = .ok (.aload_n 0, 1) := by decide +kernel
theorem dX2_takes_59 : decode cX2_takes 59 = .ok (.iload_n 1, 1) := by decide +kernel
theorem dX2_takes_60 : decode cX2_takes 60 = .ok (.invokevirtual 46, 3) := by decide +kernel
theorem dX2_takes_63 : decode cX2_takes 63 = .ok (.ireturn, 1) := by decide +kernel
theorem dX2_takes_64 : decode cX2_takes 64 = .ok (.aload_n 0, 1) := by decide +kernel
theorem dX2_takes_65 : decode cX2_takes 65 = .ok (.iload_n 1, 1) := by decide +kernel
theorem dX2_takes_66 : decode cX2_takes 66 = .ok (.invokestatic 49, 3) := by decide +kernel
theorem dX2_takes_69 : decode cX2_takes 69 = .ok (.invokevirtual 53, 3) := by decide +kernel
theorem dX2_takes_72 : decode cX2_takes 72 = .ok (.ireturn, 1) := by decide +kernel
theorem dX2_takes_73 : decode cX2_takes 73 = .ok (.aload_n 0, 1) := by decide +kernel
theorem dX2_takes_74 : decode cX2_takes 74 = .ok (.iload_n 1, 1) := by decide +kernel
theorem dX2_takes_75 : decode cX2_takes 75 = .ok (.invokestatic 49, 3) := by decide +kernel
theorem dX2_takes_78 : decode cX2_takes 78 = .ok (.invokevirtual 56, 3) := by decide +kernel
theorem dX2_takes_81 : decode cX2_takes 81 = .ok (.ireturn, 1) := by decide +kernel
theorem dX2_takes_82 : decode cX2_takes 82 = .ok (.aload_n 0, 1) := by decide +kernel
theorem dX2_takes_83 : decode cX2_takes 83 = .ok (.iload_n 1, 1) := by decide +kernel
theorem dX2_takes_84 : decode cX2_takes 84 = .ok (.invokevirtual 59, 3) := by decide +kernel
theorem dX2_takes_87 : decode cX2_takes 87 = .ok (.ireturn, 1) := by decide +kernel
theorem dX2_takesFirstDigit_0 : decode cX2_takesFirstDigit 0 = .ok (.iload_n 1, 1) := by decide +kernel
theorem dX2_takesFirstDigit_1 : decode cX2_takesFirstDigit 1 = .ok (.iconst 1, 1) := by decide +kernel
theorem dX2_takesFirstDigit_2 : decode cX2_takesFirstDigit 2 = .ok (.if_icmp .lt 9, 3) := by decide +kernel
theorem dX2_takesFirstDigit_5 : decode cX2_takesFirstDigit 5 = .ok (.iload_n 1, 1) := by decide +kernel
theorem dX2_takesFirstDigit_6 : decode cX2_takesFirstDigit 6 = .ok (.bipush 9, 2) := by decide +kernel
theorem dX2_takesFirstDigit_8 : decode cX2_takesFirstDigit 8 = .ok (.if_icmp .le 5, 3) := by decide +kernel
theorem dX2_takesFirstDigit_11 : decode cX2_takesFirstDigit 11 = .ok (.iconst 0, 1) := by decide +kernel
theorem dX2_takesFirstDigit_12 : decode cX2_takesFirstDigit 12 = .ok (.ireturn, 1) := by decide +kernel
theorem dX2_takesFirstDigit_13 : decode cX2_takesFirstDigit 13 = .ok (.aload_n 0, 1) := by decide +kernel
theorem dX2_takesFirstDigit_14 : decode cX2_takesFirstDigit 14 = .ok (.iload_n 1, 1) := by decide +kernel
theorem dX2_takesFirstDigit_15 : decode cX2_takesFirstDigit 15 = .ok (.putfield 62, 3) := by decide +kernel
theorem dX2_takesFirstDigit_18 : decode cX2_takesFirstDigit 18 = .ok (.aload_n 0, 1) := by decide +kernel
theorem dX2_takesFirstDigit_19 : decode cX2_takesFirstDigit 19 = .ok (.iload_n 1, 1) := by decide +kernel
theorem dX2_takesFirstDigit_20 : decode cX2_takesFirstDigit 20 = .ok (.iconst 4, 1) := by decide +kernel
theorem dX2_takesFirstDigit_21 : decode cX2_takesFirstDigit 21 = .ok (.if_icmp .ge 7, 3) := by decide +kernel
theorem dX2_takesFirstDigit_24 : decode cX2_takesFirstDigit 24 = .ok (.iconst 1, 1) := by decide +kernel
theorem dX2_takesFirstDigit_25 : decode cX2_takesFirstDigit 25 = .ok (.goto 4, 3) := by decide +kernel
theorem dX2_takesFirstDigit_28 : decode cX2_takesFirstDigit 28 = .ok (.iconst 2, 1) := by decide +kernel
theorem dX2_takesFirstDigit_29 : decode cX2_takesFirstDigit 29 = .ok (.putfield 30, 3) := by decide +kernel
theorem dX2_takesFirstDigit_32 : decode cX2_takesFirstDigit 32 = .ok (.iconst 1, 1) := by decide +kernel
theorem dX2_takesFirstDigit_33 : decode cX2_takesFirstDigit 33 = .ok (.ireturn, 1) := by decide +kernel
theorem dX2_takesSecondDigit_0 : decode cX2_takesSecondDigit 0 = .ok (.iload_n 1, 1) := by decide +kernel
theorem dX2_takesSecondDigit_1 : decode cX2_takesSecondDigit 1 = .ok (.ifCond .lt 23, 3) := by decide +kernel
theorem dX2_takesSecondDigit_4 : decode cX2_takesSecondDigit 4 = .ok (.iload_n 1, 1) := by decide +kernel
theorem dX2_takesSecondDigit_5 : decode cX2_takesSecondDigit 5 = .ok (.bipush 9, 2) := by decide +kernel
theorem dX2_takesSecondDigit_7 : decode cX2_takesSecondDigit 7 = .ok (.if_icmp .gt 17, 3) := by decide +kernel
theorem dX2_takesSecondDigit_10 : decode cX2_takesSecondDigit 10 = .ok (.bipush 10, 2) := by decide +kernel
theorem dX2_takesSecondDigit_12 : decode cX2_takesSecondDigit 12 = .ok (.aload_n 0, 1) := by decide +kernel
theorem dX2_takesSecondDigit_13 : decode cX2_takesSecondDigit 13 = .ok (.getfield 62, 3) := by decide +kernel
theorem dX2_takesSecondDigit_16 : decode cX2_takesSecondDigit 16 = .ok (.imul, 1) := by decide +kernel
theorem dX2_takesSecondDigit_17 : decode cX2_takesSecondDigit 17 = .ok (.iload_n 1, 1) := by decide +kernel
theorem dX2_takesSecondDigit_18 : decode cX2_takesSecondDigit 18 = .ok (.iadd, 1) := by decide +kernel
theorem dX2_takesSecondDigit_19 : decode cX2_takesSecondDigit 19 = .ok (.bipush 31, 2) := by decide +kernel
theorem dX2_takesSecondDigit_21 : decode cX2_takesSecondDigit 21 = .ok (.if_icmp .le 5, 3) := by decide +kernel
theorem dX2_takesSecondDigit_24 : decode cX2_takesSecondDigit 24 = .ok (.iconst 0, 1) := by decide +kernel
theorem dX2_takesSecondDigit_25 : decode cX2_takesSecondDigit 25 = .ok (.ireturn, 1) := by decide +kernel
theorem dX2_takesSecondDigit_26 : decode cX2_takesSecondDigit 26 = .ok (.aload_n 0, 1) := by decide +kernel
theorem dX2_takesSecondDigit_27 : decode cX2_takesSecondDigit 27 = .ok (.bipush 10, 2) := by decide +kernel
theorem dX2_takesSecondDigit_29 : decode cX2_takesSecondDigit 29 = .ok (.aload_n 0, 1) := by decide +kernel
theorem dX2_takesSecondDigit_30 : decode cX2_takesSecondDigit 30 = .ok (.getfield 62, 3) := by decide +kernel
theorem dX2_takesSecondDigit_33 : decode cX2_takesSecondDigit 33 = .ok (.imul, 1) := by decide +kernel
theorem dX2_takesSecondDigit_34 : decode cX2_takesSecondDigit 34 = .ok (.iload_n 1, 1) := by decide +kernel
theorem dX2_takesSecondDigit_35 : decode cX2_takesSecondDigit 35 = .ok (.iadd, 1) := by decide +kernel
theorem dX2_takesSecondDigit_36 : decode cX2_takesSecondDigit 36 = .ok (.putfield 62, 3) := by decide +kernel
theorem dX2_takesSecondDigit_39 : decode cX2_takesSecondDigit 39 = .ok (.aload_n 0, 1) := by decide +kernel
theorem dX2_takesSecondDigit_40 : decode cX2_takesSecondDigit 40 = .ok (.iconst 2, 1) := by decide +kernel
theorem dX2_takesSecondDigit_41 : decode cX2_takesSecondDigit 41 = .ok (.putfield 30, 3) := by decide +kernel
theorem dX2_takesSecondDigit_44 : decode cX2_takesSecondDigit 44 = .ok (.iconst 1, 1) := by decide +kernel
theorem dX2_takesSecondDigit_45 : decode cX2_takesSecondDigit 45 = .ok (.ireturn, 1) := by decide +kernel
theorem dX2_takesMark_0 : decode cX2_takesMark 0 = .ok (.aload_n 0, 1) := by decide +kernel
theorem dX2_takesMark_1 : decode cX2_takesMark 1 = .ok (.getfield 18, 3) := by decide +kernel
theorem dX2_takesMark_4 : decode cX2_takesMark 4 = .ok (.getfield 65, 3) := by decide +kernel
theorem dX2_takesMark_7 : decode cX2_takesMark 7 = .ok (.ifCond .ne 7, 3) := by decide +kernel
theorem dX2_takesMark_10 : decode cX2_takesMark 10 = .ok (.iconst 1, 1) := by decide +kernel
theorem dX2_takesMark_11 : decode cX2_takesMark 11 = .ok (.goto 4, 3) := by decide +kernel
theorem dX2_takesMark_14 : decode cX2_takesMark 14 = .ok (.iconst 0, 1) := by decide +kernel
theorem dX2_takesMark_15 : decode cX2_takesMark 15 = .ok (.istore_n 2, 1) := by decide +kernel
theorem dX2_takesMark_16 : decode cX2_takesMark 16 = .ok (.iload_n 1, 1) := by decide +kernel
theorem dX2_takesMark_17 : decode cX2_takesMark 17 = .ok (.iload_n 2, 1) := by decide +kernel
theorem dX2_takesMark_18 : decode cX2_takesMark 18 = .ok (.ifCond .eq 8, 3) := by decide +kernel
theorem dX2_takesMark_21 : decode cX2_takesMark 21 = .ok (.bipush 120, 2) := by decide +kernel
theorem dX2_takesMark_23 : decode cX2_takesMark 23 = .ok (.goto 5, 3) := by decide +kernel
theorem dX2_takesMark_26 : decode cX2_takesMark 26 = .ok (.bipush 58, 2) := by decide +kernel
theorem dX2_takesMark_28 : decode cX2_takesMark 28 = .ok (.if_icmp .eq 5, 3) := by decide +kernel
theorem dX2_takesMark_31 : decode cX2_takesMark 31 = .ok (.iconst 0, 1) := by decide +kernel
theorem dX2_takesMark_32 : decode cX2_takesMark 32 = .ok (.ireturn, 1) := by decide +kernel
theorem dX2_takesMark_33 : decode cX2_takesMark 33 = .ok (.iload_n 2, 1) := by decide +kernel
theorem dX2_takesMark_34 : decode cX2_takesMark 34 = .ok (.ifCond .eq 22, 3) := by decide +kernel
theorem dX2_takesMark_37 : decode cX2_takesMark 37 = .ok (.aload_n 0, 1) := by decide +kernel
theorem dX2_takesMark_38 : decode cX2_takesMark 38 = .ok (.getfield 18, 3) := by decide +kernel
theorem dX2_takesMark_41 : decode cX2_takesMark 41 = .ok (.aload_n 0, 1) := by decide +kernel
theorem dX2_takesMark_42 : decode cX2_takesMark 42 = .ok (.getfield 62, 3) := by decide +kernel
theorem dX2_takesMark_45 : decode cX2_takesMark 45 = .ok (.putfield 65, 3) := by decide +kernel
theorem dX2_takesMark_48 : decode cX2_takesMark 48 = .ok (.aload_n 0, 1) := by decide +kernel
theorem dX2_takesMark_49 : decode cX2_takesMark 49 = .ok (.iconst 0, 1) := by decide +kernel
theorem dX2_takesMark_50 : decode cX2_takesMark 50 = .ok (.putfield 30, 3) := by decide +kernel
theorem dX2_takesMark_53 : decode cX2_takesMark 53 = .ok (.goto 19, 3) := by decide +kernel
theorem dX2_takesMark_56 : decode cX2_takesMark 56 = .ok (.aload_n 0, 1) := by decide +kernel
theorem dX2_takesMark_57 : decode cX2_takesMark 57 = .ok (.getfield 18, 3) := by decide +kernel
theorem dX2_takesMark_60 : decode cX2_takesMark 60 = .ok (.aload_n 0, 1) := by decide +kernel
theorem dX2_takesMark_61 : decode cX2_takesMark 61 = .ok (.getfield 62, 3) := by decide +kernel
theorem dX2_takesMark_64 : decode cX2_takesMark 64 = .ok (.putfield 68, 3) := by decide +kernel
theorem dX2_takesMark_67 : decode cX2_takesMark 67 = .ok (.aload_n 0, 1) := by decide +kernel
theorem dX2_takesMark_68 : decode cX2_takesMark 68 = .ok (.iconst 3, 1) := by decide +kernel
theorem dX2_takesMark_69 : decode cX2_takesMark 69 = .ok (.putfield 30, 3) := by decide +kernel
theorem dX2_takesMark_72 : decode cX2_takesMark 72 = .ok (.iconst 1, 1) := by decide +kernel
theorem dX2_takesMark_73 : decode cX2_takesMark 73 = .ok (.ireturn, 1) := by decide +kernel
set_option maxRecDepth 20000 in
theorem ggX2_takesAcross_X0_isColumnFull : GoodIn wsX2_takesAcross wsX0_isColumnFull := goodIn_r _ [10, 11, 12, 13, 21, 22, 23, 24, 25, 26, 27, 28, 29, 30, 31] (by decide +kernel) (by decide +kernel)
set_option maxRecDepth 20000 in
theorem gX2_takesAcross_X0_isColumnFull : GoodIn wsX2_takesAcross (wsV RX2 74 RX0 yX0_isColumnFull wsX0_isColumnFull) := goodIn_app (goodIn_of _ (by decide +kernel)) ggX2_takesAcross_X0_isColumnFull
theorem dX2_takesAcross_0 : decode cX2_takesAcross 0 = .ok (.iload_n 1, 1) := by decide +kernel
theorem dX2_takesAcross_1 : decode cX2_takesAcross 1 = .ok (.ifCond .lt 37, 3) := by decide +kernel
theorem dX2_takesAcross_4 : decode cX2_takesAcross 4 = .ok (.iload_n 1, 1) := by decide +kernel
theorem dX2_takesAcross_5 : decode cX2_takesAcross 5 = .ok (.aload_n 0, 1) := by decide +kernel
theorem dX2_takesAcross_6 : decode cX2_takesAcross 6 = .ok (.getfield 18, 3) := by decide +kernel
theorem dX2_takesAcross_9 : decode cX2_takesAcross 9 = .ok (.getfield 65, 3) := by decide +kernel
theorem dX2_takesAcross_12 : decode cX2_takesAcross 12 = .ok (.if_icmp .ge 26, 3) := by decide +kernel
theorem dX2_takesAcross_15 : decode cX2_takesAcross 15 = .ok (.aload_n 0, 1) := by decide +kernel
theorem dX2_takesAcross_16 : decode cX2_takesAcross 16 = .ok (.getfield 18, 3) := by decide +kernel
theorem dX2_takesAcross_19 : decode cX2_takesAcross 19 = .ok (.getfield 71, 3) := by decide +kernel
theorem dX2_takesAcross_22 : decode cX2_takesAcross 22 = .ok (.bipush 14, 2) := by decide +kernel
theorem dX2_takesAcross_24 : decode cX2_takesAcross 24 = .ok (.if_icmp .ge 14, 3) := by decide +kernel
theorem dX2_takesAcross_27 : decode cX2_takesAcross 27 = .ok (.aload_n 0, 1) := by decide +kernel
theorem dX2_takesAcross_28 : decode cX2_takesAcross 28 = .ok (.getfield 18, 3) := by decide +kernel
theorem dX2_takesAcross_31 : decode cX2_takesAcross 31 = .ok (.iload_n 1, 1) := by decide +kernel
theorem dX2_takesAcross_32 : decode cX2_takesAcross 32 = .ok (.invokevirtual 74, 3) := by decide +kernel
theorem dX2_takesAcross_35 : decode cX2_takesAcross 35 = .ok (.ifCond .eq 5, 3) := by decide +kernel
theorem dX2_takesAcross_38 : decode cX2_takesAcross 38 = .ok (.iconst 0, 1) := by decide +kernel
theorem dX2_takesAcross_39 : decode cX2_takesAcross 39 = .ok (.ireturn, 1) := by decide +kernel
theorem dX2_takesAcross_40 : decode cX2_takesAcross 40 = .ok (.aload_n 0, 1) := by decide +kernel
theorem dX2_takesAcross_41 : decode cX2_takesAcross 41 = .ok (.iload_n 1, 1) := by decide +kernel
theorem dX2_takesAcross_42 : decode cX2_takesAcross 42 = .ok (.putfield 77, 3) := by decide +kernel
theorem dX2_takesAcross_45 : decode cX2_takesAcross 45 = .ok (.aload_n 0, 1) := by decide +kernel
theorem dX2_takesAcross_46 : decode cX2_takesAcross 46 = .ok (.iconst 4, 1) := by decide +kernel
theorem dX2_takesAcross_47 : decode cX2_takesAcross 47 = .ok (.putfield 30, 3) := by decide +kernel
theorem dX2_takesAcross_50 : decode cX2_takesAcross 50 = .ok (.iconst 1, 1) := by decide +kernel
theorem dX2_takesAcross_51 : decode cX2_takesAcross 51 = .ok (.ireturn, 1) := by decide +kernel
set_option maxRecDepth 20000 in
theorem ggX2_takesDown_X0_holds : GoodIn wsX2_takesDown wsX0_holds := goodIn_r _ [9, 10, 11, 26, 27, 28, 29, 30, 31, 32, 33, 34, 35, 36] (by decide +kernel) (by decide +kernel)
set_option maxRecDepth 20000 in
theorem gX2_takesDown_X0_holds : GoodIn wsX2_takesDown (wsV RX2 80 RX0 yX0_holds wsX0_holds) := goodIn_app (goodIn_of _ (by decide +kernel)) ggX2_takesDown_X0_holds
set_option maxRecDepth 20000 in
theorem ggX2_takesDown_X0_isTaken : GoodIn wsX2_takesDown wsX0_isTaken := goodIn_r _ [15, 16, 17, 18, 26, 27, 28, 29, 30, 31, 32, 33, 34, 35, 36] (by decide +kernel) (by decide +kernel)
set_option maxRecDepth 20000 in
theorem gX2_takesDown_X0_isTaken : GoodIn wsX2_takesDown (wsV RX2 84 RX0 yX0_isTaken wsX0_isTaken) := goodIn_app (goodIn_of _ (by decide +kernel)) ggX2_takesDown_X0_isTaken
theorem dX2_takesDown_0 : decode cX2_takesDown 0 = .ok (.aload_n 0, 1) := by decide +kernel
theorem dX2_takesDown_1 : decode cX2_takesDown 1 = .ok (.getfield 18, 3) := by decide +kernel
theorem dX2_takesDown_4 : decode cX2_takesDown 4 = .ok (.aload_n 0, 1) := by decide +kernel
theorem dX2_takesDown_5 : decode cX2_takesDown 5 = .ok (.getfield 77, 3) := by decide +kernel
theorem dX2_takesDown_8 : decode cX2_takesDown 8 = .ok (.iload_n 1, 1) := by decide +kernel
theorem dX2_takesDown_9 : decode cX2_takesDown 9 = .ok (.invokevirtual 80, 3) := by decide +kernel
theorem dX2_takesDown_12 : decode cX2_takesDown 12 = .ok (.ifCond .eq 18, 3) := by decide +kernel
theorem dX2_takesDown_15 : decode cX2_takesDown 15 = .ok (.aload_n 0, 1) := by decide +kernel
theorem dX2_takesDown_16 : decode cX2_takesDown 16 = .ok (.getfield 18, 3) := by decide +kernel
theorem dX2_takesDown_19 : decode cX2_takesDown 19 = .ok (.aload_n 0, 1) := by decide +kernel
theorem dX2_takesDown_20 : decode cX2_takesDown 20 = .ok (.getfield 77, 3) := by decide +kernel
theorem dX2_takesDown_23 : decode cX2_takesDown 23 = .ok (.iload_n 1, 1) := by decide +kernel
theorem dX2_takesDown_24 : decode cX2_takesDown 24 = .ok (.invokevirtual 84, 3) := by decide +kernel
theorem dX2_takesDown_27 : decode cX2_takesDown 27 = .ok (.ifCond .eq 5, 3) := by decide +kernel
theorem dX2_takesDown_30 : decode cX2_takesDown 30 = .ok (.iconst 0, 1) := by decide +kernel
theorem dX2_takesDown_31 : decode cX2_takesDown 31 = .ok (.ireturn, 1) := by decide +kernel
theorem dX2_takesDown_32 : decode cX2_takesDown 32 = .ok (.aload_n 0, 1) := by decide +kernel
theorem dX2_takesDown_33 : decode cX2_takesDown 33 = .ok (.iload_n 1, 1) := by decide +kernel
theorem dX2_takesDown_34 : decode cX2_takesDown 34 = .ok (.putfield 87, 3) := by decide +kernel
theorem dX2_takesDown_37 : decode cX2_takesDown 37 = .ok (.aload_n 0, 1) := by decide +kernel
theorem dX2_takesDown_38 : decode cX2_takesDown 38 = .ok (.iconst 5, 1) := by decide +kernel
theorem dX2_takesDown_39 : decode cX2_takesDown 39 = .ok (.putfield 30, 3) := by decide +kernel
theorem dX2_takesDown_42 : decode cX2_takesDown 42 = .ok (.iconst 1, 1) := by decide +kernel
theorem dX2_takesDown_43 : decode cX2_takesDown 43 = .ok (.ireturn, 1) := by decide +kernel
set_option maxRecDepth 20000 in
theorem ggX2_takesTurn_X0_add : GoodIn wsX2_takesTurn wsX0_add := goodIn_r _ [9, 10, 11, 12, 13, 14, 15, 16, 8, 17, 18, 19, 20, 21, 22, 23, 31, 32, 33, 34, 35, 36, 37, 38, 39, 40, 41] (by decide +kernel) (by decide +kernel)
set_option maxRecDepth 20000 in
theorem gX2_takesTurn_X0_add : GoodIn wsX2_takesTurn (wsV RX2 90 RX0 yX0_add wsX0_add) := goodIn_app (goodIn_of _ (by decide +kernel)) ggX2_takesTurn_X0_add
theorem dX2_takesTurn_0 : decode cX2_takesTurn 0 = .ok (.iload_n 1, 1) := by decide +kernel
theorem dX2_takesTurn_1 : decode cX2_takesTurn 1 = .ok (.bipush 45, 2) := by decide +kernel
theorem dX2_takesTurn_3 : decode cX2_takesTurn 3 = .ok (.if_icmp .eq 17, 3) := by decide +kernel
theorem dX2_takesTurn_6 : decode cX2_takesTurn 6 = .ok (.iload_n 1, 1) := by decide +kernel
theorem dX2_takesTurn_7 : decode cX2_takesTurn 7 = .ok (.bipush 48, 2) := by decide +kernel
theorem dX2_takesTurn_9 : decode cX2_takesTurn 9 = .ok (.if_icmp .lt 9, 3) := by decide +kernel
theorem dX2_takesTurn_12 : decode cX2_takesTurn 12 = .ok (.iload_n 1, 1) := by decide +kernel
theorem dX2_takesTurn_13 : decode cX2_takesTurn 13 = .ok (.bipush 55, 2) := by decide +kernel
theorem dX2_takesTurn_15 : decode cX2_takesTurn 15 = .ok (.if_icmp .le 5, 3) := by decide +kernel
theorem dX2_takesTurn_18 : decode cX2_takesTurn 18 = .ok (.iconst 0, 1) := by decide +kernel
theorem dX2_takesTurn_19 : decode cX2_takesTurn 19 = .ok (.ireturn, 1) := by decide +kernel
theorem dX2_takesTurn_20 : decode cX2_takesTurn 20 = .ok (.aload_n 0, 1) := by decide +kernel
theorem dX2_takesTurn_21 : decode cX2_takesTurn 21 = .ok (.iconst 3, 1) := by decide +kernel
theorem dX2_takesTurn_22 : decode cX2_takesTurn 22 = .ok (.putfield 30, 3) := by decide +kernel
theorem dX2_takesTurn_25 : decode cX2_takesTurn 25 = .ok (.aload_n 0, 1) := by decide +kernel
theorem dX2_takesTurn_26 : decode cX2_takesTurn 26 = .ok (.getfield 18, 3) := by decide +kernel
theorem dX2_takesTurn_29 : decode cX2_takesTurn 29 = .ok (.aload_n 0, 1) := by decide +kernel
theorem dX2_takesTurn_30 : decode cX2_takesTurn 30 = .ok (.getfield 77, 3) := by decide +kernel
theorem dX2_takesTurn_33 : decode cX2_takesTurn 33 = .ok (.aload_n 0, 1) := by decide +kernel
theorem dX2_takesTurn_34 : decode cX2_takesTurn 34 = .ok (.getfield 87, 3) := by decide +kernel
theorem dX2_takesTurn_37 : decode cX2_takesTurn 37 = .ok (.iload_n 1, 1) := by decide +kernel
theorem dX2_takesTurn_38 : decode cX2_takesTurn 38 = .ok (.bipush 45, 2) := by decide +kernel
theorem dX2_takesTurn_40 : decode cX2_takesTurn 40 = .ok (.if_icmp .ne 7, 3) := by decide +kernel
theorem dX2_takesTurn_43 : decode cX2_takesTurn 43 = .ok (.iconst (-1), 1) := by decide +kernel
theorem dX2_takesTurn_44 : decode cX2_takesTurn 44 = .ok (.goto 7, 3) := by decide +kernel
theorem dX2_takesTurn_47 : decode cX2_takesTurn 47 = .ok (.iload_n 1, 1) := by decide +kernel
theorem dX2_takesTurn_48 : decode cX2_takesTurn 48 = .ok (.bipush 48, 2) := by decide +kernel
theorem dX2_takesTurn_50 : decode cX2_takesTurn 50 = .ok (.isub, 1) := by decide +kernel
theorem dX2_takesTurn_51 : decode cX2_takesTurn 51 = .ok (.invokevirtual 90, 3) := by decide +kernel
theorem dX2_takesTurn_54 : decode cX2_takesTurn 54 = .ok (.ireturn, 1) := by decide +kernel
theorem dX2_valueOf_0 : decode cX2_valueOf 0 = .ok (.iload_n 0, 1) := by decide +kernel
theorem dX2_valueOf_1 : decode cX2_valueOf 1 = .ok (.bipush 48, 2) := by decide +kernel
theorem dX2_valueOf_3 : decode cX2_valueOf 3 = .ok (.if_icmp .lt 14, 3) := by decide +kernel
theorem dX2_valueOf_6 : decode cX2_valueOf 6 = .ok (.iload_n 0, 1) := by decide +kernel
theorem dX2_valueOf_7 : decode cX2_valueOf 7 = .ok (.bipush 57, 2) := by decide +kernel
theorem dX2_valueOf_9 : decode cX2_valueOf 9 = .ok (.if_icmp .gt 8, 3) := by decide +kernel
theorem dX2_valueOf_12 : decode cX2_valueOf 12 = .ok (.iload_n 0, 1) := by decide +kernel
theorem dX2_valueOf_13 : decode cX2_valueOf 13 = .ok (.bipush 48, 2) := by decide +kernel
theorem dX2_valueOf_15 : decode cX2_valueOf 15 = .ok (.isub, 1) := by decide +kernel
theorem dX2_valueOf_16 : decode cX2_valueOf 16 = .ok (.ireturn, 1) := by decide +kernel
theorem dX2_valueOf_17 : decode cX2_valueOf 17 = .ok (.iload_n 0, 1) := by decide +kernel
theorem dX2_valueOf_18 : decode cX2_valueOf 18 = .ok (.bipush 97, 2) := by decide +kernel
theorem dX2_valueOf_20 : decode cX2_valueOf 20 = .ok (.if_icmp .lt 19, 3) := by decide +kernel
theorem dX2_valueOf_23 : decode cX2_valueOf 23 = .ok (.iload_n 0, 1) := by decide +kernel
theorem dX2_valueOf_24 : decode cX2_valueOf 24 = .ok (.bipush 117, 2) := by decide +kernel
theorem dX2_valueOf_26 : decode cX2_valueOf 26 = .ok (.if_icmp .gt 13, 3) := by decide +kernel
theorem dX2_valueOf_29 : decode cX2_valueOf 29 = .ok (.iload_n 0, 1) := by decide +kernel
theorem dX2_valueOf_30 : decode cX2_valueOf 30 = .ok (.bipush 97, 2) := by decide +kernel
theorem dX2_valueOf_32 : decode cX2_valueOf 32 = .ok (.isub, 1) := by decide +kernel
theorem dX2_valueOf_33 : decode cX2_valueOf 33 = .ok (.bipush 10, 2) := by decide +kernel
theorem dX2_valueOf_35 : decode cX2_valueOf 35 = .ok (.iadd, 1) := by decide +kernel
theorem dX2_valueOf_36 : decode cX2_valueOf 36 = .ok (.goto 4, 3) := by decide +kernel
theorem dX2_valueOf_39 : decode cX2_valueOf 39 = .ok (.iconst (-1), 1) := by decide +kernel
theorem dX2_valueOf_40 : decode cX2_valueOf 40 = .ok (.ireturn, 1) := by decide +kernel
theorem dX3_init_0 : decode cX3_init 0 = .ok (.aload_n 0, 1) := by decide +kernel
theorem dX3_init_1 : decode cX3_init 1 = .ok (.invokespecial 3, 3) := by decide +kernel
theorem dX3_init_4 : decode cX3_init 4 = .ok (.aload_n 0, 1) := by decide +kernel
theorem dX3_init_5 : decode cX3_init 5 = .ok (.bipush 7, 2) := by decide +kernel
theorem dX3_init_7 : decode cX3_init 7 = .ok (.newarray .int, 2) := by decide +kernel
theorem dX3_init_9 : decode cX3_init 9 = .ok (.putfield 9, 3) := by decide +kernel
theorem dX3_init_12 : decode cX3_init 12 = .ok (.aload_n 0, 1) := by decide +kernel
theorem dX3_init_13 : decode cX3_init 13 = .ok (.bipush 7, 2) := by decide +kernel
theorem dX3_init_15 : decode cX3_init 15 = .ok (.newarray .int, 2) := by decide +kernel
theorem dX3_init_17 : decode cX3_init 17 = .ok (.putfield 15, 3) := by decide +kernel
theorem dX3_init_20 : decode cX3_init 20 = .ok (.aload_n 0, 1) := by decide +kernel
theorem dX3_init_21 : decode cX3_init 21 = .ok (.aload_n 1, 1) := by decide +kernel
theorem dX3_init_22 : decode cX3_init 22 = .ok (.putfield 18, 3) := by decide +kernel
theorem dX3_init_25 : decode cX3_init 25 = .ok (.aload_n 0, 1) := by decide +kernel
theorem dX3_init_26 : decode cX3_init 26 = .ok (.aload_n 2, 1) := by decide +kernel
theorem dX3_init_27 : decode cX3_init 27 = .ok (.putfield 22, 3) := by decide +kernel
theorem dX3_init_30 : decode cX3_init 30 = .ok (.aload_n 0, 1) := by decide +kernel
theorem dX3_init_31 : decode cX3_init 31 = .ok (.aload_n 3, 1) := by decide +kernel
theorem dX3_init_32 : decode cX3_init 32 = .ok (.putfield 26, 3) := by decide +kernel
theorem dX3_init_35 : decode cX3_init 35 = .ok (.return_, 1) := by decide +kernel
theorem dX3_drop_0 : decode cX3_drop 0 = .ok (.aload_n 0, 1) := by decide +kernel
theorem dX3_drop_1 : decode cX3_drop 1 = .ok (.iconst 0, 1) := by decide +kernel
theorem dX3_drop_2 : decode cX3_drop 2 = .ok (.putfield 30, 3) := by decide +kernel
theorem dX3_drop_5 : decode cX3_drop 5 = .ok (.aload_n 0, 1) := by decide +kernel
theorem dX3_drop_6 : decode cX3_drop 6 = .ok (.iconst 0, 1) := by decide +kernel
theorem dX3_drop_7 : decode cX3_drop 7 = .ok (.putfield 34, 3) := by decide +kernel
theorem dX3_drop_10 : decode cX3_drop 10 = .ok (.return_, 1) := by decide +kernel
theorem dX3_has_0 : decode cX3_has 0 = .ok (.iload_n 1, 1) := by decide +kernel
theorem dX3_has_1 : decode cX3_has 1 = .ok (.ifCond .lt 15, 3) := by decide +kernel
theorem dX3_has_4 : decode cX3_has 4 = .ok (.iload_n 1, 1) := by decide +kernel
theorem dX3_has_5 : decode cX3_has 5 = .ok (.aload_n 0, 1) := by decide +kernel
theorem dX3_has_6 : decode cX3_has 6 = .ok (.getfield 34, 3) := by decide +kernel
theorem dX3_has_9 : decode cX3_has 9 = .ok (.if_icmp .ge 7, 3) := by decide +kernel
theorem dX3_has_12 : decode cX3_has 12 = .ok (.iconst 1, 1) := by decide +kernel
theorem dX3_has_13 : decode cX3_has 13 = .ok (.goto 4, 3) := by decide +kernel
theorem dX3_has_16 : decode cX3_has 16 = .ok (.iconst 0, 1) := by decide +kernel
theorem dX3_has_17 : decode cX3_has 17 = .ok (.ireturn, 1) := by decide +kernel
set_option maxRecDepth 20000 in
theorem ggX3_keepBest_X3_bestPlace : GoodIn wsX3_keepBest wsX3_bestPlace := goodIn_r _ [13, 6, 14, 8, 15, 16, 17, 18, 19, 20, 21, 22, 23, 12, 24, 3, 25, 26, 27, 28, 29, 30, 31, 32, 33, 34, 35, 36, 37, 38, 39, 40, 41, 42, 43, 44, 45, 46, 47, 48, 49, 50, 51, 52, 53, 54, 55, 56, 57, 58, 59, 60, 61, 62, 63, 64, 65, 66, 67, 68, 69, 81, 82, 83, 84, 85, 86, 87, 88, 89, 90, 70, 71, 72, 73, 74, 75, 76, 77, 78, 79, 80, 91, 92, 93, 94] (by decide +kernel) (by decide +kernel)
set_option maxRecDepth 20000 in
theorem gX3_keepBest_X3_bestPlace : GoodIn wsX3_keepBest (wsV RX3 43 RX3 yX3_bestPlace wsX3_bestPlace) := goodIn_app (goodIn_of _ (by decide +kernel)) ggX3_keepBest_X3_bestPlace
set_option maxRecDepth 20000 in
theorem ggX3_keepBest_X5_keyAt : GoodIn wsX3_keepBest wsX5_keyAt := goodIn_r _ [19, 20, 81, 82, 83, 84, 85, 86, 87, 88, 89, 90] (by decide +kernel) (by decide +kernel)
set_option maxRecDepth 20000 in
theorem gX3_keepBest_X5_keyAt : GoodIn wsX3_keepBest (wsV RX3 47 RX5 yX5_keyAt wsX5_keyAt) := goodIn_app (goodIn_of _ (by decide +kernel)) ggX3_keepBest_X5_keyAt
theorem dX3_keepBest_0 : decode cX3_keepBest 0 = .ok (.aload_n 0, 1) := by decide +kernel
theorem dX3_keepBest_1 : decode cX3_keepBest 1 = .ok (.iconst 1, 1) := by decide +kernel
theorem dX3_keepBest_2 : decode cX3_keepBest 2 = .ok (.putfield 30, 3) := by decide +kernel
theorem dX3_keepBest_5 : decode cX3_keepBest 5 = .ok (.aload_n 0, 1) := by decide +kernel
theorem dX3_keepBest_6 : decode cX3_keepBest 6 = .ok (.iconst 0, 1) := by decide +kernel
theorem dX3_keepBest_7 : decode cX3_keepBest 7 = .ok (.putfield 34, 3) := by decide +kernel
theorem dX3_keepBest_10 : decode cX3_keepBest 10 = .ok (.iconst 1, 1) := by decide +kernel
theorem dX3_keepBest_11 : decode cX3_keepBest 11 = .ok (.aload_n 0, 1) := by decide +kernel
theorem dX3_keepBest_12 : decode cX3_keepBest 12 = .ok (.getfield 18, 3) := by decide +kernel
theorem dX3_keepBest_15 : decode cX3_keepBest 15 = .ok (.getfield 38, 3) := by decide +kernel
theorem dX3_keepBest_18 : decode cX3_keepBest 18 = .ok (.ishl, 1) := by decide +kernel
theorem dX3_keepBest_19 : decode cX3_keepBest 19 = .ok (.iconst 1, 1) := by decide +kernel
theorem dX3_keepBest_20 : decode cX3_keepBest 20 = .ok (.isub, 1) := by decide +kernel
theorem dX3_keepBest_21 : decode cX3_keepBest 21 = .ok (.istore_n 1, 1) := by decide +kernel
theorem dX3_keepBest_22 : decode cX3_keepBest 22 = .ok (.aload_n 0, 1) := by decide +kernel
theorem dX3_keepBest_23 : decode cX3_keepBest 23 = .ok (.getfield 34, 3) := by decide +kernel
theorem dX3_keepBest_26 : decode cX3_keepBest 26 = .ok (.bipush 7, 2) := by decide +kernel
theorem dX3_keepBest_28 : decode cX3_keepBest 28 = .ok (.if_icmp .ge 79, 3) := by decide +kernel
theorem dX3_keepBest_31 : decode cX3_keepBest 31 = .ok (.aload_n 0, 1) := by decide +kernel
theorem dX3_keepBest_32 : decode cX3_keepBest 32 = .ok (.iload_n 1, 1) := by decide +kernel
theorem dX3_keepBest_33 : decode cX3_keepBest 33 = .ok (.invokevirtual 43, 3) := by decide +kernel
theorem dX3_keepBest_36 : decode cX3_keepBest 36 = .ok (.istore_n 2, 1) := by decide +kernel
theorem dX3_keepBest_37 : decode cX3_keepBest 37 = .ok (.iload_n 2, 1) := by decide +kernel
theorem dX3_keepBest_38 : decode cX3_keepBest 38 = .ok (.iconst (-1), 1) := by decide +kernel
theorem dX3_keepBest_39 : decode cX3_keepBest 39 = .ok (.if_icmp .ne 4, 3) := by decide +kernel
theorem dX3_keepBest_42 : decode cX3_keepBest 42 = .ok (.return_, 1) := by decide +kernel
theorem dX3_keepBest_43 : decode cX3_keepBest 43 = .ok (.aload_n 0, 1) := by decide +kernel
theorem dX3_keepBest_44 : decode cX3_keepBest 44 = .ok (.getfield 9, 3) := by decide +kernel
theorem dX3_keepBest_47 : decode cX3_keepBest 47 = .ok (.aload_n 0, 1) := by decide +kernel
theorem dX3_keepBest_48 : decode cX3_keepBest 48 = .ok (.getfield 34, 3) := by decide +kernel
theorem dX3_keepBest_51 : decode cX3_keepBest 51 = .ok (.aload_n 0, 1) := by decide +kernel
theorem dX3_keepBest_52 : decode cX3_keepBest 52 = .ok (.getfield 22, 3) := by decide +kernel
theorem dX3_keepBest_55 : decode cX3_keepBest 55 = .ok (.iload_n 2, 1) := by decide +kernel
theorem dX3_keepBest_56 : decode cX3_keepBest 56 = .ok (.invokevirtual 47, 3) := by decide +kernel
theorem dX3_keepBest_59 : decode cX3_keepBest 59 = .ok (.iastore, 1) := by decide +kernel
theorem dX3_keepBest_60 : decode cX3_keepBest 60 = .ok (.aload_n 0, 1) := by decide +kernel
theorem dX3_keepBest_61 : decode cX3_keepBest 61 = .ok (.getfield 15, 3) := by decide +kernel
theorem dX3_keepBest_64 : decode cX3_keepBest 64 = .ok (.aload_n 0, 1) := by decide +kernel
theorem dX3_keepBest_65 : decode cX3_keepBest 65 = .ok (.getfield 34, 3) := by decide +kernel
theorem dX3_keepBest_68 : decode cX3_keepBest 68 = .ok (.aload_n 0, 1) := by decide +kernel
theorem dX3_keepBest_69 : decode cX3_keepBest 69 = .ok (.getfield 22, 3) := by decide +kernel
theorem dX3_keepBest_72 : decode cX3_keepBest 72 = .ok (.getfield 52, 3) := by decide +kernel
theorem dX3_keepBest_75 : decode cX3_keepBest 75 = .ok (.iload_n 2, 1) := by decide +kernel
theorem dX3_keepBest_76 : decode cX3_keepBest 76 = .ok (.iaload, 1) := by decide +kernel
theorem dX3_keepBest_77 : decode cX3_keepBest 77 = .ok (.iload_n 1, 1) := by decide +kernel
theorem dX3_keepBest_78 : decode cX3_keepBest 78 = .ok (.iand, 1) := by decide +kernel
theorem dX3_keepBest_79 : decode cX3_keepBest 79 = .ok (.iastore, 1) := by decide +kernel
theorem dX3_keepBest_80 : decode cX3_keepBest 80 = .ok (.iload_n 1, 1) := by decide +kernel
theorem dX3_keepBest_81 : decode cX3_keepBest 81 = .ok (.aload_n 0, 1) := by decide +kernel
theorem dX3_keepBest_82 : decode cX3_keepBest 82 = .ok (.getfield 15, 3) := by decide +kernel
theorem dX3_keepBest_85 : decode cX3_keepBest 85 = .ok (.aload_n 0, 1) := by decide +kernel
theorem dX3_keepBest_86 : decode cX3_keepBest 86 = .ok (.getfield 34, 3) := by decide +kernel
theorem dX3_keepBest_89 : decode cX3_keepBest 89 = .ok (.iaload, 1) := by decide +kernel
theorem dX3_keepBest_90 : decode cX3_keepBest 90 = .ok (.iconst (-1), 1) := by decide +kernel
theorem dX3_keepBest_91 : decode cX3_keepBest 91 = .ok (.ixor, 1) := by decide +kernel
theorem dX3_keepBest_92 : decode cX3_keepBest 92 = .ok (.iand, 1) := by decide +kernel
theorem dX3_keepBest_93 : decode cX3_keepBest 93 = .ok (.istore_n 1, 1) := by decide +kernel
theorem dX3_keepBest_94 : decode cX3_keepBest 94 = .ok (.aload_n 0, 1) := by decide +kernel
theorem dX3_keepBest_95 : decode cX3_keepBest 95 = .ok (.dup, 1) := by decide +kernel
theorem dX3_keepBest_96 : decode cX3_keepBest 96 = .ok (.getfield 34, 3) := by decide +kernel
theorem dX3_keepBest_99 : decode cX3_keepBest 99 = .ok (.iconst 1, 1) := by decide +kernel
theorem dX3_keepBest_100 : decode cX3_keepBest 100 = .ok (.iadd, 1) := by decide +kernel
theorem dX3_keepBest_101 : decode cX3_keepBest 101 = .ok (.putfield 34, 3) := by decide +kernel
theorem dX3_keepBest_104 : decode cX3_keepBest 104 = .ok (.goto (-82), 3) := by decide +kernel
theorem dX3_keepBest_107 : decode cX3_keepBest 107 = .ok (.return_, 1) := by decide +kernel
set_option maxRecDepth 20000 in
theorem ggX3_bestPlace_X5_keyAt : GoodIn wsX3_bestPlace wsX5_keyAt := goodIn_r _ [8, 9, 61, 62, 63, 64, 65, 66, 67, 68, 69, 70] (by decide +kernel) (by decide +kernel)
set_option maxRecDepth 20000 in
theorem gX3_bestPlace_X5_keyAt : GoodIn wsX3_bestPlace (wsV RX3 47 RX5 yX5_keyAt wsX5_keyAt) := goodIn_app (goodIn_of _ (by decide +kernel)) ggX3_bestPlace_X5_keyAt
set_option maxRecDepth 20000 in
theorem ggX3_bestPlace_X3_worthOf : GoodIn wsX3_bestPlace wsX3_worthOf := goodIn_r _ [14, 15, 16, 17, 18, 19, 20, 21, 22, 23, 24, 25, 26, 27, 28, 29, 30, 31, 32, 33, 34, 35, 36, 37, 38, 39, 40, 41, 42, 43, 44, 45, 46, 47, 48, 49, 50, 51, 52, 53, 54, 55, 56, 57, 58, 59, 60, 71, 72, 73, 74, 75, 76, 77, 78, 79, 80, 81, 82, 83, 84, 85] (by decide +kernel) (by decide +kernel)
set_option maxRecDepth 20000 in
theorem gX3_bestPlace_X3_worthOf : GoodIn wsX3_bestPlace (wsV RX3 56 RX3 yX3_worthOf wsX3_worthOf) := goodIn_app (goodIn_of _ (by decide +kernel)) ggX3_bestPlace_X3_worthOf
theorem dX3_bestPlace_0 : decode cX3_bestPlace 0 = .ok (.iconst (-1), 1) := by decide +kernel
theorem dX3_bestPlace_1 : decode cX3_bestPlace 1 = .ok (.istore_n 2, 1) := by decide +kernel
theorem dX3_bestPlace_2 : decode cX3_bestPlace 2 = .ok (.iconst 0, 1) := by decide +kernel
theorem dX3_bestPlace_3 : decode cX3_bestPlace 3 = .ok (.istore_n 3, 1) := by decide +kernel
theorem dX3_bestPlace_4 : decode cX3_bestPlace 4 = .ok (.iconst 0, 1) := by decide +kernel
theorem dX3_bestPlace_5 : decode cX3_bestPlace 5 = .ok (.istore 4, 2) := by decide +kernel
theorem dX3_bestPlace_7 : decode cX3_bestPlace 7 = .ok (.iload 4, 2) := by decide +kernel
theorem dX3_bestPlace_9 : decode cX3_bestPlace 9 = .ok (.aload_n 0, 1) := by decide +kernel
theorem dX3_bestPlace_10 : decode cX3_bestPlace 10 = .ok (.getfield 22, 3) := by decide +kernel
theorem dX3_bestPlace_13 : decode cX3_bestPlace 13 = .ok (.getfield 55, 3) := by decide +kernel
theorem dX3_bestPlace_16 : decode cX3_bestPlace 16 = .ok (.if_icmp .ge 48, 3) := by decide +kernel
theorem dX3_bestPlace_19 : decode cX3_bestPlace 19 = .ok (.aload_n 0, 1) := by decide +kernel
theorem dX3_bestPlace_20 : decode cX3_bestPlace 20 = .ok (.aload_n 0, 1) := by decide +kernel
theorem dX3_bestPlace_21 : decode cX3_bestPlace 21 = .ok (.getfield 22, 3) := by decide +kernel
theorem dX3_bestPlace_24 : decode cX3_bestPlace 24 = .ok (.iload 4, 2) := by decide +kernel
theorem dX3_bestPlace_26 : decode cX3_bestPlace 26 = .ok (.invokevirtual 47, 3) := by decide +kernel
theorem dX3_bestPlace_29 : decode cX3_bestPlace 29 = .ok (.aload_n 0, 1) := by decide +kernel
theorem dX3_bestPlace_30 : decode cX3_bestPlace 30 = .ok (.getfield 22, 3) := by decide +kernel
theorem dX3_bestPlace_33 : decode cX3_bestPlace 33 = .ok (.getfield 52, 3) := by decide +kernel
theorem dX3_bestPlace_36 : decode cX3_bestPlace 36 = .ok (.iload 4, 2) := by decide +kernel
theorem dX3_bestPlace_38 : decode cX3_bestPlace 38 = .ok (.iaload, 1) := by decide +kernel
theorem dX3_bestPlace_39 : decode cX3_bestPlace 39 = .ok (.iload_n 1, 1) := by decide +kernel
theorem dX3_bestPlace_40 : decode cX3_bestPlace 40 = .ok (.iand, 1) := by decide +kernel
theorem dX3_bestPlace_41 : decode cX3_bestPlace 41 = .ok (.invokevirtual 56, 3) := by decide +kernel
theorem dX3_bestPlace_44 : decode cX3_bestPlace 44 = .ok (.istore 5, 2) := by decide +kernel
theorem dX3_bestPlace_46 : decode cX3_bestPlace 46 = .ok (.iload 5, 2) := by decide +kernel
theorem dX3_bestPlace_48 : decode cX3_bestPlace 48 = .ok (.iload_n 3, 1) := by decide +kernel
theorem dX3_bestPlace_49 : decode cX3_bestPlace 49 = .ok (.if_icmp .le 9, 3) := by decide +kernel
theorem dX3_bestPlace_52 : decode cX3_bestPlace 52 = .ok (.iload 5, 2) := by decide +kernel
theorem dX3_bestPlace_54 : decode cX3_bestPlace 54 = .ok (.istore_n 3, 1) := by decide +kernel
theorem dX3_bestPlace_55 : decode cX3_bestPlace 55 = .ok (.iload 4, 2) := by decide +kernel
theorem dX3_bestPlace_57 : decode cX3_bestPlace 57 = .ok (.istore_n 2, 1) := by decide +kernel
theorem dX3_bestPlace_58 : decode cX3_bestPlace 58 = .ok (.iinc 4 1, 3) := by decide +kernel
theorem dX3_bestPlace_61 : decode cX3_bestPlace 61 = .ok (.goto (-54), 3) := by decide +kernel
theorem dX3_bestPlace_64 : decode cX3_bestPlace 64 = .ok (.iload_n 2, 1) := by decide +kernel
theorem dX3_bestPlace_65 : decode cX3_bestPlace 65 = .ok (.ireturn, 1) := by decide +kernel
set_option maxRecDepth 20000 in
theorem ggX3_worthOf_J6_bitCount_0f7a4 : GoodIn wsX3_worthOf wsJ6_bitCount_0f7a4 := goodIn_r _ [8, 9, 10, 11] (by decide +kernel) (by decide +kernel)
set_option maxRecDepth 20000 in
theorem gX3_worthOf_J6_bitCount_0f7a4 : GoodIn wsX3_worthOf (va_wsS RX3 60 yJ6_bitCount_0f7a4 wsJ6_bitCount_0f7a4) := goodIn_app (goodIn_of _ (by decide +kernel)) ggX3_worthOf_J6_bitCount_0f7a4
set_option maxRecDepth 20000 in
theorem ggX3_worthOf_X4_from : GoodIn wsX3_worthOf wsX4_from := goodIn_r _ [16, 17, 18, 19, 20, 21, 22, 23, 24, 25, 26, 58, 59, 60, 61] (by decide +kernel) (by decide +kernel)
set_option maxRecDepth 20000 in
theorem gX3_worthOf_X4_from : GoodIn wsX3_worthOf (wsV RX3 68 RX4 yX4_from wsX4_from) := goodIn_app (goodIn_of _ (by decide +kernel)) ggX3_worthOf_X4_from
set_option maxRecDepth 20000 in
theorem ggX3_worthOf_X4_span : GoodIn wsX3_worthOf wsX4_span := goodIn_r _ [30, 31, 32, 33, 34, 35, 15, 36, 37, 17, 38, 18, 39, 6, 7, 8, 9, 10, 11, 58, 59, 60, 61, 47, 48, 49, 50, 51, 52, 53, 54, 55, 56, 57] (by decide +kernel) (by decide +kernel)
set_option maxRecDepth 20000 in
theorem gX3_worthOf_X4_span : GoodIn wsX3_worthOf (wsV RX3 74 RX4 yX4_span wsX4_span) := goodIn_app (goodIn_of _ (by decide +kernel)) ggX3_worthOf_X4_span
theorem dX3_worthOf_0 : decode cX3_worthOf 0 = .ok (.iload_n 2, 1) := by decide +kernel
theorem dX3_worthOf_1 : decode cX3_worthOf 1 = .ok (.invokestatic 60, 3) := by decide +kernel
theorem dX3_worthOf_4 : decode cX3_worthOf 4 = .ok (.istore_n 3, 1) := by decide +kernel
theorem dX3_worthOf_5 : decode cX3_worthOf 5 = .ok (.iload_n 3, 1) := by decide +kernel
theorem dX3_worthOf_6 : decode cX3_worthOf 6 = .ok (.aload_n 0, 1) := by decide +kernel
theorem dX3_worthOf_7 : decode cX3_worthOf 7 = .ok (.getfield 18, 3) := by decide +kernel
theorem dX3_worthOf_10 : decode cX3_worthOf 10 = .ok (.getfield 65, 3) := by decide +kernel
theorem dX3_worthOf_13 : decode cX3_worthOf 13 = .ok (.if_icmp .ge 5, 3) := by decide +kernel
theorem dX3_worthOf_16 : decode cX3_worthOf 16 = .ok (.iconst 0, 1) := by decide +kernel
theorem dX3_worthOf_17 : decode cX3_worthOf 17 = .ok (.ireturn, 1) := by decide +kernel
theorem dX3_worthOf_18 : decode cX3_worthOf 18 = .ok (.aload_n 0, 1) := by decide +kernel
theorem dX3_worthOf_19 : decode cX3_worthOf 19 = .ok (.getfield 26, 3) := by decide +kernel
theorem dX3_worthOf_22 : decode cX3_worthOf 22 = .ok (.iload_n 1, 1) := by decide +kernel
theorem dX3_worthOf_23 : decode cX3_worthOf 23 = .ok (.invokevirtual 68, 3) := by decide +kernel
theorem dX3_worthOf_26 : decode cX3_worthOf 26 = .ok (.aload_n 0, 1) := by decide +kernel
theorem dX3_worthOf_27 : decode cX3_worthOf 27 = .ok (.getfield 26, 3) := by decide +kernel
theorem dX3_worthOf_30 : decode cX3_worthOf 30 = .ok (.iload_n 2, 1) := by decide +kernel
theorem dX3_worthOf_31 : decode cX3_worthOf 31 = .ok (.invokevirtual 74, 3) := by decide +kernel
theorem dX3_worthOf_34 : decode cX3_worthOf 34 = .ok (.istore 4, 2) := by decide +kernel
theorem dX3_worthOf_36 : decode cX3_worthOf 36 = .ok (.iload 4, 2) := by decide +kernel
theorem dX3_worthOf_38 : decode cX3_worthOf 38 = .ok (.aload_n 0, 1) := by decide +kernel
theorem dX3_worthOf_39 : decode cX3_worthOf 39 = .ok (.getfield 18, 3) := by decide +kernel
theorem dX3_worthOf_42 : decode cX3_worthOf 42 = .ok (.getfield 77, 3) := by decide +kernel
theorem dX3_worthOf_45 : decode cX3_worthOf 45 = .ok (.if_icmp .ge 7, 3) := by decide +kernel
theorem dX3_worthOf_48 : decode cX3_worthOf 48 = .ok (.iconst 0, 1) := by decide +kernel
theorem dX3_worthOf_49 : decode cX3_worthOf 49 = .ok (.goto 7, 3) := by decide +kernel
theorem dX3_worthOf_52 : decode cX3_worthOf 52 = .ok (.iload_n 3, 1) := by decide +kernel
theorem dX3_worthOf_53 : decode cX3_worthOf 53 = .ok (.iload 4, 2) := by decide +kernel
theorem dX3_worthOf_55 : decode cX3_worthOf 55 = .ok (.imul, 1) := by decide +kernel
theorem dX3_worthOf_56 : decode cX3_worthOf 56 = .ok (.ireturn, 1) := by decide +kernel
set_option maxRecDepth 20000 in
theorem ggX3_tellOffAnew_X3_tellOff : GoodIn wsX3_tellOffAnew wsX3_tellOff := goodIn_r _ [5, 6, 7, 8, 9, 10, 11, 12, 4, 13, 14, 15, 16, 17, 18, 19, 20, 21, 22, 23, 24, 25, 26, 27, 28, 29, 30, 31, 32, 33, 34, 35, 36, 37, 38, 39, 40, 41, 42, 43, 44, 45, 46, 47, 48, 49, 50, 51, 52, 53, 54, 55, 56, 57, 58, 59, 60, 61, 62, 63, 64, 65, 86, 87, 88, 89, 90, 91, 92, 93, 94, 95, 96, 97, 98, 99, 100, 101, 102, 103, 104, 105, 106, 107] (by decide +kernel) (by decide +kernel)
set_option maxRecDepth 20000 in
theorem gX3_tellOffAnew_X3_tellOff : GoodIn wsX3_tellOffAnew (wsV RX3 80 RX3 yX3_tellOff wsX3_tellOff) := goodIn_app (goodIn_of _ (by decide +kernel)) ggX3_tellOffAnew_X3_tellOff
set_option maxRecDepth 20000 in
theorem ggX3_tellOffAnew_X3_weakest : GoodIn wsX3_tellOffAnew wsX3_weakest := goodIn_r _ [69, 8, 70, 6, 71, 72, 73, 4, 74, 7, 75, 76, 77, 78, 79, 80, 81, 86, 87, 88, 89, 90, 91, 92, 93, 94, 95, 96, 97, 98, 99, 100, 101, 102, 103] (by decide +kernel) (by decide +kernel)
set_option maxRecDepth 20000 in
theorem gX3_tellOffAnew_X3_weakest : GoodIn wsX3_tellOffAnew (wsV RX3 83 RX3 yX3_weakest wsX3_weakest) := goodIn_app (goodIn_of _ (by decide +kernel)) ggX3_tellOffAnew_X3_weakest
set_option maxRecDepth 20000 in
theorem ggX3_tellOffAnew_X3_giveUp : GoodIn wsX3_tellOffAnew wsX3_giveUp := goodIn_r _ [85, 6, 15, 62, 63, 64, 4, 65, 86, 87, 88, 89, 90, 91, 92] (by decide +kernel) (by decide +kernel)
set_option maxRecDepth 20000 in
theorem gX3_tellOffAnew_X3_giveUp : GoodIn wsX3_tellOffAnew (wsV RX3 87 RX3 yX3_giveUp wsX3_giveUp) := goodIn_app (goodIn_of _ (by decide +kernel)) ggX3_tellOffAnew_X3_giveUp
theorem dX3_tellOffAnew_0 : decode cX3_tellOffAnew 0 = .ok (.iconst 0, 1) := by decide +kernel
theorem dX3_tellOffAnew_1 : decode cX3_tellOffAnew 1 = .ok (.istore_n 1, 1) := by decide +kernel
theorem dX3_tellOffAnew_2 : decode cX3_tellOffAnew 2 = .ok (.iload_n 1, 1) := by decide +kernel
theorem dX3_tellOffAnew_3 : decode cX3_tellOffAnew 3 = .ok (.bipush 7, 2) := by decide +kernel
theorem dX3_tellOffAnew_5 : decode cX3_tellOffAnew 5 = .ok (.if_icmp .gt 29, 3) := by decide +kernel
theorem dX3_tellOffAnew_8 : decode cX3_tellOffAnew 8 = .ok (.aload_n 0, 1) := by decide +kernel
theorem dX3_tellOffAnew_9 : decode cX3_tellOffAnew 9 = .ok (.invokevirtual 80, 3) := by decide +kernel
theorem dX3_tellOffAnew_12 : decode cX3_tellOffAnew 12 = .ok (.aload_n 0, 1) := by decide +kernel
theorem dX3_tellOffAnew_13 : decode cX3_tellOffAnew 13 = .ok (.invokevirtual 83, 3) := by decide +kernel
theorem dX3_tellOffAnew_16 : decode cX3_tellOffAnew 16 = .ok (.istore_n 2, 1) := by decide +kernel
theorem dX3_tellOffAnew_17 : decode cX3_tellOffAnew 17 = .ok (.iload_n 2, 1) := by decide +kernel
theorem dX3_tellOffAnew_18 : decode cX3_tellOffAnew 18 = .ok (.iconst (-1), 1) := by decide +kernel
theorem dX3_tellOffAnew_19 : decode cX3_tellOffAnew 19 = .ok (.if_icmp .ne 4, 3) := by decide +kernel
theorem dX3_tellOffAnew_22 : decode cX3_tellOffAnew 22 = .ok (.return_, 1) := by decide +kernel
theorem dX3_tellOffAnew_23 : decode cX3_tellOffAnew 23 = .ok (.aload_n 0, 1) := by decide +kernel
theorem dX3_tellOffAnew_24 : decode cX3_tellOffAnew 24 = .ok (.iload_n 2, 1) := by decide +kernel
theorem dX3_tellOffAnew_25 : decode cX3_tellOffAnew 25 = .ok (.invokevirtual 87, 3) := by decide +kernel
theorem dX3_tellOffAnew_28 : decode cX3_tellOffAnew 28 = .ok (.iinc 1 1, 3) := by decide +kernel
theorem dX3_tellOffAnew_31 : decode cX3_tellOffAnew 31 = .ok (.goto (-29), 3) := by decide +kernel
theorem dX3_tellOffAnew_34 : decode cX3_tellOffAnew 34 = .ok (.return_, 1) := by decide +kernel
set_option maxRecDepth 20000 in
theorem ggX3_tellOff_X3_nearestRing : GoodIn wsX3_tellOff wsX3_nearestRing := goodIn_r _ [9, 1, 10, 11, 12, 13, 14, 15, 16, 17, 18, 19, 20, 21, 22, 23, 24, 25, 26, 27, 28, 29, 30, 31, 32, 33, 34, 35, 36, 37, 38, 39, 40, 41, 42, 43, 44, 45, 46, 47, 48, 49, 50, 51, 52, 53, 54, 55, 56, 57, 62, 63, 64, 65, 66, 67, 68, 80, 81, 82, 83, 69, 70, 71, 72, 73, 74, 75, 76, 77, 78, 79] (by decide +kernel) (by decide +kernel)
set_option maxRecDepth 20000 in
theorem gX3_tellOff_X3_nearestRing : GoodIn wsX3_tellOff (wsV RX3 90 RX3 yX3_nearestRing wsX3_nearestRing) := goodIn_app (goodIn_of _ (by decide +kernel)) ggX3_tellOff_X3_nearestRing
set_option maxRecDepth 20000 in
theorem ggX3_tellOff_X3_has : GoodIn wsX3_tellOff wsX3_has := goodIn_r _ [61, 1, 62, 63, 64, 65, 66, 67, 68] (by decide +kernel) (by decide +kernel)
set_option maxRecDepth 20000 in
theorem gX3_tellOff_X3_has : GoodIn wsX3_tellOff (wsV RX3 93 RX3 yX3_has wsX3_has) := goodIn_app (goodIn_of _ (by decide +kernel)) ggX3_tellOff_X3_has
theorem dX3_tellOff_0 : decode cX3_tellOff 0 = .ok (.iconst 0, 1) := by decide +kernel
theorem dX3_tellOff_1 : decode cX3_tellOff 1 = .ok (.istore_n 1, 1) := by decide +kernel
theorem dX3_tellOff_2 : decode cX3_tellOff 2 = .ok (.iload_n 1, 1) := by decide +kernel
theorem dX3_tellOff_3 : decode cX3_tellOff 3 = .ok (.aload_n 0, 1) := by decide +kernel
theorem dX3_tellOff_4 : decode cX3_tellOff 4 = .ok (.getfield 34, 3) := by decide +kernel
theorem dX3_tellOff_7 : decode cX3_tellOff 7 = .ok (.if_icmp .ge 16, 3) := by decide +kernel
theorem dX3_tellOff_10 : decode cX3_tellOff 10 = .ok (.aload_n 0, 1) := by decide +kernel
theorem dX3_tellOff_11 : decode cX3_tellOff 11 = .ok (.getfield 15, 3) := by decide +kernel
theorem dX3_tellOff_14 : decode cX3_tellOff 14 = .ok (.iload_n 1, 1) := by decide +kernel
theorem dX3_tellOff_15 : decode cX3_tellOff 15 = .ok (.iconst 0, 1) := by decide +kernel
theorem dX3_tellOff_16 : decode cX3_tellOff 16 = .ok (.iastore, 1) := by decide +kernel
theorem dX3_tellOff_17 : decode cX3_tellOff 17 = .ok (.iinc 1 1, 3) := by decide +kernel
theorem dX3_tellOff_20 : decode cX3_tellOff 20 = .ok (.goto (-18), 3) := by decide +kernel
theorem dX3_tellOff_23 : decode cX3_tellOff 23 = .ok (.iconst 0, 1) := by decide +kernel
theorem dX3_tellOff_24 : decode cX3_tellOff 24 = .ok (.istore_n 1, 1) := by decide +kernel
theorem dX3_tellOff_25 : decode cX3_tellOff 25 = .ok (.iload_n 1, 1) := by decide +kernel
theorem dX3_tellOff_26 : decode cX3_tellOff 26 = .ok (.aload_n 0, 1) := by decide +kernel
theorem dX3_tellOff_27 : decode cX3_tellOff 27 = .ok (.getfield 18, 3) := by decide +kernel
theorem dX3_tellOff_30 : decode cX3_tellOff 30 = .ok (.getfield 38, 3) := by decide +kernel
theorem dX3_tellOff_33 : decode cX3_tellOff 33 = .ok (.if_icmp .ge 35, 3) := by decide +kernel
theorem dX3_tellOff_36 : decode cX3_tellOff 36 = .ok (.aload_n 0, 1) := by decide +kernel
theorem dX3_tellOff_37 : decode cX3_tellOff 37 = .ok (.iload_n 1, 1) := by decide +kernel
theorem dX3_tellOff_38 : decode cX3_tellOff 38 = .ok (.invokevirtual 90, 3) := by decide +kernel
theorem dX3_tellOff_41 : decode cX3_tellOff 41 = .ok (.istore_n 2, 1) := by decide +kernel
theorem dX3_tellOff_42 : decode cX3_tellOff 42 = .ok (.aload_n 0, 1) := by decide +kernel
theorem dX3_tellOff_43 : decode cX3_tellOff 43 = .ok (.iload_n 2, 1) := by decide +kernel
theorem dX3_tellOff_44 : decode cX3_tellOff 44 = .ok (.invokevirtual 93, 3) := by decide +kernel
theorem dX3_tellOff_47 : decode cX3_tellOff 47 = .ok (.ifCond .eq 15, 3) := by decide +kernel
theorem dX3_tellOff_50 : decode cX3_tellOff 50 = .ok (.aload_n 0, 1) := by decide +kernel
theorem dX3_tellOff_51 : decode cX3_tellOff 51 = .ok (.getfield 15, 3) := by decide +kernel
theorem dX3_tellOff_54 : decode cX3_tellOff 54 = .ok (.iload_n 2, 1) := by decide +kernel
theorem dX3_tellOff_55 : decode cX3_tellOff 55 = .ok (.dup2, 1) := by decide +kernel
theorem dX3_tellOff_56 : decode cX3_tellOff 56 = .ok (.iaload, 1) := by decide +kernel
theorem dX3_tellOff_57 : decode cX3_tellOff 57 = .ok (.iconst 1, 1) := by decide +kernel
theorem dX3_tellOff_58 : decode cX3_tellOff 58 = .ok (.iload_n 1, 1) := by decide +kernel
theorem dX3_tellOff_59 : decode cX3_tellOff 59 = .ok (.ishl, 1) := by decide +kernel
theorem dX3_tellOff_60 : decode cX3_tellOff 60 = .ok (.ior, 1) := by decide +kernel
theorem dX3_tellOff_61 : decode cX3_tellOff 61 = .ok (.iastore, 1) := by decide +kernel
theorem dX3_tellOff_62 : decode cX3_tellOff 62 = .ok (.iinc 1 1, 3) := by decide +kernel
theorem dX3_tellOff_65 : decode cX3_tellOff 65 = .ok (.goto (-40), 3) := by decide +kernel
theorem dX3_tellOff_68 : decode cX3_tellOff 68 = .ok (.return_, 1) := by decide +kernel
set_option maxRecDepth 20000 in
theorem ggX3_nearestRing_X4_from : GoodIn wsX3_nearestRing wsX4_from := goodIn_r _ [8, 9, 10, 11, 12, 13, 14, 15, 16, 17, 18, 57, 58, 59, 60] (by decide +kernel) (by decide +kernel)
set_option maxRecDepth 20000 in
theorem gX3_nearestRing_X4_from : GoodIn wsX3_nearestRing (wsV RX3 68 RX4 yX4_from wsX4_from) := goodIn_app (goodIn_of _ (by decide +kernel)) ggX3_nearestRing_X4_from
set_option maxRecDepth 20000 in
theorem ggX3_nearestRing_X4_isSupportedBy : GoodIn wsX3_nearestRing wsX4_isSupportedBy := goodIn_r _ [22, 11, 23, 24, 25, 26, 27, 28, 9, 10, 29, 30, 31, 7, 32, 33, 34, 35, 36, 37, 38, 39, 40, 41, 42, 57, 58, 59, 60, 61, 62, 63, 64, 65, 66, 67, 68, 69, 70, 71] (by decide +kernel) (by decide +kernel)
set_option maxRecDepth 20000 in
theorem gX3_nearestRing_X4_isSupportedBy : GoodIn wsX3_nearestRing (wsV RX3 97 RX4 yX4_isSupportedBy wsX4_isSupportedBy) := goodIn_app (goodIn_of _ (by decide +kernel)) ggX3_nearestRing_X4_isSupportedBy
set_option maxRecDepth 20000 in
theorem ggX3_nearestRing_X4_farness : GoodIn wsX3_nearestRing wsX4_farness := goodIn_r _ [46, 11, 47, 48, 27, 49, 29, 30, 31, 7, 32, 23, 33, 9, 34, 10, 57, 58, 59, 60, 61, 62, 63, 64, 65, 66, 67, 68, 69, 70, 71] (by decide +kernel) (by decide +kernel)
set_option maxRecDepth 20000 in
theorem gX3_nearestRing_X4_farness : GoodIn wsX3_nearestRing (wsV RX3 100 RX4 yX4_farness wsX4_farness) := goodIn_app (goodIn_of _ (by decide +kernel)) ggX3_nearestRing_X4_farness
theorem dX3_nearestRing_0 : decode cX3_nearestRing 0 = .ok (.iconst (-1), 1) := by decide +kernel
theorem dX3_nearestRing_1 : decode cX3_nearestRing 1 = .ok (.istore_n 2, 1) := by decide +kernel
theorem dX3_nearestRing_2 : decode cX3_nearestRing 2 = .ok (.iconst 0, 1) := by decide +kernel
theorem dX3_nearestRing_3 : decode cX3_nearestRing 3 = .ok (.istore_n 3, 1) := by decide +kernel
theorem dX3_nearestRing_4 : decode cX3_nearestRing 4 = .ok (.iconst 0, 1) := by decide +kernel
theorem dX3_nearestRing_5 : decode cX3_nearestRing 5 = .ok (.istore 4, 2) := by decide +kernel
theorem dX3_nearestRing_7 : decode cX3_nearestRing 7 = .ok (.iload 4, 2) := by decide +kernel
theorem dX3_nearestRing_9 : decode cX3_nearestRing 9 = .ok (.aload_n 0, 1) := by decide +kernel
theorem dX3_nearestRing_10 : decode cX3_nearestRing 10 = .ok (.getfield 34, 3) := by decide +kernel
theorem dX3_nearestRing_13 : decode cX3_nearestRing 13 = .ok (.if_icmp .ge 63, 3) := by decide +kernel
theorem dX3_nearestRing_16 : decode cX3_nearestRing 16 = .ok (.aload_n 0, 1) := by decide +kernel
theorem dX3_nearestRing_17 : decode cX3_nearestRing 17 = .ok (.getfield 26, 3) := by decide +kernel
theorem dX3_nearestRing_20 : decode cX3_nearestRing 20 = .ok (.aload_n 0, 1) := by decide +kernel
theorem dX3_nearestRing_21 : decode cX3_nearestRing 21 = .ok (.getfield 9, 3) := by decide +kernel
theorem dX3_nearestRing_24 : decode cX3_nearestRing 24 = .ok (.iload 4, 2) := by decide +kernel
theorem dX3_nearestRing_26 : decode cX3_nearestRing 26 = .ok (.iaload, 1) := by decide +kernel
theorem dX3_nearestRing_27 : decode cX3_nearestRing 27 = .ok (.invokevirtual 68, 3) := by decide +kernel
theorem dX3_nearestRing_30 : decode cX3_nearestRing 30 = .ok (.aload_n 0, 1) := by decide +kernel
theorem dX3_nearestRing_31 : decode cX3_nearestRing 31 = .ok (.getfield 26, 3) := by decide +kernel
theorem dX3_nearestRing_34 : decode cX3_nearestRing 34 = .ok (.iload_n 1, 1) := by decide +kernel
theorem dX3_nearestRing_35 : decode cX3_nearestRing 35 = .ok (.invokevirtual 97, 3) := by decide +kernel
theorem dX3_nearestRing_38 : decode cX3_nearestRing 38 = .ok (.ifCond .eq 32, 3) := by decide +kernel
theorem dX3_nearestRing_41 : decode cX3_nearestRing 41 = .ok (.iload_n 2, 1) := by decide +kernel
theorem dX3_nearestRing_42 : decode cX3_nearestRing 42 = .ok (.iconst (-1), 1) := by decide +kernel
theorem dX3_nearestRing_43 : decode cX3_nearestRing 43 = .ok (.if_icmp .eq 15, 3) := by decide +kernel
theorem dX3_nearestRing_46 : decode cX3_nearestRing 46 = .ok (.aload_n 0, 1) := by decide +kernel
theorem dX3_nearestRing_47 : decode cX3_nearestRing 47 = .ok (.getfield 26, 3) := by decide +kernel
theorem dX3_nearestRing_50 : decode cX3_nearestRing 50 = .ok (.iload_n 1, 1) := by decide +kernel
theorem dX3_nearestRing_51 : decode cX3_nearestRing 51 = .ok (.invokevirtual 100, 3) := by decide +kernel
theorem dX3_nearestRing_54 : decode cX3_nearestRing 54 = .ok (.iload_n 3, 1) := by decide +kernel
theorem dX3_nearestRing_55 : decode cX3_nearestRing 55 = .ok (.if_icmp .ge 15, 3) := by decide +kernel
theorem dX3_nearestRing_58 : decode cX3_nearestRing 58 = .ok (.iload 4, 2) := by decide +kernel
theorem dX3_nearestRing_60 : decode cX3_nearestRing 60 = .ok (.istore_n 2, 1) := by decide +kernel
theorem dX3_nearestRing_61 : decode cX3_nearestRing 61 = .ok (.aload_n 0, 1) := by decide +kernel
theorem dX3_nearestRing_62 : decode cX3_nearestRing 62 = .ok (.getfield 26, 3) := by decide +kernel
theorem dX3_nearestRing_65 : decode cX3_nearestRing 65 = .ok (.iload_n 1, 1) := by decide +kernel
theorem dX3_nearestRing_66 : decode cX3_nearestRing 66 = .ok (.invokevirtual 100, 3) := by decide +kernel
theorem dX3_nearestRing_69 : decode cX3_nearestRing 69 = .ok (.istore_n 3, 1) := by decide +kernel
theorem dX3_nearestRing_70 : decode cX3_nearestRing 70 = .ok (.iinc 4 1, 3) := by decide +kernel
theorem dX3_nearestRing_73 : decode cX3_nearestRing 73 = .ok (.goto (-66), 3) := by decide +kernel
theorem dX3_nearestRing_76 : decode cX3_nearestRing 76 = .ok (.iload_n 2, 1) := by decide +kernel
theorem dX3_nearestRing_77 : decode cX3_nearestRing 77 = .ok (.ireturn, 1) := by decide +kernel
set_option maxRecDepth 20000 in
theorem ggX3_weakest_X3_ownCount : GoodIn wsX3_weakest wsX3_ownCount := goodIn_r _ [8, 9, 10, 11, 12, 13, 14, 15, 16, 17, 18, 19, 20, 21, 22, 23] (by decide +kernel) (by decide +kernel)
set_option maxRecDepth 20000 in
theorem gX3_weakest_X3_ownCount : GoodIn wsX3_weakest (wsV RX3 103 RX3 yX3_ownCount wsX3_ownCount) := goodIn_app (goodIn_of _ (by decide +kernel)) ggX3_weakest_X3_ownCount
theorem dX3_weakest_0 : decode cX3_weakest 0 = .ok (.iconst (-1), 1) := by decide +kernel
theorem dX3_weakest_1 : decode cX3_weakest 1 = .ok (.istore_n 1, 1) := by decide +kernel
theorem dX3_weakest_2 : decode cX3_weakest 2 = .ok (.aload_n 0, 1) := by decide +kernel
theorem dX3_weakest_3 : decode cX3_weakest 3 = .ok (.getfield 18, 3) := by decide +kernel
theorem dX3_weakest_6 : decode cX3_weakest 6 = .ok (.getfield 65, 3) := by decide +kernel
theorem dX3_weakest_9 : decode cX3_weakest 9 = .ok (.iconst 1, 1) := by decide +kernel
theorem dX3_weakest_10 : decode cX3_weakest 10 = .ok (.isub, 1) := by decide +kernel
theorem dX3_weakest_11 : decode cX3_weakest 11 = .ok (.istore_n 2, 1) := by decide +kernel
theorem dX3_weakest_12 : decode cX3_weakest 12 = .ok (.iconst 0, 1) := by decide +kernel
theorem dX3_weakest_13 : decode cX3_weakest 13 = .ok (.istore_n 3, 1) := by decide +kernel
theorem dX3_weakest_14 : decode cX3_weakest 14 = .ok (.iload_n 3, 1) := by decide +kernel
theorem dX3_weakest_15 : decode cX3_weakest 15 = .ok (.aload_n 0, 1) := by decide +kernel
theorem dX3_weakest_16 : decode cX3_weakest 16 = .ok (.getfield 34, 3) := by decide +kernel
theorem dX3_weakest_19 : decode cX3_weakest 19 = .ok (.if_icmp .ge 26, 3) := by decide +kernel
theorem dX3_weakest_22 : decode cX3_weakest 22 = .ok (.aload_n 0, 1) := by decide +kernel
theorem dX3_weakest_23 : decode cX3_weakest 23 = .ok (.iload_n 3, 1) := by decide +kernel
theorem dX3_weakest_24 : decode cX3_weakest 24 = .ok (.invokevirtual 103, 3) := by decide +kernel
theorem dX3_weakest_27 : decode cX3_weakest 27 = .ok (.iload_n 2, 1) := by decide +kernel
theorem dX3_weakest_28 : decode cX3_weakest 28 = .ok (.if_icmp .gt 11, 3) := by decide +kernel
theorem dX3_weakest_31 : decode cX3_weakest 31 = .ok (.iload_n 3, 1) := by decide +kernel
theorem dX3_weakest_32 : decode cX3_weakest 32 = .ok (.istore_n 1, 1) := by decide +kernel
theorem dX3_weakest_33 : decode cX3_weakest 33 = .ok (.aload_n 0, 1) := by decide +kernel
theorem dX3_weakest_34 : decode cX3_weakest 34 = .ok (.iload_n 3, 1) := by decide +kernel
theorem dX3_weakest_35 : decode cX3_weakest 35 = .ok (.invokevirtual 103, 3) := by decide +kernel
theorem dX3_weakest_38 : decode cX3_weakest 38 = .ok (.istore_n 2, 1) := by decide +kernel
theorem dX3_weakest_39 : decode cX3_weakest 39 = .ok (.iinc 3 1, 3) := by decide +kernel
theorem dX3_weakest_42 : decode cX3_weakest 42 = .ok (.goto (-28), 3) := by decide +kernel
theorem dX3_weakest_45 : decode cX3_weakest 45 = .ok (.iload_n 1, 1) := by decide +kernel
theorem dX3_weakest_46 : decode cX3_weakest 46 = .ok (.ireturn, 1) := by decide +kernel
set_option maxRecDepth 20000 in
theorem ggX3_giveUp_X3_has : GoodIn wsX3_giveUp wsX3_has := goodIn_r _ [7, 1, 8, 9, 10, 11, 12, 13, 14] (by decide +kernel) (by decide +kernel)
set_option maxRecDepth 20000 in
theorem gX3_giveUp_X3_has : GoodIn wsX3_giveUp (wsV RX3 93 RX3 yX3_has wsX3_has) := goodIn_app (goodIn_of _ (by decide +kernel)) ggX3_giveUp_X3_has
theorem dX3_giveUp_0 : decode cX3_giveUp 0 = .ok (.aload_n 0, 1) := by decide +kernel
theorem dX3_giveUp_1 : decode cX3_giveUp 1 = .ok (.iload_n 1, 1) := by decide +kernel
theorem dX3_giveUp_2 : decode cX3_giveUp 2 = .ok (.invokevirtual 93, 3) := by decide +kernel
theorem dX3_giveUp_5 : decode cX3_giveUp 5 = .ok (.ifCond .ne 4, 3) := by decide +kernel
theorem dX3_giveUp_8 : decode cX3_giveUp 8 = .ok (.return_, 1) := by decide +kernel
theorem dX3_giveUp_9 : decode cX3_giveUp 9 = .ok (.iload_n 1, 1) := by decide +kernel
theorem dX3_giveUp_10 : decode cX3_giveUp 10 = .ok (.istore_n 2, 1) := by decide +kernel
theorem dX3_giveUp_11 : decode cX3_giveUp 11 = .ok (.iload_n 2, 1) := by decide +kernel
theorem dX3_giveUp_12 : decode cX3_giveUp 12 = .ok (.iconst 1, 1) := by decide +kernel
theorem dX3_giveUp_13 : decode cX3_giveUp 13 = .ok (.iadd, 1) := by decide +kernel
theorem dX3_giveUp_14 : decode cX3_giveUp 14 = .ok (.aload_n 0, 1) := by decide +kernel
theorem dX3_giveUp_15 : decode cX3_giveUp 15 = .ok (.getfield 34, 3) := by decide +kernel
theorem dX3_giveUp_18 : decode cX3_giveUp 18 = .ok (.if_icmp .ge 23, 3) := by decide +kernel
theorem dX3_giveUp_21 : decode cX3_giveUp 21 = .ok (.aload_n 0, 1) := by decide +kernel
theorem dX3_giveUp_22 : decode cX3_giveUp 22 = .ok (.getfield 9, 3) := by decide +kernel
theorem dX3_giveUp_25 : decode cX3_giveUp 25 = .ok (.iload_n 2, 1) := by decide +kernel
theorem dX3_giveUp_26 : decode cX3_giveUp 26 = .ok (.aload_n 0, 1) := by decide +kernel
theorem dX3_giveUp_27 : decode cX3_giveUp 27 = .ok (.getfield 9, 3) := by decide +kernel
theorem dX3_giveUp_30 : decode cX3_giveUp 30 = .ok (.iload_n 2, 1) := by decide +kernel
theorem dX3_giveUp_31 : decode cX3_giveUp 31 = .ok (.iconst 1, 1) := by decide +kernel
theorem dX3_giveUp_32 : decode cX3_giveUp 32 = .ok (.iadd, 1) := by decide +kernel
theorem dX3_giveUp_33 : decode cX3_giveUp 33 = .ok (.iaload, 1) := by decide +kernel
theorem dX3_giveUp_34 : decode cX3_giveUp 34 = .ok (.iastore, 1) := by decide +kernel
theorem dX3_giveUp_35 : decode cX3_giveUp 35 = .ok (.iinc 2 1, 3) := by decide +kernel
theorem dX3_giveUp_38 : decode cX3_giveUp 38 = .ok (.goto (-27), 3) := by decide +kernel
theorem dX3_giveUp_41 : decode cX3_giveUp 41 = .ok (.aload_n 0, 1) := by decide +kernel
theorem dX3_giveUp_42 : decode cX3_giveUp 42 = .ok (.dup, 1) := by decide +kernel
theorem dX3_giveUp_43 : decode cX3_giveUp 43 = .ok (.getfield 34, 3) := by decide +kernel
theorem dX3_giveUp_46 : decode cX3_giveUp 46 = .ok (.iconst 1, 1) := by decide +kernel
theorem dX3_giveUp_47 : decode cX3_giveUp 47 = .ok (.isub, 1) := by decide +kernel
theorem dX3_giveUp_48 : decode cX3_giveUp 48 = .ok (.putfield 34, 3) := by decide +kernel
theorem dX3_giveUp_51 : decode cX3_giveUp 51 = .ok (.return_, 1) := by decide +kernel
set_option maxRecDepth 20000 in
theorem ggX3_ownCount_J6_bitCount_0f7a4 : GoodIn wsX3_ownCount wsJ6_bitCount_0f7a4 := goodIn_r _ [5, 6, 7, 8] (by decide +kernel) (by decide +kernel)
set_option maxRecDepth 20000 in
theorem gX3_ownCount_J6_bitCount_0f7a4 : GoodIn wsX3_ownCount (va_wsS RX3 60 yJ6_bitCount_0f7a4 wsJ6_bitCount_0f7a4) := goodIn_app (goodIn_of _ (by decide +kernel)) ggX3_ownCount_J6_bitCount_0f7a4
theorem dX3_ownCount_0 : decode cX3_ownCount 0 = .ok (.aload_n 0, 1) := by decide +kernel
theorem dX3_ownCount_1 : decode cX3_ownCount 1 = .ok (.getfield 15, 3) := by decide +kernel
theorem dX3_ownCount_4 : decode cX3_ownCount 4 = .ok (.iload_n 1, 1) := by decide +kernel
theorem dX3_ownCount_5 : decode cX3_ownCount 5 = .ok (.iaload, 1) := by decide +kernel
theorem dX3_ownCount_6 : decode cX3_ownCount 6 = .ok (.invokestatic 60, 3) := by decide +kernel
theorem dX3_ownCount_9 : decode cX3_ownCount 9 = .ok (.ireturn, 1) := by decide +kernel
set_option maxRecDepth 20000 in
theorem ggX3_ownedDots_X3_ownCount : GoodIn wsX3_ownedDots wsX3_ownCount := goodIn_r _ [6, 7, 8, 9, 10, 11, 12, 13, 14, 15, 16, 17, 18, 19, 20, 21] (by decide +kernel) (by decide +kernel)
set_option maxRecDepth 20000 in
theorem gX3_ownedDots_X3_ownCount : GoodIn wsX3_ownedDots (wsV RX3 103 RX3 yX3_ownCount wsX3_ownCount) := goodIn_app (goodIn_of _ (by decide +kernel)) ggX3_ownedDots_X3_ownCount
theorem dX3_ownedDots_0 : decode cX3_ownedDots 0 = .ok (.iconst 0, 1) := by decide +kernel
theorem dX3_ownedDots_1 : decode cX3_ownedDots 1 = .ok (.istore_n 1, 1) := by decide +kernel
theorem dX3_ownedDots_2 : decode cX3_ownedDots 2 = .ok (.iconst 0, 1) := by decide +kernel
theorem dX3_ownedDots_3 : decode cX3_ownedDots 3 = .ok (.istore_n 2, 1) := by decide +kernel
theorem dX3_ownedDots_4 : decode cX3_ownedDots 4 = .ok (.iload_n 2, 1) := by decide +kernel
theorem dX3_ownedDots_5 : decode cX3_ownedDots 5 = .ok (.aload_n 0, 1) := by decide +kernel
theorem dX3_ownedDots_6 : decode cX3_ownedDots 6 = .ok (.getfield 34, 3) := by decide +kernel
theorem dX3_ownedDots_9 : decode cX3_ownedDots 9 = .ok (.if_icmp .ge 17, 3) := by decide +kernel
theorem dX3_ownedDots_12 : decode cX3_ownedDots 12 = .ok (.iload_n 1, 1) := by decide +kernel
theorem dX3_ownedDots_13 : decode cX3_ownedDots 13 = .ok (.aload_n 0, 1) := by decide +kernel
theorem dX3_ownedDots_14 : decode cX3_ownedDots 14 = .ok (.iload_n 2, 1) := by decide +kernel
theorem dX3_ownedDots_15 : decode cX3_ownedDots 15 = .ok (.invokevirtual 103, 3) := by decide +kernel
theorem dX3_ownedDots_18 : decode cX3_ownedDots 18 = .ok (.iadd, 1) := by decide +kernel
theorem dX3_ownedDots_19 : decode cX3_ownedDots 19 = .ok (.istore_n 1, 1) := by decide +kernel
theorem dX3_ownedDots_20 : decode cX3_ownedDots 20 = .ok (.iinc 2 1, 3) := by decide +kernel
theorem dX3_ownedDots_23 : decode cX3_ownedDots 23 = .ok (.goto (-19), 3) := by decide +kernel
theorem dX3_ownedDots_26 : decode cX3_ownedDots 26 = .ok (.iload_n 1, 1) := by decide +kernel
theorem dX3_ownedDots_27 : decode cX3_ownedDots 27 = .ok (.ireturn, 1) := by decide +kernel
theorem dX3_ownerOf_0 : decode cX3_ownerOf 0 = .ok (.iconst 0, 1) := by decide +kernel
theorem dX3_ownerOf_1 : decode cX3_ownerOf 1 = .ok (.istore_n 2, 1) := by decide +kernel
theorem dX3_ownerOf_2 : decode cX3_ownerOf 2 = .ok (.iload_n 2, 1) := by decide +kernel
theorem dX3_ownerOf_3 : decode cX3_ownerOf 3 = .ok (.aload_n 0, 1) := by decide +kernel
theorem dX3_ownerOf_4 : decode cX3_ownerOf 4 = .ok (.getfield 34, 3) := by decide +kernel
theorem dX3_ownerOf_7 : decode cX3_ownerOf 7 = .ok (.if_icmp .ge 25, 3) := by decide +kernel
theorem dX3_ownerOf_10 : decode cX3_ownerOf 10 = .ok (.aload_n 0, 1) := by decide +kernel
theorem dX3_ownerOf_11 : decode cX3_ownerOf 11 = .ok (.getfield 15, 3) := by decide +kernel
theorem dX3_ownerOf_14 : decode cX3_ownerOf 14 = .ok (.iload_n 2, 1) := by decide +kernel
theorem dX3_ownerOf_15 : decode cX3_ownerOf 15 = .ok (.iaload, 1) := by decide +kernel
theorem dX3_ownerOf_16 : decode cX3_ownerOf 16 = .ok (.iload_n 1, 1) := by decide +kernel
theorem dX3_ownerOf_17 : decode cX3_ownerOf 17 = .ok (.ishr, 1) := by decide +kernel
theorem dX3_ownerOf_18 : decode cX3_ownerOf 18 = .ok (.iconst 1, 1) := by decide +kernel
theorem dX3_ownerOf_19 : decode cX3_ownerOf 19 = .ok (.iand, 1) := by decide +kernel
theorem dX3_ownerOf_20 : decode cX3_ownerOf 20 = .ok (.iconst 1, 1) := by decide +kernel
theorem dX3_ownerOf_21 : decode cX3_ownerOf 21 = .ok (.if_icmp .ne 5, 3) := by decide +kernel
theorem dX3_ownerOf_24 : decode cX3_ownerOf 24 = .ok (.iload_n 2, 1) := by decide +kernel
theorem dX3_ownerOf_25 : decode cX3_ownerOf 25 = .ok (.ireturn, 1) := by decide +kernel
theorem dX3_ownerOf_26 : decode cX3_ownerOf 26 = .ok (.iinc 2 1, 3) := by decide +kernel
theorem dX3_ownerOf_29 : decode cX3_ownerOf 29 = .ok (.goto (-27), 3) := by decide +kernel
theorem dX3_ownerOf_32 : decode cX3_ownerOf 32 = .ok (.iconst (-1), 1) := by decide +kernel
theorem dX3_ownerOf_33 : decode cX3_ownerOf 33 = .ok (.ireturn, 1) := by decide +kernel
set_option maxRecDepth 20000 in
theorem ggX3_spanOf_X4_from : GoodIn wsX3_spanOf wsX4_from := goodIn_r _ [8, 9, 10, 11, 12, 13, 14, 15, 16, 17, 18, 45, 46, 47, 48] (by decide +kernel) (by decide +kernel)
set_option maxRecDepth 20000 in
theorem gX3_spanOf_X4_from : GoodIn wsX3_spanOf (wsV RX3 68 RX4 yX4_from wsX4_from) := goodIn_app (goodIn_of _ (by decide +kernel)) ggX3_spanOf_X4_from
set_option maxRecDepth 20000 in
theorem ggX3_spanOf_X4_span : GoodIn wsX3_spanOf wsX4_span := goodIn_r _ [22, 23, 24, 25, 26, 27, 7, 28, 29, 9, 30, 10, 31, 32, 33, 34, 35, 36, 37, 45, 46, 47, 48, 49, 50, 51, 52, 53, 54, 55, 56, 57, 58, 59] (by decide +kernel) (by decide +kernel)
set_option maxRecDepth 20000 in
theorem gX3_spanOf_X4_span : GoodIn wsX3_spanOf (wsV RX3 74 RX4 yX4_span wsX4_span) := goodIn_app (goodIn_of _ (by decide +kernel)) ggX3_spanOf_X4_span
theorem dX3_spanOf_0 : decode cX3_spanOf 0 = .ok (.aload_n 0, 1) := by decide +kernel
theorem dX3_spanOf_1 : decode cX3_spanOf 1 = .ok (.getfield 26, 3) := by decide +kernel
theorem dX3_spanOf_4 : decode cX3_spanOf 4 = .ok (.aload_n 0, 1) := by decide +kernel
theorem dX3_spanOf_5 : decode cX3_spanOf 5 = .ok (.getfield 9, 3) := by decide +kernel
theorem dX3_spanOf_8 : decode cX3_spanOf 8 = .ok (.iload_n 1, 1) := by decide +kernel
theorem dX3_spanOf_9 : decode cX3_spanOf 9 = .ok (.iaload, 1) := by decide +kernel
theorem dX3_spanOf_10 : decode cX3_spanOf 10 = .ok (.invokevirtual 68, 3) := by decide +kernel
theorem dX3_spanOf_13 : decode cX3_spanOf 13 = .ok (.aload_n 0, 1) := by decide +kernel
theorem dX3_spanOf_14 : decode cX3_spanOf 14 = .ok (.getfield 26, 3) := by decide +kernel
theorem dX3_spanOf_17 : decode cX3_spanOf 17 = .ok (.aload_n 0, 1) := by decide +kernel
theorem dX3_spanOf_18 : decode cX3_spanOf 18 = .ok (.getfield 15, 3) := by decide +kernel
theorem dX3_spanOf_21 : decode cX3_spanOf 21 = .ok (.iload_n 1, 1) := by decide +kernel
theorem dX3_spanOf_22 : decode cX3_spanOf 22 = .ok (.iaload, 1) := by decide +kernel
theorem dX3_spanOf_23 : decode cX3_spanOf 23 = .ok (.invokevirtual 74, 3) := by decide +kernel
theorem dX3_spanOf_26 : decode cX3_spanOf 26 = .ok (.ireturn, 1) := by decide +kernel
set_option maxRecDepth 20000 in
theorem ggX3_kindOf_X3_spanOf : GoodIn wsX3_kindOf wsX3_spanOf := goodIn_r _ [5, 6, 7, 8, 9, 10, 11, 12, 13, 14, 15, 16, 17, 18, 19, 20, 21, 22, 23, 24, 25, 26, 27, 28, 29, 30, 31, 32, 33, 34, 35, 36, 37, 38, 39, 40, 41, 42, 43, 44, 45, 46, 47, 48, 49, 50, 51, 52, 53, 54, 55, 56, 57, 58, 59, 60, 61, 62, 63, 64] (by decide +kernel) (by decide +kernel)
set_option maxRecDepth 20000 in
theorem gX3_kindOf_X3_spanOf : GoodIn wsX3_kindOf (wsV RX3 106 RX3 yX3_spanOf wsX3_spanOf) := goodIn_app (goodIn_of _ (by decide +kernel)) ggX3_kindOf_X3_spanOf
theorem dX3_kindOf_0 : decode cX3_kindOf 0 = .ok (.aload_n 0, 1) := by decide +kernel
theorem dX3_kindOf_1 : decode cX3_kindOf 1 = .ok (.iload_n 1, 1) := by decide +kernel
theorem dX3_kindOf_2 : decode cX3_kindOf 2 = .ok (.invokevirtual 106, 3) := by decide +kernel
theorem dX3_kindOf_5 : decode cX3_kindOf 5 = .ok (.bipush 8, 2) := by decide +kernel
theorem dX3_kindOf_7 : decode cX3_kindOf 7 = .ok (.if_icmp .ne 7, 3) := by decide +kernel
theorem dX3_kindOf_10 : decode cX3_kindOf 10 = .ok (.iconst 0, 1) := by decide +kernel
theorem dX3_kindOf_11 : decode cX3_kindOf 11 = .ok (.goto 4, 3) := by decide +kernel
theorem dX3_kindOf_14 : decode cX3_kindOf 14 = .ok (.iconst 1, 1) := by decide +kernel
theorem dX3_kindOf_15 : decode cX3_kindOf 15 = .ok (.ireturn, 1) := by decide +kernel
set_option maxRecDepth 20000 in
theorem ggX3_areCrossing_X6_keyX : GoodIn wsX3_areCrossing wsX6_keyX := goodIn_r _ [4] (by decide +kernel) (by decide +kernel)
set_option maxRecDepth 20000 in
theorem gX3_areCrossing_X6_keyX_n109 : GoodIn wsX3_areCrossing (wsX6_keyX) := ggX3_areCrossing_X6_keyX
set_option maxRecDepth 20000 in
theorem ggX3_areCrossing_X6_keyY : GoodIn wsX3_areCrossing wsX6_keyY := goodIn_r _ [6] (by decide +kernel) (by decide +kernel)
set_option maxRecDepth 20000 in
theorem gX3_areCrossing_X6_keyY_n112 : GoodIn wsX3_areCrossing (wsX6_keyY) := ggX3_areCrossing_X6_keyY
set_option maxRecDepth 20000 in
theorem ggX3_areCrossing_X6_keyRadius : GoodIn wsX3_areCrossing wsX6_keyRadius := goodIn_r _ [8] (by decide +kernel) (by decide +kernel)
set_option maxRecDepth 20000 in
theorem gX3_areCrossing_X6_keyRadius_n115 : GoodIn wsX3_areCrossing (wsX6_keyRadius) := ggX3_areCrossing_X6_keyRadius
theorem dX3_areCrossing_0 : decode cX3_areCrossing 0 = .ok (.aload_n 0, 1) := by decide +kernel
theorem dX3_areCrossing_1 : decode cX3_areCrossing 1 = .ok (.getfield 9, 3) := by decide +kernel
theorem dX3_areCrossing_4 : decode cX3_areCrossing 4 = .ok (.iload_n 1, 1) := by decide +kernel
theorem dX3_areCrossing_5 : decode cX3_areCrossing 5 = .ok (.iaload, 1) := by decide +kernel
theorem dX3_areCrossing_6 : decode cX3_areCrossing 6 = .ok (.invokestatic 109, 3) := by decide +kernel
theorem dX3_areCrossing_9 : decode cX3_areCrossing 9 = .ok (.aload_n 0, 1) := by decide +kernel
theorem dX3_areCrossing_10 : decode cX3_areCrossing 10 = .ok (.getfield 9, 3) := by decide +kernel
theorem dX3_areCrossing_13 : decode cX3_areCrossing 13 = .ok (.iload_n 2, 1) := by decide +kernel
theorem dX3_areCrossing_14 : decode cX3_areCrossing 14 = .ok (.iaload, 1) := by decide +kernel
theorem dX3_areCrossing_15 : decode cX3_areCrossing 15 = .ok (.invokestatic 109, 3) := by decide +kernel
theorem dX3_areCrossing_18 : decode cX3_areCrossing 18 = .ok (.isub, 1) := by decide +kernel
theorem dX3_areCrossing_19 : decode cX3_areCrossing 19 = .ok (.istore_n 3, 1) := by decide +kernel
theorem dX3_areCrossing_20 : decode cX3_areCrossing 20 = .ok (.aload_n 0, 1) := by decide +kernel
theorem dX3_areCrossing_21 : decode cX3_areCrossing 21 = .ok (.getfield 9, 3) := by decide +kernel
theorem dX3_areCrossing_24 : decode cX3_areCrossing 24 = .ok (.iload_n 1, 1) := by decide +kernel
theorem dX3_areCrossing_25 : decode cX3_areCrossing 25 = .ok (.iaload, 1) := by decide +kernel
theorem dX3_areCrossing_26 : decode cX3_areCrossing 26 = .ok (.invokestatic 112, 3) := by decide +kernel
theorem dX3_areCrossing_29 : decode cX3_areCrossing 29 = .ok (.aload_n 0, 1) := by decide +kernel
theorem dX3_areCrossing_30 : decode cX3_areCrossing 30 = .ok (.getfield 9, 3) := by decide +kernel
theorem dX3_areCrossing_33 : decode cX3_areCrossing 33 = .ok (.iload_n 2, 1) := by decide +kernel
theorem dX3_areCrossing_34 : decode cX3_areCrossing 34 = .ok (.iaload, 1) := by decide +kernel
theorem dX3_areCrossing_35 : decode cX3_areCrossing 35 = .ok (.invokestatic 112, 3) := by decide +kernel
theorem dX3_areCrossing_38 : decode cX3_areCrossing 38 = .ok (.isub, 1) := by decide +kernel
theorem dX3_areCrossing_39 : decode cX3_areCrossing 39 = .ok (.istore 4, 2) := by decide +kernel
theorem dX3_areCrossing_41 : decode cX3_areCrossing 41 = .ok (.aload_n 0, 1) := by decide +kernel
theorem dX3_areCrossing_42 : decode cX3_areCrossing 42 = .ok (.getfield 9, 3) := by decide +kernel
theorem dX3_areCrossing_45 : decode cX3_areCrossing 45 = .ok (.iload_n 1, 1) := by decide +kernel
theorem dX3_areCrossing_46 : decode cX3_areCrossing 46 = .ok (.iaload, 1) := by decide +kernel
theorem dX3_areCrossing_47 : decode cX3_areCrossing 47 = .ok (.invokestatic 115, 3) := by decide +kernel
theorem dX3_areCrossing_50 : decode cX3_areCrossing 50 = .ok (.aload_n 0, 1) := by decide +kernel
theorem dX3_areCrossing_51 : decode cX3_areCrossing 51 = .ok (.getfield 9, 3) := by decide +kernel
theorem dX3_areCrossing_54 : decode cX3_areCrossing 54 = .ok (.iload_n 2, 1) := by decide +kernel
theorem dX3_areCrossing_55 : decode cX3_areCrossing 55 = .ok (.iaload, 1) := by decide +kernel
theorem dX3_areCrossing_56 : decode cX3_areCrossing 56 = .ok (.invokestatic 115, 3) := by decide +kernel
theorem dX3_areCrossing_59 : decode cX3_areCrossing 59 = .ok (.iadd, 1) := by decide +kernel
theorem dX3_areCrossing_60 : decode cX3_areCrossing 60 = .ok (.iconst 1, 1) := by decide +kernel
theorem dX3_areCrossing_61 : decode cX3_areCrossing 61 = .ok (.iadd, 1) := by decide +kernel
theorem dX3_areCrossing_62 : decode cX3_areCrossing 62 = .ok (.istore 5, 2) := by decide +kernel
theorem dX3_areCrossing_64 : decode cX3_areCrossing 64 = .ok (.aload_n 0, 1) := by decide +kernel
theorem dX3_areCrossing_65 : decode cX3_areCrossing 65 = .ok (.getfield 9, 3) := by decide +kernel
theorem dX3_areCrossing_68 : decode cX3_areCrossing 68 = .ok (.iload_n 1, 1) := by decide +kernel
theorem dX3_areCrossing_69 : decode cX3_areCrossing 69 = .ok (.iaload, 1) := by decide +kernel
theorem dX3_areCrossing_70 : decode cX3_areCrossing 70 = .ok (.invokestatic 115, 3) := by decide +kernel
theorem dX3_areCrossing_73 : decode cX3_areCrossing 73 = .ok (.aload_n 0, 1) := by decide +kernel
theorem dX3_areCrossing_74 : decode cX3_areCrossing 74 = .ok (.getfield 9, 3) := by decide +kernel
theorem dX3_areCrossing_77 : decode cX3_areCrossing 77 = .ok (.iload_n 2, 1) := by decide +kernel
theorem dX3_areCrossing_78 : decode cX3_areCrossing 78 = .ok (.iaload, 1) := by decide +kernel
theorem dX3_areCrossing_79 : decode cX3_areCrossing 79 = .ok (.invokestatic 115, 3) := by decide +kernel
theorem dX3_areCrossing_82 : decode cX3_areCrossing 82 = .ok (.isub, 1) := by decide +kernel
theorem dX3_areCrossing_83 : decode cX3_areCrossing 83 = .ok (.istore 6, 2) := by decide +kernel
theorem dX3_areCrossing_85 : decode cX3_areCrossing 85 = .ok (.iload_n 3, 1) := by decide +kernel
theorem dX3_areCrossing_86 : decode cX3_areCrossing 86 = .ok (.iload_n 3, 1) := by decide +kernel
theorem dX3_areCrossing_87 : decode cX3_areCrossing 87 = .ok (.imul, 1) := by decide +kernel
theorem dX3_areCrossing_88 : decode cX3_areCrossing 88 = .ok (.iload 4, 2) := by decide +kernel
theorem dX3_areCrossing_90 : decode cX3_areCrossing 90 = .ok (.iload 4, 2) := by decide +kernel
theorem dX3_areCrossing_92 : decode cX3_areCrossing 92 = .ok (.imul, 1) := by decide +kernel
theorem dX3_areCrossing_93 : decode cX3_areCrossing 93 = .ok (.iadd, 1) := by decide +kernel
theorem dX3_areCrossing_94 : decode cX3_areCrossing 94 = .ok (.istore 7, 2) := by decide +kernel
theorem dX3_areCrossing_96 : decode cX3_areCrossing 96 = .ok (.iload 7, 2) := by decide +kernel
theorem dX3_areCrossing_98 : decode cX3_areCrossing 98 = .ok (.iload 5, 2) := by decide +kernel
theorem dX3_areCrossing_100 : decode cX3_areCrossing 100 = .ok (.iload 5, 2) := by decide +kernel
theorem dX3_areCrossing_102 : decode cX3_areCrossing 102 = .ok (.imul, 1) := by decide +kernel
theorem dX3_areCrossing_103 : decode cX3_areCrossing 103 = .ok (.if_icmp .gt 17, 3) := by decide +kernel
theorem dX3_areCrossing_106 : decode cX3_areCrossing 106 = .ok (.iload 7, 2) := by decide +kernel
theorem dX3_areCrossing_108 : decode cX3_areCrossing 108 = .ok (.iload 6, 2) := by decide +kernel
theorem dX3_areCrossing_110 : decode cX3_areCrossing 110 = .ok (.iload 6, 2) := by decide +kernel
theorem dX3_areCrossing_112 : decode cX3_areCrossing 112 = .ok (.imul, 1) := by decide +kernel
theorem dX3_areCrossing_113 : decode cX3_areCrossing 113 = .ok (.if_icmp .lt 7, 3) := by decide +kernel
theorem dX3_areCrossing_116 : decode cX3_areCrossing 116 = .ok (.iconst 1, 1) := by decide +kernel
theorem dX3_areCrossing_117 : decode cX3_areCrossing 117 = .ok (.goto 4, 3) := by decide +kernel
theorem dX3_areCrossing_120 : decode cX3_areCrossing 120 = .ok (.iconst 0, 1) := by decide +kernel
theorem dX3_areCrossing_121 : decode cX3_areCrossing 121 = .ok (.ireturn, 1) := by decide +kernel
set_option maxRecDepth 20000 in
theorem ggX3_tell_X6_keyX : GoodIn wsX3_tell wsX6_keyX := goodIn_r _ [5] (by decide +kernel) (by decide +kernel)
set_option maxRecDepth 20000 in
theorem gX3_tell_X6_keyX_n109 : GoodIn wsX3_tell (wsX6_keyX) := ggX3_tell_X6_keyX
set_option maxRecDepth 20000 in
theorem ggX3_tell_X6_keyY : GoodIn wsX3_tell wsX6_keyY := goodIn_r _ [7] (by decide +kernel) (by decide +kernel)
set_option maxRecDepth 20000 in
theorem gX3_tell_X6_keyY_n112 : GoodIn wsX3_tell (wsX6_keyY) := ggX3_tell_X6_keyY
set_option maxRecDepth 20000 in
theorem ggX3_tell_X6_keyRadius : GoodIn wsX3_tell wsX6_keyRadius := goodIn_r _ [9] (by decide +kernel) (by decide +kernel)
set_option maxRecDepth 20000 in
theorem gX3_tell_X6_keyRadius_n115 : GoodIn wsX3_tell (wsX6_keyRadius) := ggX3_tell_X6_keyRadius
set_option maxRecDepth 20000 in
theorem ggX3_tell_X3_ownCount : GoodIn wsX3_tell wsX3_ownCount := goodIn_r _ [14, 2, 15, 16, 17, 18, 19, 20, 21, 52, 53, 54, 55, 56, 57, 58] (by decide +kernel) (by decide +kernel)
set_option maxRecDepth 20000 in
theorem gX3_tell_X3_ownCount : GoodIn wsX3_tell (wsV RX3 103 RX3 yX3_ownCount wsX3_ownCount) := goodIn_app (goodIn_of _ (by decide +kernel)) ggX3_tell_X3_ownCount
set_option maxRecDepth 20000 in
theorem ggX3_tell_X3_spanOf : GoodIn wsX3_tell wsX3_spanOf := goodIn_r _ [25, 26, 1, 2, 27, 28, 29, 30, 31, 32, 33, 34, 3, 4, 5, 6, 7, 8, 9, 35, 36, 37, 38, 39, 40, 41, 42, 43, 44, 45, 46, 47, 16, 17, 18, 19, 20, 21, 52, 53, 54, 55, 56, 57, 58, 59, 60, 61, 62, 63, 64, 65, 66, 67, 68, 69, 70, 71, 72, 73] (by decide +kernel) (by decide +kernel)
set_option maxRecDepth 20000 in
theorem gX3_tell_X3_spanOf : GoodIn wsX3_tell (wsV RX3 106 RX3 yX3_spanOf wsX3_spanOf) := goodIn_app (goodIn_of _ (by decide +kernel)) ggX3_tell_X3_spanOf
set_option maxRecDepth 20000 in
theorem ggX3_tell_X3_kindOf : GoodIn wsX3_tell wsX3_kindOf := goodIn_r _ [51, 22, 23, 24, 13, 25, 26, 1, 2, 27, 28, 29, 30, 31, 32, 33, 34, 3, 4, 5, 6, 7, 8, 9, 35, 36, 37, 38, 39, 40, 41, 42, 43, 44, 45, 46, 47, 16, 17, 18, 19, 20, 21, 52, 53, 54, 55, 56, 57, 58, 59, 60, 61, 62, 63, 64, 65, 66, 67, 68, 69, 70, 71, 72, 73] (by decide +kernel) (by decide +kernel)
set_option maxRecDepth 20000 in
theorem gX3_tell_X3_kindOf : GoodIn wsX3_tell (wsV RX3 118 RX3 yX3_kindOf wsX3_kindOf) := goodIn_app (goodIn_of _ (by decide +kernel)) ggX3_tell_X3_kindOf
theorem dX3_tell_0 : decode cX3_tell 0 = .ok (.iload_n 2, 1) := by decide +kernel
theorem dX3_tell_1 : decode cX3_tell 1 = .ok (.tableswitch 98 0 6 #[43, 53, 63, 73, 79, 86, 92], 43) := by decide +kernel
theorem dX3_tell_44 : decode cX3_tell 44 = .ok (.aload_n 0, 1) := by decide +kernel
theorem dX3_tell_45 : decode cX3_tell 45 = .ok (.getfield 9, 3) := by decide +kernel
theorem dX3_tell_48 : decode cX3_tell 48 = .ok (.iload_n 1, 1) := by decide +kernel
theorem dX3_tell_49 : decode cX3_tell 49 = .ok (.iaload, 1) := by decide +kernel
theorem dX3_tell_50 : decode cX3_tell 50 = .ok (.invokestatic 109, 3) := by decide +kernel
theorem dX3_tell_53 : decode cX3_tell 53 = .ok (.ireturn, 1) := by decide +kernel
theorem dX3_tell_54 : decode cX3_tell 54 = .ok (.aload_n 0, 1) := by decide +kernel
theorem dX3_tell_55 : decode cX3_tell 55 = .ok (.getfield 9, 3) := by decide +kernel
theorem dX3_tell_58 : decode cX3_tell 58 = .ok (.iload_n 1, 1) := by decide +kernel
theorem dX3_tell_59 : decode cX3_tell 59 = .ok (.iaload, 1) := by decide +kernel
theorem dX3_tell_60 : decode cX3_tell 60 = .ok (.invokestatic 112, 3) := by decide +kernel
theorem dX3_tell_63 : decode cX3_tell 63 = .ok (.ireturn, 1) := by decide +kernel
theorem dX3_tell_64 : decode cX3_tell 64 = .ok (.aload_n 0, 1) := by decide +kernel
theorem dX3_tell_65 : decode cX3_tell 65 = .ok (.getfield 9, 3) := by decide +kernel
theorem dX3_tell_68 : decode cX3_tell 68 = .ok (.iload_n 1, 1) := by decide +kernel
theorem dX3_tell_69 : decode cX3_tell 69 = .ok (.iaload, 1) := by decide +kernel
theorem dX3_tell_70 : decode cX3_tell 70 = .ok (.invokestatic 115, 3) := by decide +kernel
theorem dX3_tell_73 : decode cX3_tell 73 = .ok (.ireturn, 1) := by decide +kernel
theorem dX3_tell_74 : decode cX3_tell 74 = .ok (.aload_n 0, 1) := by decide +kernel
theorem dX3_tell_75 : decode cX3_tell 75 = .ok (.iload_n 1, 1) := by decide +kernel
theorem dX3_tell_76 : decode cX3_tell 76 = .ok (.invokevirtual 103, 3) := by decide +kernel
theorem dX3_tell_79 : decode cX3_tell 79 = .ok (.ireturn, 1) := by decide +kernel
theorem dX3_tell_80 : decode cX3_tell 80 = .ok (.aload_n 0, 1) := by decide +kernel
theorem dX3_tell_81 : decode cX3_tell 81 = .ok (.getfield 15, 3) := by decide +kernel
theorem dX3_tell_84 : decode cX3_tell 84 = .ok (.iload_n 1, 1) := by decide +kernel
theorem dX3_tell_85 : decode cX3_tell 85 = .ok (.iaload, 1) := by decide +kernel
theorem dX3_tell_86 : decode cX3_tell 86 = .ok (.ireturn, 1) := by decide +kernel
theorem dX3_tell_87 : decode cX3_tell 87 = .ok (.aload_n 0, 1) := by decide +kernel
theorem dX3_tell_88 : decode cX3_tell 88 = .ok (.iload_n 1, 1) := by decide +kernel
theorem dX3_tell_89 : decode cX3_tell 89 = .ok (.invokevirtual 106, 3) := by decide +kernel
theorem dX3_tell_92 : decode cX3_tell 92 = .ok (.ireturn, 1) := by decide +kernel
theorem dX3_tell_93 : decode cX3_tell 93 = .ok (.aload_n 0, 1) := by decide +kernel
theorem dX3_tell_94 : decode cX3_tell 94 = .ok (.iload_n 1, 1) := by decide +kernel
theorem dX3_tell_95 : decode cX3_tell 95 = .ok (.invokevirtual 118, 3) := by decide +kernel
theorem dX3_tell_98 : decode cX3_tell 98 = .ok (.ireturn, 1) := by decide +kernel
theorem dX3_tell_99 : decode cX3_tell 99 = .ok (.bipush (-102), 2) := by decide +kernel
theorem dX3_tell_101 : decode cX3_tell 101 = .ok (.ireturn, 1) := by decide +kernel
theorem dX4_init_0 : decode cX4_init 0 = .ok (.aload_n 0, 1) := by decide +kernel
theorem dX4_init_1 : decode cX4_init 1 = .ok (.invokespecial 1, 3) := by decide +kernel
theorem dX4_init_4 : decode cX4_init 4 = .ok (.aload_n 0, 1) := by decide +kernel
theorem dX4_init_5 : decode cX4_init 5 = .ok (.aload_n 1, 1) := by decide +kernel
theorem dX4_init_6 : decode cX4_init 6 = .ok (.putfield 7, 3) := by decide +kernel
theorem dX4_init_9 : decode cX4_init 9 = .ok (.return_, 1) := by decide +kernel
set_option maxRecDepth 20000 in
theorem ggX4_from_X6_keyX : GoodIn wsX4_from wsX6_keyX := goodIn_r _ [6] (by decide +kernel) (by decide +kernel)
set_option maxRecDepth 20000 in
theorem gX4_from_X6_keyX_n13 : GoodIn wsX4_from (wsX6_keyX) := ggX4_from_X6_keyX
set_option maxRecDepth 20000 in
theorem ggX4_from_X6_keyY : GoodIn wsX4_from wsX6_keyY := goodIn_r _ [8] (by decide +kernel) (by decide +kernel)
set_option maxRecDepth 20000 in
theorem gX4_from_X6_keyY_n23 : GoodIn wsX4_from (wsX6_keyY) := ggX4_from_X6_keyY
set_option maxRecDepth 20000 in
theorem ggX4_from_X6_keyRadius : GoodIn wsX4_from wsX6_keyRadius := goodIn_r _ [10] (by decide +kernel) (by decide +kernel)
set_option maxRecDepth 20000 in
theorem gX4_from_X6_keyRadius_n29 : GoodIn wsX4_from (wsX6_keyRadius) := ggX4_from_X6_keyRadius
theorem dX4_from_0 : decode cX4_from 0 = .ok (.aload_n 0, 1) := by decide +kernel
theorem dX4_from_1 : decode cX4_from 1 = .ok (.iconst 2, 1) := by decide +kernel
theorem dX4_from_2 : decode cX4_from 2 = .ok (.iload_n 1, 1) := by decide +kernel
theorem dX4_from_3 : decode cX4_from 3 = .ok (.invokestatic 13, 3) := by decide +kernel
theorem dX4_from_6 : decode cX4_from 6 = .ok (.imul, 1) := by decide +kernel
theorem dX4_from_7 : decode cX4_from 7 = .ok (.iconst 1, 1) := by decide +kernel
theorem dX4_from_8 : decode cX4_from 8 = .ok (.iadd, 1) := by decide +kernel
theorem dX4_from_9 : decode cX4_from 9 = .ok (.putfield 19, 3) := by decide +kernel
theorem dX4_from_12 : decode cX4_from 12 = .ok (.aload_n 0, 1) := by decide +kernel
theorem dX4_from_13 : decode cX4_from 13 = .ok (.iconst 2, 1) := by decide +kernel
theorem dX4_from_14 : decode cX4_from 14 = .ok (.iload_n 1, 1) := by decide +kernel
theorem dX4_from_15 : decode cX4_from 15 = .ok (.invokestatic 23, 3) := by decide +kernel
theorem dX4_from_18 : decode cX4_from 18 = .ok (.imul, 1) := by decide +kernel
theorem dX4_from_19 : decode cX4_from 19 = .ok (.iconst 1, 1) := by decide +kernel
theorem dX4_from_20 : decode cX4_from 20 = .ok (.iadd, 1) := by decide +kernel
theorem dX4_from_21 : decode cX4_from 21 = .ok (.putfield 26, 3) := by decide +kernel
theorem dX4_from_24 : decode cX4_from 24 = .ok (.aload_n 0, 1) := by decide +kernel
theorem dX4_from_25 : decode cX4_from 25 = .ok (.iload_n 1, 1) := by decide +kernel
theorem dX4_from_26 : decode cX4_from 26 = .ok (.invokestatic 29, 3) := by decide +kernel
theorem dX4_from_29 : decode cX4_from 29 = .ok (.putfield 32, 3) := by decide +kernel
theorem dX4_from_32 : decode cX4_from 32 = .ok (.return_, 1) := by decide +kernel
theorem dX4_squared_0 : decode cX4_squared 0 = .ok (.iconst 2, 1) := by decide +kernel
theorem dX4_squared_1 : decode cX4_squared 1 = .ok (.aload_n 0, 1) := by decide +kernel
theorem dX4_squared_2 : decode cX4_squared 2 = .ok (.getfield 7, 3) := by decide +kernel
theorem dX4_squared_5 : decode cX4_squared 5 = .ok (.getfield 35, 3) := by decide +kernel
theorem dX4_squared_8 : decode cX4_squared 8 = .ok (.iload_n 1, 1) := by decide +kernel
theorem dX4_squared_9 : decode cX4_squared 9 = .ok (.iaload, 1) := by decide +kernel
theorem dX4_squared_10 : decode cX4_squared 10 = .ok (.imul, 1) := by decide +kernel
theorem dX4_squared_11 : decode cX4_squared 11 = .ok (.aload_n 0, 1) := by decide +kernel
theorem dX4_squared_12 : decode cX4_squared 12 = .ok (.getfield 19, 3) := by decide +kernel
theorem dX4_squared_15 : decode cX4_squared 15 = .ok (.isub, 1) := by decide +kernel
theorem dX4_squared_16 : decode cX4_squared 16 = .ok (.istore_n 2, 1) := by decide +kernel
theorem dX4_squared_17 : decode cX4_squared 17 = .ok (.iconst 2, 1) := by decide +kernel
theorem dX4_squared_18 : decode cX4_squared 18 = .ok (.aload_n 0, 1) := by decide +kernel
theorem dX4_squared_19 : decode cX4_squared 19 = .ok (.getfield 7, 3) := by decide +kernel
theorem dX4_squared_22 : decode cX4_squared 22 = .ok (.getfield 41, 3) := by decide +kernel
theorem dX4_squared_25 : decode cX4_squared 25 = .ok (.iload_n 1, 1) := by decide +kernel
theorem dX4_squared_26 : decode cX4_squared 26 = .ok (.iaload, 1) := by decide +kernel
theorem dX4_squared_27 : decode cX4_squared 27 = .ok (.imul, 1) := by decide +kernel
theorem dX4_squared_28 : decode cX4_squared 28 = .ok (.aload_n 0, 1) := by decide +kernel
theorem dX4_squared_29 : decode cX4_squared 29 = .ok (.getfield 26, 3) := by decide +kernel
theorem dX4_squared_32 : decode cX4_squared 32 = .ok (.isub, 1) := by decide +kernel
theorem dX4_squared_33 : decode cX4_squared 33 = .ok (.istore_n 3, 1) := by decide +kernel
theorem dX4_squared_34 : decode cX4_squared 34 = .ok (.iload_n 2, 1) := by decide +kernel
theorem dX4_squared_35 : decode cX4_squared 35 = .ok (.iload_n 2, 1) := by decide +kernel
theorem dX4_squared_36 : decode cX4_squared 36 = .ok (.imul, 1) := by decide +kernel
theorem dX4_squared_37 : decode cX4_squared 37 = .ok (.iload_n 3, 1) := by decide +kernel
theorem dX4_squared_38 : decode cX4_squared 38 = .ok (.iload_n 3, 1) := by decide +kernel
theorem dX4_squared_39 : decode cX4_squared 39 = .ok (.imul, 1) := by decide +kernel
theorem dX4_squared_40 : decode cX4_squared 40 = .ok (.iadd, 1) := by decide +kernel
theorem dX4_squared_41 : decode cX4_squared 41 = .ok (.ireturn, 1) := by decide +kernel
set_option maxRecDepth 20000 in
theorem ggX4_isSupportedBy_X4_squared : GoodIn wsX4_isSupportedBy wsX4_squared := goodIn_r _ [14, 2, 15, 8, 16, 9, 25, 26, 27, 28, 29, 30, 31, 32, 33, 34, 35, 36, 37, 38, 39] (by decide +kernel) (by decide +kernel)
set_option maxRecDepth 20000 in
theorem gX4_isSupportedBy_X4_squared : GoodIn wsX4_isSupportedBy (wsV RX4 53 RX4 yX4_squared wsX4_squared) := goodIn_app (goodIn_of _ (by decide +kernel)) ggX4_isSupportedBy_X4_squared
set_option maxRecDepth 20000 in
theorem ggX4_isSupportedBy_X0_agrees : GoodIn wsX4_isSupportedBy wsX0_agrees := goodIn_r _ [21, 22, 23, 24, 29, 30, 31, 32, 33, 34, 35, 36, 37, 38, 39] (by decide +kernel) (by decide +kernel)
set_option maxRecDepth 20000 in
theorem gX4_isSupportedBy_X0_agrees : GoodIn wsX4_isSupportedBy (wsV RX4 56 RX0 yX0_agrees wsX0_agrees) := goodIn_app (goodIn_of _ (by decide +kernel)) ggX4_isSupportedBy_X0_agrees
theorem dX4_isSupportedBy_0 : decode cX4_isSupportedBy 0 = .ok (.iconst 0, 1) := by decide +kernel
theorem dX4_isSupportedBy_1 : decode cX4_isSupportedBy 1 = .ok (.iconst 2, 1) := by decide +kernel
theorem dX4_isSupportedBy_2 : decode cX4_isSupportedBy 2 = .ok (.aload_n 0, 1) := by decide +kernel
theorem dX4_isSupportedBy_3 : decode cX4_isSupportedBy 3 = .ok (.getfield 32, 3) := by decide +kernel
theorem dX4_isSupportedBy_6 : decode cX4_isSupportedBy 6 = .ok (.imul, 1) := by decide +kernel
theorem dX4_isSupportedBy_7 : decode cX4_isSupportedBy 7 = .ok (.aload_n 0, 1) := by decide +kernel
theorem dX4_isSupportedBy_8 : decode cX4_isSupportedBy 8 = .ok (.getfield 7, 3) := by decide +kernel
theorem dX4_isSupportedBy_11 : decode cX4_isSupportedBy 11 = .ok (.getfield 44, 3) := by decide +kernel
theorem dX4_isSupportedBy_14 : decode cX4_isSupportedBy 14 = .ok (.isub, 1) := by decide +kernel
theorem dX4_isSupportedBy_15 : decode cX4_isSupportedBy 15 = .ok (.invokestatic 47, 3) := by decide +kernel
theorem dX4_isSupportedBy_18 : decode cX4_isSupportedBy 18 = .ok (.istore_n 2, 1) := by decide +kernel
theorem dX4_isSupportedBy_19 : decode cX4_isSupportedBy 19 = .ok (.iconst 2, 1) := by decide +kernel
theorem dX4_isSupportedBy_20 : decode cX4_isSupportedBy 20 = .ok (.aload_n 0, 1) := by decide +kernel
theorem dX4_isSupportedBy_21 : decode cX4_isSupportedBy 21 = .ok (.getfield 32, 3) := by decide +kernel
theorem dX4_isSupportedBy_24 : decode cX4_isSupportedBy 24 = .ok (.imul, 1) := by decide +kernel
theorem dX4_isSupportedBy_25 : decode cX4_isSupportedBy 25 = .ok (.iconst 2, 1) := by decide +kernel
theorem dX4_isSupportedBy_26 : decode cX4_isSupportedBy 26 = .ok (.iadd, 1) := by decide +kernel
theorem dX4_isSupportedBy_27 : decode cX4_isSupportedBy 27 = .ok (.aload_n 0, 1) := by decide +kernel
theorem dX4_isSupportedBy_28 : decode cX4_isSupportedBy 28 = .ok (.getfield 7, 3) := by decide +kernel
theorem dX4_isSupportedBy_31 : decode cX4_isSupportedBy 31 = .ok (.getfield 44, 3) := by decide +kernel
theorem dX4_isSupportedBy_34 : decode cX4_isSupportedBy 34 = .ok (.iadd, 1) := by decide +kernel
theorem dX4_isSupportedBy_35 : decode cX4_isSupportedBy 35 = .ok (.istore_n 3, 1) := by decide +kernel
theorem dX4_isSupportedBy_36 : decode cX4_isSupportedBy 36 = .ok (.aload_n 0, 1) := by decide +kernel
theorem dX4_isSupportedBy_37 : decode cX4_isSupportedBy 37 = .ok (.iload_n 1, 1) := by decide +kernel
theorem dX4_isSupportedBy_38 : decode cX4_isSupportedBy 38 = .ok (.invokevirtual 53, 3) := by decide +kernel
theorem dX4_isSupportedBy_41 : decode cX4_isSupportedBy 41 = .ok (.istore 4, 2) := by decide +kernel
theorem dX4_isSupportedBy_43 : decode cX4_isSupportedBy 43 = .ok (.iload 4, 2) := by decide +kernel
theorem dX4_isSupportedBy_45 : decode cX4_isSupportedBy 45 = .ok (.iload_n 2, 1) := by decide +kernel
theorem dX4_isSupportedBy_46 : decode cX4_isSupportedBy 46 = .ok (.iload_n 2, 1) := by decide +kernel
theorem dX4_isSupportedBy_47 : decode cX4_isSupportedBy 47 = .ok (.imul, 1) := by decide +kernel
theorem dX4_isSupportedBy_48 : decode cX4_isSupportedBy 48 = .ok (.if_icmp .lt 35, 3) := by decide +kernel
theorem dX4_isSupportedBy_51 : decode cX4_isSupportedBy 51 = .ok (.iload 4, 2) := by decide +kernel
theorem dX4_isSupportedBy_53 : decode cX4_isSupportedBy 53 = .ok (.iload_n 3, 1) := by decide +kernel
theorem dX4_isSupportedBy_54 : decode cX4_isSupportedBy 54 = .ok (.iload_n 3, 1) := by decide +kernel
theorem dX4_isSupportedBy_55 : decode cX4_isSupportedBy 55 = .ok (.imul, 1) := by decide +kernel
theorem dX4_isSupportedBy_56 : decode cX4_isSupportedBy 56 = .ok (.if_icmp .gt 27, 3) := by decide +kernel
theorem dX4_isSupportedBy_59 : decode cX4_isSupportedBy 59 = .ok (.aload_n 0, 1) := by decide +kernel
theorem dX4_isSupportedBy_60 : decode cX4_isSupportedBy 60 = .ok (.getfield 7, 3) := by decide +kernel
theorem dX4_isSupportedBy_63 : decode cX4_isSupportedBy 63 = .ok (.iload_n 1, 1) := by decide +kernel
theorem dX4_isSupportedBy_64 : decode cX4_isSupportedBy 64 = .ok (.aload_n 0, 1) := by decide +kernel
theorem dX4_isSupportedBy_65 : decode cX4_isSupportedBy 65 = .ok (.getfield 19, 3) := by decide +kernel
theorem dX4_isSupportedBy_68 : decode cX4_isSupportedBy 68 = .ok (.aload_n 0, 1) := by decide +kernel
theorem dX4_isSupportedBy_69 : decode cX4_isSupportedBy 69 = .ok (.getfield 26, 3) := by decide +kernel
theorem dX4_isSupportedBy_72 : decode cX4_isSupportedBy 72 = .ok (.iconst 2, 1) := by decide +kernel
theorem dX4_isSupportedBy_73 : decode cX4_isSupportedBy 73 = .ok (.invokevirtual 56, 3) := by decide +kernel
theorem dX4_isSupportedBy_76 : decode cX4_isSupportedBy 76 = .ok (.ifCond .eq 7, 3) := by decide +kernel
theorem dX4_isSupportedBy_79 : decode cX4_isSupportedBy 79 = .ok (.iconst 1, 1) := by decide +kernel
theorem dX4_isSupportedBy_80 : decode cX4_isSupportedBy 80 = .ok (.goto 4, 3) := by decide +kernel
theorem dX4_isSupportedBy_83 : decode cX4_isSupportedBy 83 = .ok (.iconst 0, 1) := by decide +kernel
theorem dX4_isSupportedBy_84 : decode cX4_isSupportedBy 84 = .ok (.ireturn, 1) := by decide +kernel
set_option maxRecDepth 20000 in
theorem ggX4_supporters_X4_isSupportedBy : GoodIn wsX4_supporters wsX4_isSupportedBy := goodIn_r _ [7, 8, 1, 9, 10, 11, 12, 13, 14, 15, 16, 17, 18, 6, 19, 20, 21, 22, 23, 24, 25, 26, 27, 28, 29, 30, 31, 32, 33, 34, 35, 36, 37, 38, 39, 40, 41, 42, 43, 44] (by decide +kernel) (by decide +kernel)
set_option maxRecDepth 20000 in
theorem gX4_supporters_X4_isSupportedBy : GoodIn wsX4_supporters (wsV RX4 63 RX4 yX4_isSupportedBy wsX4_isSupportedBy) := goodIn_app (goodIn_of _ (by decide +kernel)) ggX4_supporters_X4_isSupportedBy
theorem dX4_supporters_0 : decode cX4_supporters 0 = .ok (.iconst 0, 1) := by decide +kernel
theorem dX4_supporters_1 : decode cX4_supporters 1 = .ok (.istore_n 1, 1) := by decide +kernel
theorem dX4_supporters_2 : decode cX4_supporters 2 = .ok (.iconst 0, 1) := by decide +kernel
theorem dX4_supporters_3 : decode cX4_supporters 3 = .ok (.istore_n 2, 1) := by decide +kernel
theorem dX4_supporters_4 : decode cX4_supporters 4 = .ok (.iload_n 2, 1) := by decide +kernel
theorem dX4_supporters_5 : decode cX4_supporters 5 = .ok (.aload_n 0, 1) := by decide +kernel
theorem dX4_supporters_6 : decode cX4_supporters 6 = .ok (.getfield 7, 3) := by decide +kernel
theorem dX4_supporters_9 : decode cX4_supporters 9 = .ok (.getfield 60, 3) := by decide +kernel
theorem dX4_supporters_12 : decode cX4_supporters 12 = .ok (.if_icmp .ge 23, 3) := by decide +kernel
theorem dX4_supporters_15 : decode cX4_supporters 15 = .ok (.aload_n 0, 1) := by decide +kernel
theorem dX4_supporters_16 : decode cX4_supporters 16 = .ok (.iload_n 2, 1) := by decide +kernel
theorem dX4_supporters_17 : decode cX4_supporters 17 = .ok (.invokevirtual 63, 3) := by decide +kernel
theorem dX4_supporters_20 : decode cX4_supporters 20 = .ok (.ifCond .eq 9, 3) := by decide +kernel
theorem dX4_supporters_23 : decode cX4_supporters 23 = .ok (.iload_n 1, 1) := by decide +kernel
theorem dX4_supporters_24 : decode cX4_supporters 24 = .ok (.iconst 1, 1) := by decide +kernel
theorem dX4_supporters_25 : decode cX4_supporters 25 = .ok (.iload_n 2, 1) := by decide +kernel
theorem dX4_supporters_26 : decode cX4_supporters 26 = .ok (.ishl, 1) := by decide +kernel
theorem dX4_supporters_27 : decode cX4_supporters 27 = .ok (.ior, 1) := by decide +kernel
theorem dX4_supporters_28 : decode cX4_supporters 28 = .ok (.istore_n 1, 1) := by decide +kernel
theorem dX4_supporters_29 : decode cX4_supporters 29 = .ok (.iinc 2 1, 3) := by decide +kernel
theorem dX4_supporters_32 : decode cX4_supporters 32 = .ok (.goto (-28), 3) := by decide +kernel
theorem dX4_supporters_35 : decode cX4_supporters 35 = .ok (.iload_n 1, 1) := by decide +kernel
theorem dX4_supporters_36 : decode cX4_supporters 36 = .ok (.ireturn, 1) := by decide +kernel
set_option maxRecDepth 20000 in
theorem ggX4_farness_X4_squared : GoodIn wsX4_farness wsX4_squared := goodIn_r _ [10, 11, 12, 13, 14, 15, 16, 17, 18, 19, 20, 21, 22, 23, 24, 25, 26, 27, 28, 29, 30] (by decide +kernel) (by decide +kernel)
set_option maxRecDepth 20000 in
theorem gX4_farness_X4_squared : GoodIn wsX4_farness (wsV RX4 53 RX4 yX4_squared wsX4_squared) := goodIn_app (goodIn_of _ (by decide +kernel)) ggX4_farness_X4_squared
theorem dX4_farness_0 : decode cX4_farness 0 = .ok (.iconst 2, 1) := by decide +kernel
theorem dX4_farness_1 : decode cX4_farness 1 = .ok (.aload_n 0, 1) := by decide +kernel
theorem dX4_farness_2 : decode cX4_farness 2 = .ok (.getfield 32, 3) := by decide +kernel
theorem dX4_farness_5 : decode cX4_farness 5 = .ok (.imul, 1) := by decide +kernel
theorem dX4_farness_6 : decode cX4_farness 6 = .ok (.iconst 1, 1) := by decide +kernel
theorem dX4_farness_7 : decode cX4_farness 7 = .ok (.iadd, 1) := by decide +kernel
theorem dX4_farness_8 : decode cX4_farness 8 = .ok (.istore_n 2, 1) := by decide +kernel
theorem dX4_farness_9 : decode cX4_farness 9 = .ok (.aload_n 0, 1) := by decide +kernel
theorem dX4_farness_10 : decode cX4_farness 10 = .ok (.iload_n 1, 1) := by decide +kernel
theorem dX4_farness_11 : decode cX4_farness 11 = .ok (.invokevirtual 53, 3) := by decide +kernel
theorem dX4_farness_14 : decode cX4_farness 14 = .ok (.iload_n 2, 1) := by decide +kernel
theorem dX4_farness_15 : decode cX4_farness 15 = .ok (.iload_n 2, 1) := by decide +kernel
theorem dX4_farness_16 : decode cX4_farness 16 = .ok (.imul, 1) := by decide +kernel
theorem dX4_farness_17 : decode cX4_farness 17 = .ok (.isub, 1) := by decide +kernel
theorem dX4_farness_18 : decode cX4_farness 18 = .ok (.invokestatic 67, 3) := by decide +kernel
theorem dX4_farness_21 : decode cX4_farness 21 = .ok (.ireturn, 1) := by decide +kernel
theorem dX4_octant_0 : decode cX4_octant 0 = .ok (.iconst 2, 1) := by decide +kernel
theorem dX4_octant_1 : decode cX4_octant 1 = .ok (.aload_n 0, 1) := by decide +kernel
theorem dX4_octant_2 : decode cX4_octant 2 = .ok (.getfield 7, 3) := by decide +kernel
theorem dX4_octant_5 : decode cX4_octant 5 = .ok (.getfield 35, 3) := by decide +kernel
theorem dX4_octant_8 : decode cX4_octant 8 = .ok (.iload_n 1, 1) := by decide +kernel
theorem dX4_octant_9 : decode cX4_octant 9 = .ok (.iaload, 1) := by decide +kernel
theorem dX4_octant_10 : decode cX4_octant 10 = .ok (.imul, 1) := by decide +kernel
theorem dX4_octant_11 : decode cX4_octant 11 = .ok (.aload_n 0, 1) := by decide +kernel
theorem dX4_octant_12 : decode cX4_octant 12 = .ok (.getfield 19, 3) := by decide +kernel
theorem dX4_octant_15 : decode cX4_octant 15 = .ok (.isub, 1) := by decide +kernel
theorem dX4_octant_16 : decode cX4_octant 16 = .ok (.istore_n 2, 1) := by decide +kernel
theorem dX4_octant_17 : decode cX4_octant 17 = .ok (.iconst 2, 1) := by decide +kernel
theorem dX4_octant_18 : decode cX4_octant 18 = .ok (.aload_n 0, 1) := by decide +kernel
theorem dX4_octant_19 : decode cX4_octant 19 = .ok (.getfield 7, 3) := by decide +kernel
theorem dX4_octant_22 : decode cX4_octant 22 = .ok (.getfield 41, 3) := by decide +kernel
theorem dX4_octant_25 : decode cX4_octant 25 = .ok (.iload_n 1, 1) := by decide +kernel
theorem dX4_octant_26 : decode cX4_octant 26 = .ok (.iaload, 1) := by decide +kernel
theorem dX4_octant_27 : decode cX4_octant 27 = .ok (.imul, 1) := by decide +kernel
theorem dX4_octant_28 : decode cX4_octant 28 = .ok (.aload_n 0, 1) := by decide +kernel
theorem dX4_octant_29 : decode cX4_octant 29 = .ok (.getfield 26, 3) := by decide +kernel
theorem dX4_octant_32 : decode cX4_octant 32 = .ok (.isub, 1) := by decide +kernel
theorem dX4_octant_33 : decode cX4_octant 33 = .ok (.istore_n 3, 1) := by decide +kernel
theorem dX4_octant_34 : decode cX4_octant 34 = .ok (.iload_n 3, 1) := by decide +kernel
theorem dX4_octant_35 : decode cX4_octant 35 = .ok (.ifCond .le 15, 3) := by decide +kernel
theorem dX4_octant_38 : decode cX4_octant 38 = .ok (.iload_n 2, 1) := by decide +kernel
theorem dX4_octant_39 : decode cX4_octant 39 = .ok (.ifCond .le 7, 3) := by decide +kernel
theorem dX4_octant_42 : decode cX4_octant 42 = .ok (.iconst 0, 1) := by decide +kernel
theorem dX4_octant_43 : decode cX4_octant 43 = .ok (.goto 17, 3) := by decide +kernel
theorem dX4_octant_46 : decode cX4_octant 46 = .ok (.iconst 2, 1) := by decide +kernel
theorem dX4_octant_47 : decode cX4_octant 47 = .ok (.goto 13, 3) := by decide +kernel
theorem dX4_octant_50 : decode cX4_octant 50 = .ok (.iload_n 2, 1) := by decide +kernel
theorem dX4_octant_51 : decode cX4_octant 51 = .ok (.ifCond .ge 7, 3) := by decide +kernel
theorem dX4_octant_54 : decode cX4_octant 54 = .ok (.iconst 4, 1) := by decide +kernel
theorem dX4_octant_55 : decode cX4_octant 55 = .ok (.goto 5, 3) := by decide +kernel
theorem dX4_octant_58 : decode cX4_octant 58 = .ok (.bipush 6, 2) := by decide +kernel
theorem dX4_octant_60 : decode cX4_octant 60 = .ok (.istore 4, 2) := by decide +kernel
theorem dX4_octant_62 : decode cX4_octant 62 = .ok (.iload_n 3, 1) := by decide +kernel
theorem dX4_octant_63 : decode cX4_octant 63 = .ok (.iload_n 3, 1) := by decide +kernel
theorem dX4_octant_64 : decode cX4_octant 64 = .ok (.imul, 1) := by decide +kernel
theorem dX4_octant_65 : decode cX4_octant 65 = .ok (.iload_n 2, 1) := by decide +kernel
theorem dX4_octant_66 : decode cX4_octant 66 = .ok (.iload_n 2, 1) := by decide +kernel
theorem dX4_octant_67 : decode cX4_octant 67 = .ok (.imul, 1) := by decide +kernel
theorem dX4_octant_68 : decode cX4_octant 68 = .ok (.if_icmp .le 10, 3) := by decide +kernel
theorem dX4_octant_71 : decode cX4_octant 71 = .ok (.iload 4, 2) := by decide +kernel
theorem dX4_octant_73 : decode cX4_octant 73 = .ok (.iconst 1, 1) := by decide +kernel
theorem dX4_octant_74 : decode cX4_octant 74 = .ok (.iadd, 1) := by decide +kernel
theorem dX4_octant_75 : decode cX4_octant 75 = .ok (.goto 5, 3) := by decide +kernel
theorem dX4_octant_78 : decode cX4_octant 78 = .ok (.iload 4, 2) := by decide +kernel
theorem dX4_octant_80 : decode cX4_octant 80 = .ok (.ireturn, 1) := by decide +kernel
set_option maxRecDepth 20000 in
theorem ggX4_span_X4_octant : GoodIn wsX4_span wsX4_octant := goodIn_r _ [7, 1, 8, 9, 10, 11, 19, 20, 21, 22, 23, 24, 25, 26, 27, 28, 29, 30, 31, 32, 33] (by decide +kernel) (by decide +kernel)
set_option maxRecDepth 20000 in
theorem gX4_span_X4_octant : GoodIn wsX4_span (wsV RX4 70 RX4 yX4_octant wsX4_octant) := goodIn_app (goodIn_of _ (by decide +kernel)) ggX4_span_X4_octant
set_option maxRecDepth 20000 in
theorem ggX4_span_J6_bitCount_0f7a4 : GoodIn wsX4_span wsJ6_bitCount_0f7a4 := goodIn_r _ [15, 16, 17, 18] (by decide +kernel) (by decide +kernel)
set_option maxRecDepth 20000 in
theorem gX4_span_J6_bitCount_0f7a4 : GoodIn wsX4_span (va_wsS RX4 73 yJ6_bitCount_0f7a4 wsJ6_bitCount_0f7a4) := goodIn_app (goodIn_of _ (by decide +kernel)) ggX4_span_J6_bitCount_0f7a4
theorem dX4_span_0 : decode cX4_span 0 = .ok (.iconst 0, 1) := by decide +kernel
theorem dX4_span_1 : decode cX4_span 1 = .ok (.istore_n 2, 1) := by decide +kernel
theorem dX4_span_2 : decode cX4_span 2 = .ok (.iconst 0, 1) := by decide +kernel
theorem dX4_span_3 : decode cX4_span 3 = .ok (.istore_n 3, 1) := by decide +kernel
theorem dX4_span_4 : decode cX4_span 4 = .ok (.iload_n 3, 1) := by decide +kernel
theorem dX4_span_5 : decode cX4_span 5 = .ok (.aload_n 0, 1) := by decide +kernel
theorem dX4_span_6 : decode cX4_span 6 = .ok (.getfield 7, 3) := by decide +kernel
theorem dX4_span_9 : decode cX4_span 9 = .ok (.getfield 60, 3) := by decide +kernel
theorem dX4_span_12 : decode cX4_span 12 = .ok (.if_icmp .ge 28, 3) := by decide +kernel
theorem dX4_span_15 : decode cX4_span 15 = .ok (.iload_n 1, 1) := by decide +kernel
theorem dX4_span_16 : decode cX4_span 16 = .ok (.iload_n 3, 1) := by decide +kernel
theorem dX4_span_17 : decode cX4_span 17 = .ok (.ishr, 1) := by decide +kernel
theorem dX4_span_18 : decode cX4_span 18 = .ok (.iconst 1, 1) := by decide +kernel
theorem dX4_span_19 : decode cX4_span 19 = .ok (.iand, 1) := by decide +kernel
theorem dX4_span_20 : decode cX4_span 20 = .ok (.iconst 1, 1) := by decide +kernel
theorem dX4_span_21 : decode cX4_span 21 = .ok (.if_icmp .ne 13, 3) := by decide +kernel
theorem dX4_span_24 : decode cX4_span 24 = .ok (.iload_n 2, 1) := by decide +kernel
theorem dX4_span_25 : decode cX4_span 25 = .ok (.iconst 1, 1) := by decide +kernel
theorem dX4_span_26 : decode cX4_span 26 = .ok (.aload_n 0, 1) := by decide +kernel
theorem dX4_span_27 : decode cX4_span 27 = .ok (.iload_n 3, 1) := by decide +kernel
theorem dX4_span_28 : decode cX4_span 28 = .ok (.invokevirtual 70, 3) := by decide +kernel
theorem dX4_span_31 : decode cX4_span 31 = .ok (.ishl, 1) := by decide +kernel
theorem dX4_span_32 : decode cX4_span 32 = .ok (.ior, 1) := by decide +kernel
theorem dX4_span_33 : decode cX4_span 33 = .ok (.istore_n 2, 1) := by decide +kernel
theorem dX4_span_34 : decode cX4_span 34 = .ok (.iinc 3 1, 3) := by decide +kernel
theorem dX4_span_37 : decode cX4_span 37 = .ok (.goto (-33), 3) := by decide +kernel
theorem dX4_span_40 : decode cX4_span 40 = .ok (.iload_n 2, 1) := by decide +kernel
theorem dX4_span_41 : decode cX4_span 41 = .ok (.invokestatic 73, 3) := by decide +kernel
theorem dX4_span_44 : decode cX4_span 44 = .ok (.ireturn, 1) := by decide +kernel
theorem dX5_init_0 : decode cX5_init 0 = .ok (.aload_n 0, 1) := by decide +kernel
theorem dX5_init_1 : decode cX5_init 1 = .ok (.invokespecial 3, 3) := by decide +kernel
theorem dX5_init_4 : decode cX5_init 4 = .ok (.aload_n 0, 1) := by decide +kernel
theorem dX5_init_5 : decode cX5_init 5 = .ok (.sipush 364, 3) := by decide +kernel
theorem dX5_init_8 : decode cX5_init 8 = .ok (.newarray .int, 2) := by decide +kernel
theorem dX5_init_10 : decode cX5_init 10 = .ok (.putfield 9, 3) := by decide +kernel
theorem dX5_init_13 : decode cX5_init 13 = .ok (.aload_n 0, 1) := by decide +kernel
theorem dX5_init_14 : decode cX5_init 14 = .ok (.sipush 364, 3) := by decide +kernel
theorem dX5_init_17 : decode cX5_init 17 = .ok (.newarray .int, 2) := by decide +kernel
theorem dX5_init_19 : decode cX5_init 19 = .ok (.putfield 15, 3) := by decide +kernel
theorem dX5_init_22 : decode cX5_init 22 = .ok (.aload_n 0, 1) := by decide +kernel
theorem dX5_init_23 : decode cX5_init 23 = .ok (.sipush 364, 3) := by decide +kernel
theorem dX5_init_26 : decode cX5_init 26 = .ok (.newarray .int, 2) := by decide +kernel
theorem dX5_init_28 : decode cX5_init 28 = .ok (.putfield 18, 3) := by decide +kernel
theorem dX5_init_31 : decode cX5_init 31 = .ok (.aload_n 0, 1) := by decide +kernel
theorem dX5_init_32 : decode cX5_init 32 = .ok (.aload_n 1, 1) := by decide +kernel
theorem dX5_init_33 : decode cX5_init 33 = .ok (.putfield 21, 3) := by decide +kernel
theorem dX5_init_36 : decode cX5_init 36 = .ok (.aload_n 0, 1) := by decide +kernel
theorem dX5_init_37 : decode cX5_init 37 = .ok (.aload_n 2, 1) := by decide +kernel
theorem dX5_init_38 : decode cX5_init 38 = .ok (.putfield 25, 3) := by decide +kernel
theorem dX5_init_41 : decode cX5_init 41 = .ok (.aload_n 0, 1) := by decide +kernel
theorem dX5_init_42 : decode cX5_init 42 = .ok (.aload_n 3, 1) := by decide +kernel
theorem dX5_init_43 : decode cX5_init 43 = .ok (.putfield 29, 3) := by decide +kernel
theorem dX5_init_46 : decode cX5_init 46 = .ok (.return_, 1) := by decide +kernel
set_option maxRecDepth 20000 in
theorem ggX5_refresh_X5_gatherBallots : GoodIn wsX5_refresh wsX5_gatherBallots := goodIn_r _ [12, 3, 13, 14, 15, 16, 17, 18, 11, 19, 20, 2, 21, 22, 23, 24, 25, 26, 27, 28, 29, 30, 31, 32, 33, 34, 35, 36, 37, 38, 39, 40, 41, 42, 43, 44, 45, 46, 47, 48, 49, 50, 51, 52, 53, 54, 55, 56, 57, 58, 59, 60, 61, 62, 63, 64, 65, 66, 67, 68, 69, 70, 71, 72, 73, 74, 75, 76, 77, 78, 79, 80, 81, 82, 83, 84, 85, 86, 134, 135, 136, 137, 138, 139, 140, 141, 142, 143, 144, 145, 146, 147, 148, 149, 150, 151, 152, 153, 154, 155, 156, 157, 158, 159, 160, 161] (by decide +kernel) (by decide +kernel)
set_option maxRecDepth 20000 in
theorem gX5_refresh_X5_gatherBallots : GoodIn wsX5_refresh (wsV RX5 37 RX5 yX5_gatherBallots wsX5_gatherBallots) := goodIn_app (goodIn_of _ (by decide +kernel)) ggX5_refresh_X5_gatherBallots
set_option maxRecDepth 20000 in
theorem ggX5_refresh_X5_sortUp : GoodIn wsX5_refresh wsX5_sortUp := goodIn_r _ [89] (by decide +kernel) (by decide +kernel)
set_option maxRecDepth 20000 in
theorem gX5_refresh_X5_sortUp : GoodIn wsX5_refresh (va_wsS RX5 44 yX5_sortUp wsX5_sortUp) := goodIn_app (goodIn_of _ (by decide +kernel)) ggX5_refresh_X5_sortUp
set_option maxRecDepth 20000 in
theorem ggX5_refresh_X5_countBallots : GoodIn wsX5_refresh wsX5_countBallots := goodIn_r _ [93, 5, 3, 2, 4, 134, 135, 136, 137, 138, 139, 140, 141, 142, 143] (by decide +kernel) (by decide +kernel)
set_option maxRecDepth 20000 in
theorem gX5_refresh_X5_countBallots : GoodIn wsX5_refresh (wsV RX5 48 RX5 yX5_countBallots wsX5_countBallots) := goodIn_app (goodIn_of _ (by decide +kernel)) ggX5_refresh_X5_countBallots
set_option maxRecDepth 20000 in
theorem ggX5_refresh_X5_keyAt : GoodIn wsX5_refresh wsX5_keyAt := goodIn_r _ [97, 4, 134, 135, 136, 137, 138, 139, 140, 141, 142, 143] (by decide +kernel) (by decide +kernel)
set_option maxRecDepth 20000 in
theorem gX5_refresh_X5_keyAt : GoodIn wsX5_refresh (wsV RX5 54 RX5 yX5_keyAt wsX5_keyAt) := goodIn_app (goodIn_of _ (by decide +kernel)) ggX5_refresh_X5_keyAt
set_option maxRecDepth 20000 in
theorem ggX5_refresh_X4_from : GoodIn wsX5_refresh wsX4_from := goodIn_r _ [102, 103, 104, 105, 106, 85, 107, 108, 109, 110, 111, 162, 163, 164, 165] (by decide +kernel) (by decide +kernel)
set_option maxRecDepth 20000 in
theorem gX5_refresh_X4_from : GoodIn wsX5_refresh (wsV RX5 58 RX4 yX4_from wsX4_from) := goodIn_app (goodIn_of _ (by decide +kernel)) ggX5_refresh_X4_from
set_option maxRecDepth 20000 in
theorem ggX5_refresh_X4_supporters : GoodIn wsX5_refresh wsX4_supporters := goodIn_r _ [115, 116, 117, 118, 119, 120, 101, 121, 105, 122, 123, 124, 125, 126, 103, 104, 127, 128, 129, 130, 131, 132, 133, 70, 71, 61, 72, 73, 74, 75, 162, 163, 164, 165, 144, 145, 146, 147, 148, 149, 150, 151, 152, 153, 154] (by decide +kernel) (by decide +kernel)
set_option maxRecDepth 20000 in
theorem gX5_refresh_X4_supporters : GoodIn wsX5_refresh (wsV RX5 64 RX4 yX4_supporters wsX4_supporters) := goodIn_app (goodIn_of _ (by decide +kernel)) ggX5_refresh_X4_supporters
theorem dX5_refresh_0 : decode cX5_refresh 0 = .ok (.aload_n 0, 1) := by decide +kernel
theorem dX5_refresh_1 : decode cX5_refresh 1 = .ok (.getfield 33, 3) := by decide +kernel
theorem dX5_refresh_4 : decode cX5_refresh 4 = .ok (.ifCond .eq 4, 3) := by decide +kernel
theorem dX5_refresh_7 : decode cX5_refresh 7 = .ok (.return_, 1) := by decide +kernel
theorem dX5_refresh_8 : decode cX5_refresh 8 = .ok (.aload_n 0, 1) := by decide +kernel
theorem dX5_refresh_9 : decode cX5_refresh 9 = .ok (.invokevirtual 37, 3) := by decide +kernel
theorem dX5_refresh_12 : decode cX5_refresh 12 = .ok (.aload_n 0, 1) := by decide +kernel
theorem dX5_refresh_13 : decode cX5_refresh 13 = .ok (.getfield 9, 3) := by decide +kernel
theorem dX5_refresh_16 : decode cX5_refresh 16 = .ok (.aload_n 0, 1) := by decide +kernel
theorem dX5_refresh_17 : decode cX5_refresh 17 = .ok (.getfield 40, 3) := by decide +kernel
theorem dX5_refresh_20 : decode cX5_refresh 20 = .ok (.invokestatic 44, 3) := by decide +kernel
theorem dX5_refresh_23 : decode cX5_refresh 23 = .ok (.aload_n 0, 1) := by decide +kernel
theorem dX5_refresh_24 : decode cX5_refresh 24 = .ok (.invokevirtual 48, 3) := by decide +kernel
theorem dX5_refresh_27 : decode cX5_refresh 27 = .ok (.aload_n 0, 1) := by decide +kernel
theorem dX5_refresh_28 : decode cX5_refresh 28 = .ok (.getfield 15, 3) := by decide +kernel
theorem dX5_refresh_31 : decode cX5_refresh 31 = .ok (.aload_n 0, 1) := by decide +kernel
theorem dX5_refresh_32 : decode cX5_refresh 32 = .ok (.getfield 51, 3) := by decide +kernel
theorem dX5_refresh_35 : decode cX5_refresh 35 = .ok (.invokestatic 44, 3) := by decide +kernel
theorem dX5_refresh_38 : decode cX5_refresh 38 = .ok (.iconst 0, 1) := by decide +kernel
theorem dX5_refresh_39 : decode cX5_refresh 39 = .ok (.istore_n 1, 1) := by decide +kernel
theorem dX5_refresh_40 : decode cX5_refresh 40 = .ok (.iload_n 1, 1) := by decide +kernel
theorem dX5_refresh_41 : decode cX5_refresh 41 = .ok (.aload_n 0, 1) := by decide +kernel
theorem dX5_refresh_42 : decode cX5_refresh 42 = .ok (.getfield 51, 3) := by decide +kernel
theorem dX5_refresh_45 : decode cX5_refresh 45 = .ok (.if_icmp .ge 34, 3) := by decide +kernel
theorem dX5_refresh_48 : decode cX5_refresh 48 = .ok (.aload_n 0, 1) := by decide +kernel
theorem dX5_refresh_49 : decode cX5_refresh 49 = .ok (.getfield 29, 3) := by decide +kernel
theorem dX5_refresh_52 : decode cX5_refresh 52 = .ok (.aload_n 0, 1) := by decide +kernel
theorem dX5_refresh_53 : decode cX5_refresh 53 = .ok (.iload_n 1, 1) := by decide +kernel
theorem dX5_refresh_54 : decode cX5_refresh 54 = .ok (.invokevirtual 54, 3) := by decide +kernel
theorem dX5_refresh_57 : decode cX5_refresh 57 = .ok (.invokevirtual 58, 3) := by decide +kernel
theorem dX5_refresh_60 : decode cX5_refresh 60 = .ok (.aload_n 0, 1) := by decide +kernel
theorem dX5_refresh_61 : decode cX5_refresh 61 = .ok (.getfield 18, 3) := by decide +kernel
theorem dX5_refresh_64 : decode cX5_refresh 64 = .ok (.iload_n 1, 1) := by decide +kernel
theorem dX5_refresh_65 : decode cX5_refresh 65 = .ok (.aload_n 0, 1) := by decide +kernel
theorem dX5_refresh_66 : decode cX5_refresh 66 = .ok (.getfield 29, 3) := by decide +kernel
theorem dX5_refresh_69 : decode cX5_refresh 69 = .ok (.invokevirtual 64, 3) := by decide +kernel
theorem dX5_refresh_72 : decode cX5_refresh 72 = .ok (.iastore, 1) := by decide +kernel
theorem dX5_refresh_73 : decode cX5_refresh 73 = .ok (.iinc 1 1, 3) := by decide +kernel
theorem dX5_refresh_76 : decode cX5_refresh 76 = .ok (.goto (-36), 3) := by decide +kernel
theorem dX5_refresh_79 : decode cX5_refresh 79 = .ok (.aload_n 0, 1) := by decide +kernel
theorem dX5_refresh_80 : decode cX5_refresh 80 = .ok (.iconst 1, 1) := by decide +kernel
theorem dX5_refresh_81 : decode cX5_refresh 81 = .ok (.putfield 33, 3) := by decide +kernel
theorem dX5_refresh_84 : decode cX5_refresh 84 = .ok (.return_, 1) := by decide +kernel
set_option maxRecDepth 20000 in
theorem ggX5_gatherBallots_X5_gatherBallot : GoodIn wsX5_gatherBallots wsX5_gatherBallot := goodIn_r _ [9, 10, 2, 1, 11, 12, 13, 14, 15, 16, 17, 18, 19, 20, 21, 22, 23, 24, 25, 26, 27, 28, 29, 30, 31, 32, 33, 34, 35, 36, 37, 38, 39, 40, 41, 42, 43, 44, 45, 46, 47, 48, 49, 50, 51, 52, 53, 54, 55, 56, 57, 58, 59, 60, 61, 62, 63, 64, 65, 66, 67, 68, 69, 70, 71, 72, 73, 74, 75, 76, 77, 78, 79, 80, 81, 82, 83, 84, 85, 86, 87, 99, 100, 101, 102, 103, 104, 105, 88, 89, 90, 91, 92, 93, 94, 95, 96, 97, 98] (by decide +kernel) (by decide +kernel)
set_option maxRecDepth 20000 in
theorem gX5_gatherBallots_X5_gatherBallot : GoodIn wsX5_gatherBallots (wsV RX5 75 RX5 yX5_gatherBallot wsX5_gatherBallot) := goodIn_app (goodIn_of _ (by decide +kernel)) ggX5_gatherBallots_X5_gatherBallot
theorem dX5_gatherBallots_0 : decode cX5_gatherBallots 0 = .ok (.aload_n 0, 1) := by decide +kernel
theorem dX5_gatherBallots_1 : decode cX5_gatherBallots 1 = .ok (.iconst 0, 1) := by decide +kernel
theorem dX5_gatherBallots_2 : decode cX5_gatherBallots 2 = .ok (.putfield 40, 3) := by decide +kernel
theorem dX5_gatherBallots_5 : decode cX5_gatherBallots 5 = .ok (.aload_n 0, 1) := by decide +kernel
theorem dX5_gatherBallots_6 : decode cX5_gatherBallots 6 = .ok (.iconst 0, 1) := by decide +kernel
theorem dX5_gatherBallots_7 : decode cX5_gatherBallots 7 = .ok (.putfield 67, 3) := by decide +kernel
theorem dX5_gatherBallots_10 : decode cX5_gatherBallots 10 = .ok (.iconst 0, 1) := by decide +kernel
theorem dX5_gatherBallots_11 : decode cX5_gatherBallots 11 = .ok (.istore_n 1, 1) := by decide +kernel
theorem dX5_gatherBallots_12 : decode cX5_gatherBallots 12 = .ok (.iload_n 1, 1) := by decide +kernel
theorem dX5_gatherBallots_13 : decode cX5_gatherBallots 13 = .ok (.aload_n 0, 1) := by decide +kernel
theorem dX5_gatherBallots_14 : decode cX5_gatherBallots 14 = .ok (.getfield 21, 3) := by decide +kernel
theorem dX5_gatherBallots_17 : decode cX5_gatherBallots 17 = .ok (.getfield 70, 3) := by decide +kernel
theorem dX5_gatherBallots_20 : decode cX5_gatherBallots 20 = .ok (.if_icmp .ge 58, 3) := by decide +kernel
theorem dX5_gatherBallots_23 : decode cX5_gatherBallots 23 = .ok (.iload_n 1, 1) := by decide +kernel
theorem dX5_gatherBallots_24 : decode cX5_gatherBallots 24 = .ok (.iconst 1, 1) := by decide +kernel
theorem dX5_gatherBallots_25 : decode cX5_gatherBallots 25 = .ok (.iadd, 1) := by decide +kernel
theorem dX5_gatherBallots_26 : decode cX5_gatherBallots 26 = .ok (.istore_n 2, 1) := by decide +kernel
theorem dX5_gatherBallots_27 : decode cX5_gatherBallots 27 = .ok (.iload_n 2, 1) := by decide +kernel
theorem dX5_gatherBallots_28 : decode cX5_gatherBallots 28 = .ok (.aload_n 0, 1) := by decide +kernel
theorem dX5_gatherBallots_29 : decode cX5_gatherBallots 29 = .ok (.getfield 21, 3) := by decide +kernel
theorem dX5_gatherBallots_32 : decode cX5_gatherBallots 32 = .ok (.getfield 70, 3) := by decide +kernel
theorem dX5_gatherBallots_35 : decode cX5_gatherBallots 35 = .ok (.if_icmp .ge 37, 3) := by decide +kernel
theorem dX5_gatherBallots_38 : decode cX5_gatherBallots 38 = .ok (.iload_n 2, 1) := by decide +kernel
theorem dX5_gatherBallots_39 : decode cX5_gatherBallots 39 = .ok (.iconst 1, 1) := by decide +kernel
theorem dX5_gatherBallots_40 : decode cX5_gatherBallots 40 = .ok (.iadd, 1) := by decide +kernel
theorem dX5_gatherBallots_41 : decode cX5_gatherBallots 41 = .ok (.istore_n 3, 1) := by decide +kernel
theorem dX5_gatherBallots_42 : decode cX5_gatherBallots 42 = .ok (.iload_n 3, 1) := by decide +kernel
theorem dX5_gatherBallots_43 : decode cX5_gatherBallots 43 = .ok (.aload_n 0, 1) := by decide +kernel
theorem dX5_gatherBallots_44 : decode cX5_gatherBallots 44 = .ok (.getfield 21, 3) := by decide +kernel
theorem dX5_gatherBallots_47 : decode cX5_gatherBallots 47 = .ok (.getfield 70, 3) := by decide +kernel
theorem dX5_gatherBallots_50 : decode cX5_gatherBallots 50 = .ok (.if_icmp .ge 16, 3) := by decide +kernel
theorem dX5_gatherBallots_53 : decode cX5_gatherBallots 53 = .ok (.aload_n 0, 1) := by decide +kernel
theorem dX5_gatherBallots_54 : decode cX5_gatherBallots 54 = .ok (.iload_n 1, 1) := by decide +kernel
theorem dX5_gatherBallots_55 : decode cX5_gatherBallots 55 = .ok (.iload_n 2, 1) := by decide +kernel
theorem dX5_gatherBallots_56 : decode cX5_gatherBallots 56 = .ok (.iload_n 3, 1) := by decide +kernel
theorem dX5_gatherBallots_57 : decode cX5_gatherBallots 57 = .ok (.invokevirtual 75, 3) := by decide +kernel
theorem dX5_gatherBallots_60 : decode cX5_gatherBallots 60 = .ok (.iinc 3 1, 3) := by decide +kernel
theorem dX5_gatherBallots_63 : decode cX5_gatherBallots 63 = .ok (.goto (-21), 3) := by decide +kernel
theorem dX5_gatherBallots_66 : decode cX5_gatherBallots 66 = .ok (.iinc 2 1, 3) := by decide +kernel
theorem dX5_gatherBallots_69 : decode cX5_gatherBallots 69 = .ok (.goto (-42), 3) := by decide +kernel
theorem dX5_gatherBallots_72 : decode cX5_gatherBallots 72 = .ok (.iinc 1 1, 3) := by decide +kernel
theorem dX5_gatherBallots_75 : decode cX5_gatherBallots 75 = .ok (.goto (-63), 3) := by decide +kernel
theorem dX5_gatherBallots_78 : decode cX5_gatherBallots 78 = .ok (.return_, 1) := by decide +kernel
set_option maxRecDepth 20000 in
theorem ggX5_gatherBallot_X1_lay : GoodIn wsX5_gatherBallot wsX1_lay := goodIn_r _ [9, 10, 11, 12, 13, 14, 15, 16, 17, 18, 81, 82, 83, 84, 85, 86, 87, 88, 89, 90, 91, 92, 93, 94, 95, 96, 97, 98] (by decide +kernel) (by decide +kernel)
set_option maxRecDepth 20000 in
theorem gX5_gatherBallot_X1_lay : GoodIn wsX5_gatherBallot (wsV RX5 79 RX1 yX1_lay wsX1_lay) := goodIn_app (goodIn_of _ (by decide +kernel)) ggX5_gatherBallot_X1_lay
set_option maxRecDepth 20000 in
theorem ggX5_gatherBallot_X1_isLine : GoodIn wsX5_gatherBallot wsX1_isLine := goodIn_r _ [22, 16, 81, 82, 83, 84, 85, 86, 87] (by decide +kernel) (by decide +kernel)
set_option maxRecDepth 20000 in
theorem gX5_gatherBallot_X1_isLine : GoodIn wsX5_gatherBallot (wsV RX5 84 RX1 yX1_isLine wsX1_isLine) := goodIn_app (goodIn_of _ (by decide +kernel)) ggX5_gatherBallot_X1_isLine
set_option maxRecDepth 20000 in
theorem ggX5_gatherBallot_X1_vote : GoodIn wsX5_gatherBallot wsX1_vote := goodIn_r _ [26, 13, 27, 28, 29, 20, 21, 8, 22, 16, 30, 31, 32, 33, 17, 34, 35, 36, 37, 38, 39, 40, 41, 18, 42, 43, 44, 45, 46, 47, 48, 49, 50, 51, 52, 10, 11, 12, 53, 54, 55, 56, 57, 58, 59, 60, 61, 62, 63, 14, 15, 64, 65, 66, 67, 68, 69, 70, 81, 82, 83, 84, 85, 86, 87, 88, 89, 90, 91, 92, 93, 94, 95, 96, 97, 98] (by decide +kernel) (by decide +kernel)
set_option maxRecDepth 20000 in
theorem gX5_gatherBallot_X1_vote : GoodIn wsX5_gatherBallot (wsV RX5 88 RX1 yX1_vote wsX1_vote) := goodIn_app (goodIn_of _ (by decide +kernel)) ggX5_gatherBallot_X1_vote
theorem dX5_gatherBallot_0 : decode cX5_gatherBallot 0 = .ok (.aload_n 0, 1) := by decide +kernel
theorem dX5_gatherBallot_1 : decode cX5_gatherBallot 1 = .ok (.getfield 25, 3) := by decide +kernel
theorem dX5_gatherBallot_4 : decode cX5_gatherBallot 4 = .ok (.iload_n 1, 1) := by decide +kernel
theorem dX5_gatherBallot_5 : decode cX5_gatherBallot 5 = .ok (.iload_n 2, 1) := by decide +kernel
theorem dX5_gatherBallot_6 : decode cX5_gatherBallot 6 = .ok (.iload_n 3, 1) := by decide +kernel
theorem dX5_gatherBallot_7 : decode cX5_gatherBallot 7 = .ok (.invokevirtual 79, 3) := by decide +kernel
theorem dX5_gatherBallot_10 : decode cX5_gatherBallot 10 = .ok (.aload_n 0, 1) := by decide +kernel
theorem dX5_gatherBallot_11 : decode cX5_gatherBallot 11 = .ok (.getfield 25, 3) := by decide +kernel
theorem dX5_gatherBallot_14 : decode cX5_gatherBallot 14 = .ok (.invokevirtual 84, 3) := by decide +kernel
theorem dX5_gatherBallot_17 : decode cX5_gatherBallot 17 = .ok (.ifCond .eq 4, 3) := by decide +kernel
theorem dX5_gatherBallot_20 : decode cX5_gatherBallot 20 = .ok (.return_, 1) := by decide +kernel
theorem dX5_gatherBallot_21 : decode cX5_gatherBallot 21 = .ok (.aload_n 0, 1) := by decide +kernel
theorem dX5_gatherBallot_22 : decode cX5_gatherBallot 22 = .ok (.dup, 1) := by decide +kernel
theorem dX5_gatherBallot_23 : decode cX5_gatherBallot 23 = .ok (.getfield 67, 3) := by decide +kernel
theorem dX5_gatherBallot_26 : decode cX5_gatherBallot 26 = .ok (.iconst 1, 1) := by decide +kernel
theorem dX5_gatherBallot_27 : decode cX5_gatherBallot 27 = .ok (.iadd, 1) := by decide +kernel
theorem dX5_gatherBallot_28 : decode cX5_gatherBallot 28 = .ok (.putfield 67, 3) := by decide +kernel
theorem dX5_gatherBallot_31 : decode cX5_gatherBallot 31 = .ok (.aload_n 0, 1) := by decide +kernel
theorem dX5_gatherBallot_32 : decode cX5_gatherBallot 32 = .ok (.getfield 25, 3) := by decide +kernel
theorem dX5_gatherBallot_35 : decode cX5_gatherBallot 35 = .ok (.invokevirtual 88, 3) := by decide +kernel
theorem dX5_gatherBallot_38 : decode cX5_gatherBallot 38 = .ok (.istore 4, 2) := by decide +kernel
theorem dX5_gatherBallot_40 : decode cX5_gatherBallot 40 = .ok (.iload 4, 2) := by decide +kernel
theorem dX5_gatherBallot_42 : decode cX5_gatherBallot 42 = .ok (.iconst (-1), 1) := by decide +kernel
theorem dX5_gatherBallot_43 : decode cX5_gatherBallot 43 = .ok (.if_icmp .eq 34, 3) := by decide +kernel
theorem dX5_gatherBallot_46 : decode cX5_gatherBallot 46 = .ok (.aload_n 0, 1) := by decide +kernel
theorem dX5_gatherBallot_47 : decode cX5_gatherBallot 47 = .ok (.getfield 40, 3) := by decide +kernel
theorem dX5_gatherBallot_50 : decode cX5_gatherBallot 50 = .ok (.sipush 364, 3) := by decide +kernel
theorem dX5_gatherBallot_53 : decode cX5_gatherBallot 53 = .ok (.if_icmp .ge 24, 3) := by decide +kernel
theorem dX5_gatherBallot_56 : decode cX5_gatherBallot 56 = .ok (.aload_n 0, 1) := by decide +kernel
theorem dX5_gatherBallot_57 : decode cX5_gatherBallot 57 = .ok (.getfield 9, 3) := by decide +kernel
theorem dX5_gatherBallot_60 : decode cX5_gatherBallot 60 = .ok (.aload_n 0, 1) := by decide +kernel
theorem dX5_gatherBallot_61 : decode cX5_gatherBallot 61 = .ok (.getfield 40, 3) := by decide +kernel
theorem dX5_gatherBallot_64 : decode cX5_gatherBallot 64 = .ok (.iload 4, 2) := by decide +kernel
theorem dX5_gatherBallot_66 : decode cX5_gatherBallot 66 = .ok (.iastore, 1) := by decide +kernel
theorem dX5_gatherBallot_67 : decode cX5_gatherBallot 67 = .ok (.aload_n 0, 1) := by decide +kernel
theorem dX5_gatherBallot_68 : decode cX5_gatherBallot 68 = .ok (.dup, 1) := by decide +kernel
theorem dX5_gatherBallot_69 : decode cX5_gatherBallot 69 = .ok (.getfield 40, 3) := by decide +kernel
theorem dX5_gatherBallot_72 : decode cX5_gatherBallot 72 = .ok (.iconst 1, 1) := by decide +kernel
theorem dX5_gatherBallot_73 : decode cX5_gatherBallot 73 = .ok (.iadd, 1) := by decide +kernel
theorem dX5_gatherBallot_74 : decode cX5_gatherBallot 74 = .ok (.putfield 40, 3) := by decide +kernel
theorem dX5_gatherBallot_77 : decode cX5_gatherBallot 77 = .ok (.return_, 1) := by decide +kernel
theorem dX5_countBallots_0 : decode cX5_countBallots 0 = .ok (.aload_n 0, 1) := by decide +kernel
theorem dX5_countBallots_1 : decode cX5_countBallots 1 = .ok (.iconst 0, 1) := by decide +kernel
theorem dX5_countBallots_2 : decode cX5_countBallots 2 = .ok (.putfield 51, 3) := by decide +kernel
theorem dX5_countBallots_5 : decode cX5_countBallots 5 = .ok (.iconst 0, 1) := by decide +kernel
theorem dX5_countBallots_6 : decode cX5_countBallots 6 = .ok (.istore_n 1, 1) := by decide +kernel
theorem dX5_countBallots_7 : decode cX5_countBallots 7 = .ok (.iconst 0, 1) := by decide +kernel
theorem dX5_countBallots_8 : decode cX5_countBallots 8 = .ok (.istore_n 2, 1) := by decide +kernel
theorem dX5_countBallots_9 : decode cX5_countBallots 9 = .ok (.iload_n 2, 1) := by decide +kernel
theorem dX5_countBallots_10 : decode cX5_countBallots 10 = .ok (.aload_n 0, 1) := by decide +kernel
theorem dX5_countBallots_11 : decode cX5_countBallots 11 = .ok (.getfield 40, 3) := by decide +kernel
theorem dX5_countBallots_14 : decode cX5_countBallots 14 = .ok (.if_icmp .ge 78, 3) := by decide +kernel
theorem dX5_countBallots_17 : decode cX5_countBallots 17 = .ok (.iload_n 2, 1) := by decide +kernel
theorem dX5_countBallots_18 : decode cX5_countBallots 18 = .ok (.iconst 1, 1) := by decide +kernel
theorem dX5_countBallots_19 : decode cX5_countBallots 19 = .ok (.iadd, 1) := by decide +kernel
theorem dX5_countBallots_20 : decode cX5_countBallots 20 = .ok (.aload_n 0, 1) := by decide +kernel
theorem dX5_countBallots_21 : decode cX5_countBallots 21 = .ok (.getfield 40, 3) := by decide +kernel
theorem dX5_countBallots_24 : decode cX5_countBallots 24 = .ok (.if_icmp .eq 20, 3) := by decide +kernel
theorem dX5_countBallots_27 : decode cX5_countBallots 27 = .ok (.aload_n 0, 1) := by decide +kernel
theorem dX5_countBallots_28 : decode cX5_countBallots 28 = .ok (.getfield 9, 3) := by decide +kernel
theorem dX5_countBallots_31 : decode cX5_countBallots 31 = .ok (.iload_n 2, 1) := by decide +kernel
theorem dX5_countBallots_32 : decode cX5_countBallots 32 = .ok (.iconst 1, 1) := by decide +kernel
theorem dX5_countBallots_33 : decode cX5_countBallots 33 = .ok (.iadd, 1) := by decide +kernel
theorem dX5_countBallots_34 : decode cX5_countBallots 34 = .ok (.iaload, 1) := by decide +kernel
theorem dX5_countBallots_35 : decode cX5_countBallots 35 = .ok (.aload_n 0, 1) := by decide +kernel
theorem dX5_countBallots_36 : decode cX5_countBallots 36 = .ok (.getfield 9, 3) := by decide +kernel
theorem dX5_countBallots_39 : decode cX5_countBallots 39 = .ok (.iload_n 2, 1) := by decide +kernel
theorem dX5_countBallots_40 : decode cX5_countBallots 40 = .ok (.iaload, 1) := by decide +kernel
theorem dX5_countBallots_41 : decode cX5_countBallots 41 = .ok (.if_icmp .eq 45, 3) := by decide +kernel
theorem dX5_countBallots_44 : decode cX5_countBallots 44 = .ok (.aload_n 0, 1) := by decide +kernel
theorem dX5_countBallots_45 : decode cX5_countBallots 45 = .ok (.getfield 15, 3) := by decide +kernel
theorem dX5_countBallots_48 : decode cX5_countBallots 48 = .ok (.aload_n 0, 1) := by decide +kernel
theorem dX5_countBallots_49 : decode cX5_countBallots 49 = .ok (.getfield 51, 3) := by decide +kernel
theorem dX5_countBallots_52 : decode cX5_countBallots 52 = .ok (.sipush 364, 3) := by decide +kernel
theorem dX5_countBallots_55 : decode cX5_countBallots 55 = .ok (.iload_n 2, 1) := by decide +kernel
theorem dX5_countBallots_56 : decode cX5_countBallots 56 = .ok (.iconst 1, 1) := by decide +kernel
theorem dX5_countBallots_57 : decode cX5_countBallots 57 = .ok (.iadd, 1) := by decide +kernel
theorem dX5_countBallots_58 : decode cX5_countBallots 58 = .ok (.iload_n 1, 1) := by decide +kernel
theorem dX5_countBallots_59 : decode cX5_countBallots 59 = .ok (.isub, 1) := by decide +kernel
theorem dX5_countBallots_60 : decode cX5_countBallots 60 = .ok (.isub, 1) := by decide +kernel
theorem dX5_countBallots_61 : decode cX5_countBallots 61 = .ok (.bipush 15, 2) := by decide +kernel
theorem dX5_countBallots_63 : decode cX5_countBallots 63 = .ok (.ishl, 1) := by decide +kernel
theorem dX5_countBallots_64 : decode cX5_countBallots 64 = .ok (.aload_n 0, 1) := by decide +kernel
theorem dX5_countBallots_65 : decode cX5_countBallots 65 = .ok (.getfield 9, 3) := by decide +kernel
theorem dX5_countBallots_68 : decode cX5_countBallots 68 = .ok (.iload_n 2, 1) := by decide +kernel
theorem dX5_countBallots_69 : decode cX5_countBallots 69 = .ok (.iaload, 1) := by decide +kernel
theorem dX5_countBallots_70 : decode cX5_countBallots 70 = .ok (.ior, 1) := by decide +kernel
theorem dX5_countBallots_71 : decode cX5_countBallots 71 = .ok (.iastore, 1) := by decide +kernel
theorem dX5_countBallots_72 : decode cX5_countBallots 72 = .ok (.aload_n 0, 1) := by decide +kernel
theorem dX5_countBallots_73 : decode cX5_countBallots 73 = .ok (.dup, 1) := by decide +kernel
theorem dX5_countBallots_74 : decode cX5_countBallots 74 = .ok (.getfield 51, 3) := by decide +kernel
theorem dX5_countBallots_77 : decode cX5_countBallots 77 = .ok (.iconst 1, 1) := by decide +kernel
theorem dX5_countBallots_78 : decode cX5_countBallots 78 = .ok (.iadd, 1) := by decide +kernel
theorem dX5_countBallots_79 : decode cX5_countBallots 79 = .ok (.putfield 51, 3) := by decide +kernel
theorem dX5_countBallots_82 : decode cX5_countBallots 82 = .ok (.iload_n 2, 1) := by decide +kernel
theorem dX5_countBallots_83 : decode cX5_countBallots 83 = .ok (.iconst 1, 1) := by decide +kernel
theorem dX5_countBallots_84 : decode cX5_countBallots 84 = .ok (.iadd, 1) := by decide +kernel
theorem dX5_countBallots_85 : decode cX5_countBallots 85 = .ok (.istore_n 1, 1) := by decide +kernel
theorem dX5_countBallots_86 : decode cX5_countBallots 86 = .ok (.iinc 2 1, 3) := by decide +kernel
theorem dX5_countBallots_89 : decode cX5_countBallots 89 = .ok (.goto (-80), 3) := by decide +kernel
theorem dX5_countBallots_92 : decode cX5_countBallots 92 = .ok (.return_, 1) := by decide +kernel
theorem dX5_keyAt_0 : decode cX5_keyAt 0 = .ok (.aload_n 0, 1) := by decide +kernel
theorem dX5_keyAt_1 : decode cX5_keyAt 1 = .ok (.getfield 15, 3) := by decide +kernel
theorem dX5_keyAt_4 : decode cX5_keyAt 4 = .ok (.iload_n 1, 1) := by decide +kernel
theorem dX5_keyAt_5 : decode cX5_keyAt 5 = .ok (.iaload, 1) := by decide +kernel
theorem dX5_keyAt_6 : decode cX5_keyAt 6 = .ok (.sipush 32767, 3) := by decide +kernel
theorem dX5_keyAt_9 : decode cX5_keyAt 9 = .ok (.iand, 1) := by decide +kernel
theorem dX5_keyAt_10 : decode cX5_keyAt 10 = .ok (.ireturn, 1) := by decide +kernel
theorem dX5_votesAt_0 : decode cX5_votesAt 0 = .ok (.sipush 364, 3) := by decide +kernel
theorem dX5_votesAt_3 : decode cX5_votesAt 3 = .ok (.aload_n 0, 1) := by decide +kernel
theorem dX5_votesAt_4 : decode cX5_votesAt 4 = .ok (.getfield 15, 3) := by decide +kernel
theorem dX5_votesAt_7 : decode cX5_votesAt 7 = .ok (.iload_n 1, 1) := by decide +kernel
theorem dX5_votesAt_8 : decode cX5_votesAt 8 = .ok (.iaload, 1) := by decide +kernel
theorem dX5_votesAt_9 : decode cX5_votesAt 9 = .ok (.bipush 15, 2) := by decide +kernel
theorem dX5_votesAt_11 : decode cX5_votesAt 11 = .ok (.ishr, 1) := by decide +kernel
theorem dX5_votesAt_12 : decode cX5_votesAt 12 = .ok (.isub, 1) := by decide +kernel
theorem dX5_votesAt_13 : decode cX5_votesAt 13 = .ok (.ireturn, 1) := by decide +kernel
set_option maxRecDepth 20000 in
theorem ggX5_votesFor_X5_keyAt : GoodIn wsX5_votesFor wsX5_keyAt := goodIn_r _ [6, 7, 19, 20, 21, 22, 23, 24, 25, 26, 27, 28] (by decide +kernel) (by decide +kernel)
set_option maxRecDepth 20000 in
theorem gX5_votesFor_X5_keyAt : GoodIn wsX5_votesFor (wsV RX5 54 RX5 yX5_keyAt wsX5_keyAt) := goodIn_app (goodIn_of _ (by decide +kernel)) ggX5_votesFor_X5_keyAt
set_option maxRecDepth 20000 in
theorem ggX5_votesFor_X6_keyX : GoodIn wsX5_votesFor wsX6_keyX := goodIn_r _ [10] (by decide +kernel) (by decide +kernel)
set_option maxRecDepth 20000 in
theorem gX5_votesFor_X6_keyX_n91 : GoodIn wsX5_votesFor (wsX6_keyX) := ggX5_votesFor_X6_keyX
set_option maxRecDepth 20000 in
theorem ggX5_votesFor_X6_keyY : GoodIn wsX5_votesFor wsX6_keyY := goodIn_r _ [12] (by decide +kernel) (by decide +kernel)
set_option maxRecDepth 20000 in
theorem gX5_votesFor_X6_keyY_n94 : GoodIn wsX5_votesFor (wsX6_keyY) := ggX5_votesFor_X6_keyY
set_option maxRecDepth 20000 in
theorem ggX5_votesFor_X6_keyRadius : GoodIn wsX5_votesFor wsX6_keyRadius := goodIn_r _ [14] (by decide +kernel) (by decide +kernel)
set_option maxRecDepth 20000 in
theorem gX5_votesFor_X6_keyRadius_n97 : GoodIn wsX5_votesFor (wsX6_keyRadius) := ggX5_votesFor_X6_keyRadius
set_option maxRecDepth 20000 in
theorem ggX5_votesFor_X5_votesAt : GoodIn wsX5_votesFor wsX5_votesAt := goodIn_r _ [18, 7, 19, 20, 21, 22, 23, 24, 25, 26, 27, 28] (by decide +kernel) (by decide +kernel)
set_option maxRecDepth 20000 in
theorem gX5_votesFor_X5_votesAt : GoodIn wsX5_votesFor (wsV RX5 100 RX5 yX5_votesAt wsX5_votesAt) := goodIn_app (goodIn_of _ (by decide +kernel)) ggX5_votesFor_X5_votesAt
theorem dX5_votesFor_0 : decode cX5_votesFor 0 = .ok (.iconst 0, 1) := by decide +kernel
theorem dX5_votesFor_1 : decode cX5_votesFor 1 = .ok (.istore 4, 2) := by decide +kernel
theorem dX5_votesFor_3 : decode cX5_votesFor 3 = .ok (.iload 4, 2) := by decide +kernel
theorem dX5_votesFor_5 : decode cX5_votesFor 5 = .ok (.aload_n 0, 1) := by decide +kernel
theorem dX5_votesFor_6 : decode cX5_votesFor 6 = .ok (.getfield 51, 3) := by decide +kernel
theorem dX5_votesFor_9 : decode cX5_votesFor 9 = .ok (.if_icmp .ge 51, 3) := by decide +kernel
theorem dX5_votesFor_12 : decode cX5_votesFor 12 = .ok (.aload_n 0, 1) := by decide +kernel
theorem dX5_votesFor_13 : decode cX5_votesFor 13 = .ok (.iload 4, 2) := by decide +kernel
theorem dX5_votesFor_15 : decode cX5_votesFor 15 = .ok (.invokevirtual 54, 3) := by decide +kernel
theorem dX5_votesFor_18 : decode cX5_votesFor 18 = .ok (.istore 5, 2) := by decide +kernel
theorem dX5_votesFor_20 : decode cX5_votesFor 20 = .ok (.iload 5, 2) := by decide +kernel
theorem dX5_votesFor_22 : decode cX5_votesFor 22 = .ok (.invokestatic 91, 3) := by decide +kernel
theorem dX5_votesFor_25 : decode cX5_votesFor 25 = .ok (.iload_n 1, 1) := by decide +kernel
theorem dX5_votesFor_26 : decode cX5_votesFor 26 = .ok (.if_icmp .ne 28, 3) := by decide +kernel
theorem dX5_votesFor_29 : decode cX5_votesFor 29 = .ok (.iload 5, 2) := by decide +kernel
theorem dX5_votesFor_31 : decode cX5_votesFor 31 = .ok (.invokestatic 94, 3) := by decide +kernel
theorem dX5_votesFor_34 : decode cX5_votesFor 34 = .ok (.iload_n 2, 1) := by decide +kernel
theorem dX5_votesFor_35 : decode cX5_votesFor 35 = .ok (.if_icmp .ne 19, 3) := by decide +kernel
theorem dX5_votesFor_38 : decode cX5_votesFor 38 = .ok (.iload 5, 2) := by decide +kernel
theorem dX5_votesFor_40 : decode cX5_votesFor 40 = .ok (.invokestatic 97, 3) := by decide +kernel
theorem dX5_votesFor_43 : decode cX5_votesFor 43 = .ok (.iload_n 3, 1) := by decide +kernel
theorem dX5_votesFor_44 : decode cX5_votesFor 44 = .ok (.if_icmp .ne 10, 3) := by decide +kernel
theorem dX5_votesFor_47 : decode cX5_votesFor 47 = .ok (.aload_n 0, 1) := by decide +kernel
theorem dX5_votesFor_48 : decode cX5_votesFor 48 = .ok (.iload 4, 2) := by decide +kernel
theorem dX5_votesFor_50 : decode cX5_votesFor 50 = .ok (.invokevirtual 100, 3) := by decide +kernel
theorem dX5_votesFor_53 : decode cX5_votesFor 53 = .ok (.ireturn, 1) := by decide +kernel
theorem dX5_votesFor_54 : decode cX5_votesFor 54 = .ok (.iinc 4 1, 3) := by decide +kernel
theorem dX5_votesFor_57 : decode cX5_votesFor 57 = .ok (.goto (-54), 3) := by decide +kernel
theorem dX5_votesFor_60 : decode cX5_votesFor 60 = .ok (.iconst 0, 1) := by decide +kernel
theorem dX5_votesFor_61 : decode cX5_votesFor 61 = .ok (.ireturn, 1) := by decide +kernel
set_option maxRecDepth 20000 in
theorem ggX5_foremost_X5_votesAt : GoodIn wsX5_foremost wsX5_votesAt := goodIn_r _ [6, 7, 8, 9, 10, 11, 12, 13, 14, 15, 16, 17] (by decide +kernel) (by decide +kernel)
set_option maxRecDepth 20000 in
theorem gX5_foremost_X5_votesAt : GoodIn wsX5_foremost (wsV RX5 100 RX5 yX5_votesAt wsX5_votesAt) := goodIn_app (goodIn_of _ (by decide +kernel)) ggX5_foremost_X5_votesAt
theorem dX5_foremost_0 : decode cX5_foremost 0 = .ok (.iconst 0, 1) := by decide +kernel
theorem dX5_foremost_1 : decode cX5_foremost 1 = .ok (.istore_n 1, 1) := by decide +kernel
theorem dX5_foremost_2 : decode cX5_foremost 2 = .ok (.iload_n 1, 1) := by decide +kernel
theorem dX5_foremost_3 : decode cX5_foremost 3 = .ok (.aload_n 0, 1) := by decide +kernel
theorem dX5_foremost_4 : decode cX5_foremost 4 = .ok (.getfield 51, 3) := by decide +kernel
theorem dX5_foremost_7 : decode cX5_foremost 7 = .ok (.if_icmp .ge 22, 3) := by decide +kernel
theorem dX5_foremost_10 : decode cX5_foremost 10 = .ok (.aload_n 0, 1) := by decide +kernel
theorem dX5_foremost_11 : decode cX5_foremost 11 = .ok (.iload_n 1, 1) := by decide +kernel
theorem dX5_foremost_12 : decode cX5_foremost 12 = .ok (.invokevirtual 100, 3) := by decide +kernel
theorem dX5_foremost_15 : decode cX5_foremost 15 = .ok (.aload_n 0, 1) := by decide +kernel
theorem dX5_foremost_16 : decode cX5_foremost 16 = .ok (.iconst 0, 1) := by decide +kernel
theorem dX5_foremost_17 : decode cX5_foremost 17 = .ok (.invokevirtual 100, 3) := by decide +kernel
theorem dX5_foremost_20 : decode cX5_foremost 20 = .ok (.if_icmp .ne 9, 3) := by decide +kernel
theorem dX5_foremost_23 : decode cX5_foremost 23 = .ok (.iinc 1 1, 3) := by decide +kernel
theorem dX5_foremost_26 : decode cX5_foremost 26 = .ok (.goto (-24), 3) := by decide +kernel
theorem dX5_foremost_29 : decode cX5_foremost 29 = .ok (.iload_n 1, 1) := by decide +kernel
theorem dX5_foremost_30 : decode cX5_foremost 30 = .ok (.ireturn, 1) := by decide +kernel
set_option maxRecDepth 20000 in
theorem ggX5_total_X5_foremost : GoodIn wsX5_total wsX5_foremost := goodIn_r _ [8, 1, 9, 10, 11, 7, 12, 13, 14, 15, 16, 17, 18, 19, 20, 21, 22, 23] (by decide +kernel) (by decide +kernel)
set_option maxRecDepth 20000 in
theorem gX5_total_X5_foremost : GoodIn wsX5_total (wsV RX5 103 RX5 yX5_foremost wsX5_foremost) := goodIn_app (goodIn_of _ (by decide +kernel)) ggX5_total_X5_foremost
theorem dX5_total_0 : decode cX5_total 0 = .ok (.iload_n 1, 1) := by decide +kernel
theorem dX5_total_1 : decode cX5_total 1 = .ok (.tableswitch 51 0 3 #[31, 36, 41, 46], 31) := by decide +kernel
theorem dX5_total_32 : decode cX5_total 32 = .ok (.aload_n 0, 1) := by decide +kernel
theorem dX5_total_33 : decode cX5_total 33 = .ok (.getfield 51, 3) := by decide +kernel
theorem dX5_total_36 : decode cX5_total 36 = .ok (.ireturn, 1) := by decide +kernel
theorem dX5_total_37 : decode cX5_total 37 = .ok (.aload_n 0, 1) := by decide +kernel
theorem dX5_total_38 : decode cX5_total 38 = .ok (.getfield 40, 3) := by decide +kernel
theorem dX5_total_41 : decode cX5_total 41 = .ok (.ireturn, 1) := by decide +kernel
theorem dX5_total_42 : decode cX5_total 42 = .ok (.aload_n 0, 1) := by decide +kernel
theorem dX5_total_43 : decode cX5_total 43 = .ok (.getfield 67, 3) := by decide +kernel
theorem dX5_total_46 : decode cX5_total 46 = .ok (.ireturn, 1) := by decide +kernel
theorem dX5_total_47 : decode cX5_total 47 = .ok (.aload_n 0, 1) := by decide +kernel
theorem dX5_total_48 : decode cX5_total 48 = .ok (.invokevirtual 103, 3) := by decide +kernel
theorem dX5_total_51 : decode cX5_total 51 = .ok (.ireturn, 1) := by decide +kernel
theorem dX5_total_52 : decode cX5_total 52 = .ok (.bipush (-102), 2) := by decide +kernel
theorem dX5_total_54 : decode cX5_total 54 = .ok (.ireturn, 1) := by decide +kernel
set_option maxRecDepth 20000 in
theorem ggX5_tell_X5_keyAt : GoodIn wsX5_tell wsX5_keyAt := goodIn_r _ [7, 8, 48, 49, 50, 51, 52, 53, 54, 55, 56, 57] (by decide +kernel) (by decide +kernel)
set_option maxRecDepth 20000 in
theorem gX5_tell_X5_keyAt : GoodIn wsX5_tell (wsV RX5 54 RX5 yX5_keyAt wsX5_keyAt) := goodIn_app (goodIn_of _ (by decide +kernel)) ggX5_tell_X5_keyAt
set_option maxRecDepth 20000 in
theorem ggX5_tell_X6_keyX : GoodIn wsX5_tell wsX6_keyX := goodIn_r _ [11] (by decide +kernel) (by decide +kernel)
set_option maxRecDepth 20000 in
theorem gX5_tell_X6_keyX_n91 : GoodIn wsX5_tell (wsX6_keyX) := ggX5_tell_X6_keyX
set_option maxRecDepth 20000 in
theorem ggX5_tell_X6_keyY : GoodIn wsX5_tell wsX6_keyY := goodIn_r _ [13] (by decide +kernel) (by decide +kernel)
set_option maxRecDepth 20000 in
theorem gX5_tell_X6_keyY_n94 : GoodIn wsX5_tell (wsX6_keyY) := ggX5_tell_X6_keyY
set_option maxRecDepth 20000 in
theorem ggX5_tell_X6_keyRadius : GoodIn wsX5_tell wsX6_keyRadius := goodIn_r _ [15] (by decide +kernel) (by decide +kernel)
set_option maxRecDepth 20000 in
theorem gX5_tell_X6_keyRadius_n97 : GoodIn wsX5_tell (wsX6_keyRadius) := ggX5_tell_X6_keyRadius
set_option maxRecDepth 20000 in
theorem ggX5_tell_X5_votesAt : GoodIn wsX5_tell wsX5_votesAt := goodIn_r _ [19, 8, 48, 49, 50, 51, 52, 53, 54, 55, 56, 57] (by decide +kernel) (by decide +kernel)
set_option maxRecDepth 20000 in
theorem gX5_tell_X5_votesAt : GoodIn wsX5_tell (wsV RX5 100 RX5 yX5_votesAt wsX5_votesAt) := goodIn_app (goodIn_of _ (by decide +kernel)) ggX5_tell_X5_votesAt
set_option maxRecDepth 20000 in
theorem ggX5_tell_J6_bitCount_0f7a4 : GoodIn wsX5_tell wsJ6_bitCount_0f7a4 := goodIn_r _ [23, 24, 25, 26] (by decide +kernel) (by decide +kernel)
set_option maxRecDepth 20000 in
theorem gX5_tell_J6_bitCount_0f7a4 : GoodIn wsX5_tell (va_wsS RX5 106 yJ6_bitCount_0f7a4 wsJ6_bitCount_0f7a4) := goodIn_app (goodIn_of _ (by decide +kernel)) ggX5_tell_J6_bitCount_0f7a4
set_option maxRecDepth 20000 in
theorem ggX5_tell_X4_from : GoodIn wsX5_tell wsX4_from := goodIn_r _ [31, 32, 33, 34, 9, 10, 11, 12, 13, 14, 15, 58, 59, 60, 61] (by decide +kernel) (by decide +kernel)
set_option maxRecDepth 20000 in
theorem gX5_tell_X4_from : GoodIn wsX5_tell (wsV RX5 58 RX4 yX4_from wsX4_from) := goodIn_app (goodIn_of _ (by decide +kernel)) ggX5_tell_X4_from
set_option maxRecDepth 20000 in
theorem ggX5_tell_X4_span : GoodIn wsX5_tell wsX4_span := goodIn_r _ [38, 39, 40, 41, 42, 43, 30, 44, 45, 32, 46, 33, 47, 21, 22, 23, 24, 25, 26, 58, 59, 60, 61, 62, 63, 64, 65, 66, 67, 68, 69, 70, 71, 72] (by decide +kernel) (by decide +kernel)
set_option maxRecDepth 20000 in
theorem gX5_tell_X4_span : GoodIn wsX5_tell (wsV RX5 111 RX4 yX4_span wsX4_span) := goodIn_app (goodIn_of _ (by decide +kernel)) ggX5_tell_X4_span
theorem dX5_tell_0 : decode cX5_tell 0 = .ok (.aload_n 0, 1) := by decide +kernel
theorem dX5_tell_1 : decode cX5_tell 1 = .ok (.iload_n 1, 1) := by decide +kernel
theorem dX5_tell_2 : decode cX5_tell 2 = .ok (.invokevirtual 54, 3) := by decide +kernel
theorem dX5_tell_5 : decode cX5_tell 5 = .ok (.istore_n 3, 1) := by decide +kernel
theorem dX5_tell_6 : decode cX5_tell 6 = .ok (.iload_n 2, 1) := by decide +kernel
theorem dX5_tell_7 : decode cX5_tell 7 = .ok (.tableswitch 101 0 6 #[41, 46, 51, 56, 62, 72, 94], 41) := by decide +kernel
theorem dX5_tell_48 : decode cX5_tell 48 = .ok (.iload_n 3, 1) := by decide +kernel
theorem dX5_tell_49 : decode cX5_tell 49 = .ok (.invokestatic 91, 3) := by decide +kernel
theorem dX5_tell_52 : decode cX5_tell 52 = .ok (.ireturn, 1) := by decide +kernel
theorem dX5_tell_53 : decode cX5_tell 53 = .ok (.iload_n 3, 1) := by decide +kernel
theorem dX5_tell_54 : decode cX5_tell 54 = .ok (.invokestatic 94, 3) := by decide +kernel
theorem dX5_tell_57 : decode cX5_tell 57 = .ok (.ireturn, 1) := by decide +kernel
theorem dX5_tell_58 : decode cX5_tell 58 = .ok (.iload_n 3, 1) := by decide +kernel
theorem dX5_tell_59 : decode cX5_tell 59 = .ok (.invokestatic 97, 3) := by decide +kernel
theorem dX5_tell_62 : decode cX5_tell 62 = .ok (.ireturn, 1) := by decide +kernel
theorem dX5_tell_63 : decode cX5_tell 63 = .ok (.aload_n 0, 1) := by decide +kernel
theorem dX5_tell_64 : decode cX5_tell 64 = .ok (.iload_n 1, 1) := by decide +kernel
theorem dX5_tell_65 : decode cX5_tell 65 = .ok (.invokevirtual 100, 3) := by decide +kernel
theorem dX5_tell_68 : decode cX5_tell 68 = .ok (.ireturn, 1) := by decide +kernel
theorem dX5_tell_69 : decode cX5_tell 69 = .ok (.aload_n 0, 1) := by decide +kernel
theorem dX5_tell_70 : decode cX5_tell 70 = .ok (.getfield 18, 3) := by decide +kernel
theorem dX5_tell_73 : decode cX5_tell 73 = .ok (.iload_n 1, 1) := by decide +kernel
theorem dX5_tell_74 : decode cX5_tell 74 = .ok (.iaload, 1) := by decide +kernel
theorem dX5_tell_75 : decode cX5_tell 75 = .ok (.invokestatic 106, 3) := by decide +kernel
theorem dX5_tell_78 : decode cX5_tell 78 = .ok (.ireturn, 1) := by decide +kernel
theorem dX5_tell_79 : decode cX5_tell 79 = .ok (.aload_n 0, 1) := by decide +kernel
theorem dX5_tell_80 : decode cX5_tell 80 = .ok (.getfield 29, 3) := by decide +kernel
theorem dX5_tell_83 : decode cX5_tell 83 = .ok (.iload_n 3, 1) := by decide +kernel
theorem dX5_tell_84 : decode cX5_tell 84 = .ok (.invokevirtual 58, 3) := by decide +kernel
theorem dX5_tell_87 : decode cX5_tell 87 = .ok (.aload_n 0, 1) := by decide +kernel
theorem dX5_tell_88 : decode cX5_tell 88 = .ok (.getfield 29, 3) := by decide +kernel
theorem dX5_tell_91 : decode cX5_tell 91 = .ok (.aload_n 0, 1) := by decide +kernel
theorem dX5_tell_92 : decode cX5_tell 92 = .ok (.getfield 18, 3) := by decide +kernel
theorem dX5_tell_95 : decode cX5_tell 95 = .ok (.iload_n 1, 1) := by decide +kernel
theorem dX5_tell_96 : decode cX5_tell 96 = .ok (.iaload, 1) := by decide +kernel
theorem dX5_tell_97 : decode cX5_tell 97 = .ok (.invokevirtual 111, 3) := by decide +kernel
theorem dX5_tell_100 : decode cX5_tell 100 = .ok (.ireturn, 1) := by decide +kernel
theorem dX5_tell_101 : decode cX5_tell 101 = .ok (.aload_n 0, 1) := by decide +kernel
theorem dX5_tell_102 : decode cX5_tell 102 = .ok (.getfield 18, 3) := by decide +kernel
theorem dX5_tell_105 : decode cX5_tell 105 = .ok (.iload_n 1, 1) := by decide +kernel
theorem dX5_tell_106 : decode cX5_tell 106 = .ok (.iaload, 1) := by decide +kernel
theorem dX5_tell_107 : decode cX5_tell 107 = .ok (.ireturn, 1) := by decide +kernel
theorem dX5_tell_108 : decode cX5_tell 108 = .ok (.bipush (-102), 2) := by decide +kernel
theorem dX5_tell_110 : decode cX5_tell 110 = .ok (.ireturn, 1) := by decide +kernel
theorem dX5_sortUp_0 : decode cX5_sortUp 0 = .ok (.bipush 121, 2) := by decide +kernel
theorem dX5_sortUp_2 : decode cX5_sortUp 2 = .ok (.istore_n 2, 1) := by decide +kernel
theorem dX5_sortUp_3 : decode cX5_sortUp 3 = .ok (.iload_n 2, 1) := by decide +kernel
theorem dX5_sortUp_4 : decode cX5_sortUp 4 = .ok (.ifCond .le 73, 3) := by decide +kernel
theorem dX5_sortUp_7 : decode cX5_sortUp 7 = .ok (.iload_n 2, 1) := by decide +kernel
theorem dX5_sortUp_8 : decode cX5_sortUp 8 = .ok (.istore_n 3, 1) := by decide +kernel
theorem dX5_sortUp_9 : decode cX5_sortUp 9 = .ok (.iload_n 3, 1) := by decide +kernel
theorem dX5_sortUp_10 : decode cX5_sortUp 10 = .ok (.iload_n 1, 1) := by decide +kernel
theorem dX5_sortUp_11 : decode cX5_sortUp 11 = .ok (.if_icmp .ge 59, 3) := by decide +kernel
theorem dX5_sortUp_14 : decode cX5_sortUp 14 = .ok (.aload_n 0, 1) := by decide +kernel
theorem dX5_sortUp_15 : decode cX5_sortUp 15 = .ok (.iload_n 3, 1) := by decide +kernel
theorem dX5_sortUp_16 : decode cX5_sortUp 16 = .ok (.iaload, 1) := by decide +kernel
theorem dX5_sortUp_17 : decode cX5_sortUp 17 = .ok (.istore 4, 2) := by decide +kernel
theorem dX5_sortUp_19 : decode cX5_sortUp 19 = .ok (.iload_n 3, 1) := by decide +kernel
theorem dX5_sortUp_20 : decode cX5_sortUp 20 = .ok (.istore 5, 2) := by decide +kernel
theorem dX5_sortUp_22 : decode cX5_sortUp 22 = .ok (.iload 5, 2) := by decide +kernel
theorem dX5_sortUp_24 : decode cX5_sortUp 24 = .ok (.iload_n 2, 1) := by decide +kernel
theorem dX5_sortUp_25 : decode cX5_sortUp 25 = .ok (.if_icmp .lt 33, 3) := by decide +kernel
theorem dX5_sortUp_28 : decode cX5_sortUp 28 = .ok (.aload_n 0, 1) := by decide +kernel
theorem dX5_sortUp_29 : decode cX5_sortUp 29 = .ok (.iload 5, 2) := by decide +kernel
theorem dX5_sortUp_31 : decode cX5_sortUp 31 = .ok (.iload_n 2, 1) := by decide +kernel
theorem dX5_sortUp_32 : decode cX5_sortUp 32 = .ok (.isub, 1) := by decide +kernel
theorem dX5_sortUp_33 : decode cX5_sortUp 33 = .ok (.iaload, 1) := by decide +kernel
theorem dX5_sortUp_34 : decode cX5_sortUp 34 = .ok (.iload 4, 2) := by decide +kernel
theorem dX5_sortUp_36 : decode cX5_sortUp 36 = .ok (.if_icmp .le 22, 3) := by decide +kernel
theorem dX5_sortUp_39 : decode cX5_sortUp 39 = .ok (.aload_n 0, 1) := by decide +kernel
theorem dX5_sortUp_40 : decode cX5_sortUp 40 = .ok (.iload 5, 2) := by decide +kernel
theorem dX5_sortUp_42 : decode cX5_sortUp 42 = .ok (.aload_n 0, 1) := by decide +kernel
theorem dX5_sortUp_43 : decode cX5_sortUp 43 = .ok (.iload 5, 2) := by decide +kernel
theorem dX5_sortUp_45 : decode cX5_sortUp 45 = .ok (.iload_n 2, 1) := by decide +kernel
theorem dX5_sortUp_46 : decode cX5_sortUp 46 = .ok (.isub, 1) := by decide +kernel
theorem dX5_sortUp_47 : decode cX5_sortUp 47 = .ok (.iaload, 1) := by decide +kernel
theorem dX5_sortUp_48 : decode cX5_sortUp 48 = .ok (.iastore, 1) := by decide +kernel
theorem dX5_sortUp_49 : decode cX5_sortUp 49 = .ok (.iload 5, 2) := by decide +kernel
theorem dX5_sortUp_51 : decode cX5_sortUp 51 = .ok (.iload_n 2, 1) := by decide +kernel
theorem dX5_sortUp_52 : decode cX5_sortUp 52 = .ok (.isub, 1) := by decide +kernel
theorem dX5_sortUp_53 : decode cX5_sortUp 53 = .ok (.istore 5, 2) := by decide +kernel
theorem dX5_sortUp_55 : decode cX5_sortUp 55 = .ok (.goto (-33), 3) := by decide +kernel
theorem dX5_sortUp_58 : decode cX5_sortUp 58 = .ok (.aload_n 0, 1) := by decide +kernel
theorem dX5_sortUp_59 : decode cX5_sortUp 59 = .ok (.iload 5, 2) := by decide +kernel
theorem dX5_sortUp_61 : decode cX5_sortUp 61 = .ok (.iload 4, 2) := by decide +kernel
theorem dX5_sortUp_63 : decode cX5_sortUp 63 = .ok (.iastore, 1) := by decide +kernel
theorem dX5_sortUp_64 : decode cX5_sortUp 64 = .ok (.iinc 3 1, 3) := by decide +kernel
theorem dX5_sortUp_67 : decode cX5_sortUp 67 = .ok (.goto (-58), 3) := by decide +kernel
theorem dX5_sortUp_70 : decode cX5_sortUp 70 = .ok (.iload_n 2, 1) := by decide +kernel
theorem dX5_sortUp_71 : decode cX5_sortUp 71 = .ok (.iconst 3, 1) := by decide +kernel
theorem dX5_sortUp_72 : decode cX5_sortUp 72 = .ok (.idiv, 1) := by decide +kernel
theorem dX5_sortUp_73 : decode cX5_sortUp 73 = .ok (.istore_n 2, 1) := by decide +kernel
theorem dX5_sortUp_74 : decode cX5_sortUp 74 = .ok (.goto (-71), 3) := by decide +kernel
theorem dX5_sortUp_77 : decode cX5_sortUp 77 = .ok (.return_, 1) := by decide +kernel
theorem dJ6_bitCount_0f7a4_0 : decode cJ6_bitCount_0f7a4 0 = .ok (.iload_n 0, 1) := by decide +kernel
theorem dJ6_bitCount_0f7a4_1 : decode cJ6_bitCount_0f7a4 1 = .ok (.iload_n 0, 1) := by decide +kernel
theorem dJ6_bitCount_0f7a4_2 : decode cJ6_bitCount_0f7a4 2 = .ok (.iconst 1, 1) := by decide +kernel
theorem dJ6_bitCount_0f7a4_3 : decode cJ6_bitCount_0f7a4 3 = .ok (.iushr, 1) := by decide +kernel
theorem dJ6_bitCount_0f7a4_4 : decode cJ6_bitCount_0f7a4 4 = .ok (.ldc_w 265, 3) := by decide +kernel
theorem dJ6_bitCount_0f7a4_7 : decode cJ6_bitCount_0f7a4 7 = .ok (.iand, 1) := by decide +kernel
theorem dJ6_bitCount_0f7a4_8 : decode cJ6_bitCount_0f7a4 8 = .ok (.isub, 1) := by decide +kernel
theorem dJ6_bitCount_0f7a4_9 : decode cJ6_bitCount_0f7a4 9 = .ok (.istore_n 0, 1) := by decide +kernel
theorem dJ6_bitCount_0f7a4_10 : decode cJ6_bitCount_0f7a4 10 = .ok (.iload_n 0, 1) := by decide +kernel
theorem dJ6_bitCount_0f7a4_11 : decode cJ6_bitCount_0f7a4 11 = .ok (.ldc_w 266, 3) := by decide +kernel
theorem dJ6_bitCount_0f7a4_14 : decode cJ6_bitCount_0f7a4 14 = .ok (.iand, 1) := by decide +kernel
theorem dJ6_bitCount_0f7a4_15 : decode cJ6_bitCount_0f7a4 15 = .ok (.iload_n 0, 1) := by decide +kernel
theorem dJ6_bitCount_0f7a4_16 : decode cJ6_bitCount_0f7a4 16 = .ok (.iconst 2, 1) := by decide +kernel
theorem dJ6_bitCount_0f7a4_17 : decode cJ6_bitCount_0f7a4 17 = .ok (.iushr, 1) := by decide +kernel
theorem dJ6_bitCount_0f7a4_18 : decode cJ6_bitCount_0f7a4 18 = .ok (.ldc_w 266, 3) := by decide +kernel
theorem dJ6_bitCount_0f7a4_21 : decode cJ6_bitCount_0f7a4 21 = .ok (.iand, 1) := by decide +kernel
theorem dJ6_bitCount_0f7a4_22 : decode cJ6_bitCount_0f7a4 22 = .ok (.iadd, 1) := by decide +kernel
theorem dJ6_bitCount_0f7a4_23 : decode cJ6_bitCount_0f7a4 23 = .ok (.istore_n 0, 1) := by decide +kernel
theorem dJ6_bitCount_0f7a4_24 : decode cJ6_bitCount_0f7a4 24 = .ok (.iload_n 0, 1) := by decide +kernel
theorem dJ6_bitCount_0f7a4_25 : decode cJ6_bitCount_0f7a4 25 = .ok (.iload_n 0, 1) := by decide +kernel
theorem dJ6_bitCount_0f7a4_26 : decode cJ6_bitCount_0f7a4 26 = .ok (.iconst 4, 1) := by decide +kernel
theorem dJ6_bitCount_0f7a4_27 : decode cJ6_bitCount_0f7a4 27 = .ok (.iushr, 1) := by decide +kernel
theorem dJ6_bitCount_0f7a4_28 : decode cJ6_bitCount_0f7a4 28 = .ok (.iadd, 1) := by decide +kernel
theorem dJ6_bitCount_0f7a4_29 : decode cJ6_bitCount_0f7a4 29 = .ok (.ldc_w 267, 3) := by decide +kernel
theorem dJ6_bitCount_0f7a4_32 : decode cJ6_bitCount_0f7a4 32 = .ok (.iand, 1) := by decide +kernel
theorem dJ6_bitCount_0f7a4_33 : decode cJ6_bitCount_0f7a4 33 = .ok (.istore_n 0, 1) := by decide +kernel
theorem dJ6_bitCount_0f7a4_34 : decode cJ6_bitCount_0f7a4 34 = .ok (.iload_n 0, 1) := by decide +kernel
theorem dJ6_bitCount_0f7a4_35 : decode cJ6_bitCount_0f7a4 35 = .ok (.iload_n 0, 1) := by decide +kernel
theorem dJ6_bitCount_0f7a4_36 : decode cJ6_bitCount_0f7a4 36 = .ok (.bipush 8, 2) := by decide +kernel
theorem dJ6_bitCount_0f7a4_38 : decode cJ6_bitCount_0f7a4 38 = .ok (.iushr, 1) := by decide +kernel
theorem dJ6_bitCount_0f7a4_39 : decode cJ6_bitCount_0f7a4 39 = .ok (.iadd, 1) := by decide +kernel
theorem dJ6_bitCount_0f7a4_40 : decode cJ6_bitCount_0f7a4 40 = .ok (.istore_n 0, 1) := by decide +kernel
theorem dJ6_bitCount_0f7a4_41 : decode cJ6_bitCount_0f7a4 41 = .ok (.iload_n 0, 1) := by decide +kernel
theorem dJ6_bitCount_0f7a4_42 : decode cJ6_bitCount_0f7a4 42 = .ok (.iload_n 0, 1) := by decide +kernel
theorem dJ6_bitCount_0f7a4_43 : decode cJ6_bitCount_0f7a4 43 = .ok (.bipush 16, 2) := by decide +kernel
theorem dJ6_bitCount_0f7a4_45 : decode cJ6_bitCount_0f7a4 45 = .ok (.iushr, 1) := by decide +kernel
theorem dJ6_bitCount_0f7a4_46 : decode cJ6_bitCount_0f7a4 46 = .ok (.iadd, 1) := by decide +kernel
theorem dJ6_bitCount_0f7a4_47 : decode cJ6_bitCount_0f7a4 47 = .ok (.istore_n 0, 1) := by decide +kernel
theorem dJ6_bitCount_0f7a4_48 : decode cJ6_bitCount_0f7a4 48 = .ok (.iload_n 0, 1) := by decide +kernel
theorem dJ6_bitCount_0f7a4_49 : decode cJ6_bitCount_0f7a4 49 = .ok (.bipush 63, 2) := by decide +kernel
theorem dJ6_bitCount_0f7a4_51 : decode cJ6_bitCount_0f7a4 51 = .ok (.iand, 1) := by decide +kernel
theorem dJ6_bitCount_0f7a4_52 : decode cJ6_bitCount_0f7a4 52 = .ok (.ireturn, 1) := by decide +kernel
theorem dJ9_floorDiv_7cf53_0 : decode cJ9_floorDiv_7cf53 0 = .ok (.iload_n 0, 1) := by decide +kernel
theorem dJ9_floorDiv_7cf53_1 : decode cJ9_floorDiv_7cf53 1 = .ok (.iload_n 1, 1) := by decide +kernel
theorem dJ9_floorDiv_7cf53_2 : decode cJ9_floorDiv_7cf53 2 = .ok (.idiv, 1) := by decide +kernel
theorem dJ9_floorDiv_7cf53_3 : decode cJ9_floorDiv_7cf53 3 = .ok (.istore_n 2, 1) := by decide +kernel
theorem dJ9_floorDiv_7cf53_4 : decode cJ9_floorDiv_7cf53 4 = .ok (.iload_n 0, 1) := by decide +kernel
theorem dJ9_floorDiv_7cf53_5 : decode cJ9_floorDiv_7cf53 5 = .ok (.iload_n 1, 1) := by decide +kernel
theorem dJ9_floorDiv_7cf53_6 : decode cJ9_floorDiv_7cf53 6 = .ok (.ixor, 1) := by decide +kernel
theorem dJ9_floorDiv_7cf53_7 : decode cJ9_floorDiv_7cf53 7 = .ok (.ifCond .ge 14, 3) := by decide +kernel
theorem dJ9_floorDiv_7cf53_10 : decode cJ9_floorDiv_7cf53 10 = .ok (.iload_n 2, 1) := by decide +kernel
theorem dJ9_floorDiv_7cf53_11 : decode cJ9_floorDiv_7cf53 11 = .ok (.iload_n 1, 1) := by decide +kernel
theorem dJ9_floorDiv_7cf53_12 : decode cJ9_floorDiv_7cf53 12 = .ok (.imul, 1) := by decide +kernel
theorem dJ9_floorDiv_7cf53_13 : decode cJ9_floorDiv_7cf53 13 = .ok (.iload_n 0, 1) := by decide +kernel
theorem dJ9_floorDiv_7cf53_14 : decode cJ9_floorDiv_7cf53 14 = .ok (.if_icmp .eq 7, 3) := by decide +kernel
theorem dJ9_floorDiv_7cf53_17 : decode cJ9_floorDiv_7cf53 17 = .ok (.iload_n 2, 1) := by decide +kernel
theorem dJ9_floorDiv_7cf53_18 : decode cJ9_floorDiv_7cf53 18 = .ok (.iconst 1, 1) := by decide +kernel
theorem dJ9_floorDiv_7cf53_19 : decode cJ9_floorDiv_7cf53 19 = .ok (.isub, 1) := by decide +kernel
theorem dJ9_floorDiv_7cf53_20 : decode cJ9_floorDiv_7cf53 20 = .ok (.ireturn, 1) := by decide +kernel
theorem dJ9_floorDiv_7cf53_21 : decode cJ9_floorDiv_7cf53 21 = .ok (.iload_n 2, 1) := by decide +kernel
theorem dJ9_floorDiv_7cf53_22 : decode cJ9_floorDiv_7cf53 22 = .ok (.ireturn, 1) := by decide +kernel
theorem dJ9_abs_0f7a4_0 : decode cJ9_abs_0f7a4 0 = .ok (.iload_n 0, 1) := by decide +kernel
theorem dJ9_abs_0f7a4_1 : decode cJ9_abs_0f7a4 1 = .ok (.ifCond .ge 8, 3) := by decide +kernel
theorem dJ9_abs_0f7a4_4 : decode cJ9_abs_0f7a4 4 = .ok (.iload_n 0, 1) := by decide +kernel
theorem dJ9_abs_0f7a4_5 : decode cJ9_abs_0f7a4 5 = .ok (.ineg, 1) := by decide +kernel
theorem dJ9_abs_0f7a4_6 : decode cJ9_abs_0f7a4 6 = .ok (.goto 4, 3) := by decide +kernel
theorem dJ9_abs_0f7a4_9 : decode cJ9_abs_0f7a4 9 = .ok (.iload_n 0, 1) := by decide +kernel
theorem dJ9_abs_0f7a4_10 : decode cJ9_abs_0f7a4 10 = .ok (.ireturn, 1) := by decide +kernel
theorem dJ9_max_7cf53_0 : decode cJ9_max_7cf53 0 = .ok (.iload_n 0, 1) := by decide +kernel
theorem dJ9_max_7cf53_1 : decode cJ9_max_7cf53 1 = .ok (.iload_n 1, 1) := by decide +kernel
theorem dJ9_max_7cf53_2 : decode cJ9_max_7cf53 2 = .ok (.if_icmp .lt 7, 3) := by decide +kernel
theorem dJ9_max_7cf53_5 : decode cJ9_max_7cf53 5 = .ok (.iload_n 0, 1) := by decide +kernel
theorem dJ9_max_7cf53_6 : decode cJ9_max_7cf53 6 = .ok (.goto 4, 3) := by decide +kernel
theorem dJ9_max_7cf53_9 : decode cJ9_max_7cf53 9 = .ok (.iload_n 1, 1) := by decide +kernel
theorem dJ9_max_7cf53_10 : decode cJ9_max_7cf53 10 = .ok (.ireturn, 1) := by decide +kernel
