theorem dX7_topOf_0 : decode cX7_topOf 0 = .ok (.aload_n 0, 1) := by decide +kernel
theorem dX7_topOf_1 : decode cX7_topOf 1 = .ok (.iload_n 1, 1) := by decide +kernel
theorem dX7_topOf_2 : decode cX7_topOf 2 = .ok (.invokevirtual 39, 3) := by decide +kernel
theorem dX7_topOf_5 : decode cX7_topOf 5 = .ok (.astore_n 2, 1) := by decide +kernel
theorem dX7_topOf_6 : decode cX7_topOf 6 = .ok (.aload_n 2, 1) := by decide +kernel
theorem dX7_topOf_7 : decode cX7_topOf 7 = .ok (.ifnonnull 7, 3) := by decide +kernel
theorem dX7_topOf_10 : decode cX7_topOf 10 = .ok (.iconst (-1), 1) := by decide +kernel
theorem dX7_topOf_11 : decode cX7_topOf 11 = .ok (.goto 7, 3) := by decide +kernel
theorem dX7_topOf_14 : decode cX7_topOf 14 = .ok (.aload_n 2, 1) := by decide +kernel
theorem dX7_topOf_15 : decode cX7_topOf 15 = .ok (.invokevirtual 43, 3) := by decide +kernel
theorem dX7_topOf_18 : decode cX7_topOf 18 = .ok (.ireturn, 1) := by decide +kernel
set_option maxRecDepth 20000 in
theorem ggX7_takeFrom_X7_at : GoodIn wsX7_takeFrom wsX7_at := goodIn_r _ [5, 6, 7, 22, 23] (by decide +kernel) (by decide +kernel)
set_option maxRecDepth 20000 in
theorem gX7_takeFrom_X7_at : GoodIn wsX7_takeFrom (wsV RX7 39 RX7 yX7_at wsX7_at) := goodIn_app (goodIn_of _ (by decide +kernel)) ggX7_takeFrom_X7_at
set_option maxRecDepth 20000 in
theorem ggX7_takeFrom_X4_top : GoodIn wsX7_takeFrom wsX4_top := goodIn_r _ [12, 13, 14, 15, 24, 25, 26, 27, 28, 29] (by decide +kernel) (by decide +kernel)
set_option maxRecDepth 20000 in
theorem gX7_takeFrom_X4_top : GoodIn wsX7_takeFrom (wsV RX7 43 RX4 yX4_top wsX4_top) := goodIn_app (goodIn_of _ (by decide +kernel)) ggX7_takeFrom_X4_top
set_option maxRecDepth 20000 in
theorem ggX7_takeFrom_X4_takeTop : GoodIn wsX7_takeFrom wsX4_takeTop := goodIn_r _ [19, 13, 14, 15, 20, 21, 9, 10, 11, 12, 24, 25, 26, 27, 28, 29] (by decide +kernel) (by decide +kernel)
set_option maxRecDepth 20000 in
theorem gX7_takeFrom_X4_takeTop : GoodIn wsX7_takeFrom (wsV RX7 47 RX4 yX4_takeTop wsX4_takeTop) := goodIn_app (goodIn_of _ (by decide +kernel)) ggX7_takeFrom_X4_takeTop
theorem dX7_takeFrom_0 : decode cX7_takeFrom 0 = .ok (.aload_n 0, 1) := by decide +kernel
theorem dX7_takeFrom_1 : decode cX7_takeFrom 1 = .ok (.iload_n 1, 1) := by decide +kernel
theorem dX7_takeFrom_2 : decode cX7_takeFrom 2 = .ok (.invokevirtual 39, 3) := by decide +kernel
theorem dX7_takeFrom_5 : decode cX7_takeFrom 5 = .ok (.astore_n 2, 1) := by decide +kernel
theorem dX7_takeFrom_6 : decode cX7_takeFrom 6 = .ok (.aload_n 2, 1) := by decide +kernel
theorem dX7_takeFrom_7 : decode cX7_takeFrom 7 = .ok (.ifnonnull 5, 3) := by decide +kernel
theorem dX7_takeFrom_10 : decode cX7_takeFrom 10 = .ok (.iconst (-1), 1) := by decide +kernel
theorem dX7_takeFrom_11 : decode cX7_takeFrom 11 = .ok (.ireturn, 1) := by decide +kernel
theorem dX7_takeFrom_12 : decode cX7_takeFrom 12 = .ok (.aload_n 2, 1) := by decide +kernel
theorem dX7_takeFrom_13 : decode cX7_takeFrom 13 = .ok (.invokevirtual 43, 3) := by decide +kernel
theorem dX7_takeFrom_16 : decode cX7_takeFrom 16 = .ok (.istore_n 3, 1) := by decide +kernel
theorem dX7_takeFrom_17 : decode cX7_takeFrom 17 = .ok (.aload_n 2, 1) := by decide +kernel
theorem dX7_takeFrom_18 : decode cX7_takeFrom 18 = .ok (.invokevirtual 47, 3) := by decide +kernel
theorem dX7_takeFrom_21 : decode cX7_takeFrom 21 = .ok (.iload_n 3, 1) := by decide +kernel
theorem dX7_takeFrom_22 : decode cX7_takeFrom 22 = .ok (.ireturn, 1) := by decide +kernel
set_option maxRecDepth 20000 in
theorem ggX7_isBare_X4_top : GoodIn wsX7_isBare wsX4_top := goodIn_r _ [7, 8, 9, 10, 13, 14, 15, 16, 17, 18] (by decide +kernel) (by decide +kernel)
set_option maxRecDepth 20000 in
theorem gX7_isBare_X4_top : GoodIn wsX7_isBare (wsV RX7 43 RX4 yX4_top wsX4_top) := goodIn_app (goodIn_of _ (by decide +kernel)) ggX7_isBare_X4_top
theorem dX7_isBare_0 : decode cX7_isBare 0 = .ok (.iconst 0, 1) := by decide +kernel
theorem dX7_isBare_1 : decode cX7_isBare 1 = .ok (.istore_n 1, 1) := by decide +kernel
theorem dX7_isBare_2 : decode cX7_isBare 2 = .ok (.iload_n 1, 1) := by decide +kernel
theorem dX7_isBare_3 : decode cX7_isBare 3 = .ok (.aload_n 0, 1) := by decide +kernel
theorem dX7_isBare_4 : decode cX7_isBare 4 = .ok (.getfield 18, 3) := by decide +kernel
theorem dX7_isBare_7 : decode cX7_isBare 7 = .ok (.if_icmp .ge 24, 3) := by decide +kernel
theorem dX7_isBare_10 : decode cX7_isBare 10 = .ok (.aload_n 0, 1) := by decide +kernel
theorem dX7_isBare_11 : decode cX7_isBare 11 = .ok (.getfield 11, 3) := by decide +kernel
theorem dX7_isBare_14 : decode cX7_isBare 14 = .ok (.iload_n 1, 1) := by decide +kernel
theorem dX7_isBare_15 : decode cX7_isBare 15 = .ok (.aaload, 1) := by decide +kernel
theorem dX7_isBare_16 : decode cX7_isBare 16 = .ok (.invokevirtual 43, 3) := by decide +kernel
theorem dX7_isBare_19 : decode cX7_isBare 19 = .ok (.iconst (-1), 1) := by decide +kernel
theorem dX7_isBare_20 : decode cX7_isBare 20 = .ok (.if_icmp .eq 5, 3) := by decide +kernel
theorem dX7_isBare_23 : decode cX7_isBare 23 = .ok (.iconst 0, 1) := by decide +kernel
theorem dX7_isBare_24 : decode cX7_isBare 24 = .ok (.ireturn, 1) := by decide +kernel
theorem dX7_isBare_25 : decode cX7_isBare 25 = .ok (.iinc 1 1, 3) := by decide +kernel
theorem dX7_isBare_28 : decode cX7_isBare 28 = .ok (.goto (-26), 3) := by decide +kernel
theorem dX7_isBare_31 : decode cX7_isBare 31 = .ok (.iconst 1, 1) := by decide +kernel
theorem dX7_isBare_32 : decode cX7_isBare 32 = .ok (.ireturn, 1) := by decide +kernel
set_option maxRecDepth 20000 in
theorem ggX7_sum_X4_much : GoodIn wsX7_sum wsX4_much := goodIn_r _ [7, 8, 9, 10, 11, 14, 15, 16, 17, 18, 19] (by decide +kernel) (by decide +kernel)
set_option maxRecDepth 20000 in
theorem gX7_sum_X4_much : GoodIn wsX7_sum (wsV RX7 50 RX4 yX4_much wsX4_much) := goodIn_app (goodIn_of _ (by decide +kernel)) ggX7_sum_X4_much
theorem dX7_sum_0 : decode cX7_sum 0 = .ok (.iconst 0, 1) := by decide +kernel
theorem dX7_sum_1 : decode cX7_sum 1 = .ok (.istore_n 2, 1) := by decide +kernel
theorem dX7_sum_2 : decode cX7_sum 2 = .ok (.iconst 0, 1) := by decide +kernel
theorem dX7_sum_3 : decode cX7_sum 3 = .ok (.istore_n 3, 1) := by decide +kernel
theorem dX7_sum_4 : decode cX7_sum 4 = .ok (.iload_n 3, 1) := by decide +kernel
theorem dX7_sum_5 : decode cX7_sum 5 = .ok (.aload_n 0, 1) := by decide +kernel
theorem dX7_sum_6 : decode cX7_sum 6 = .ok (.getfield 18, 3) := by decide +kernel
theorem dX7_sum_9 : decode cX7_sum 9 = .ok (.if_icmp .ge 22, 3) := by decide +kernel
theorem dX7_sum_12 : decode cX7_sum 12 = .ok (.iload_n 2, 1) := by decide +kernel
theorem dX7_sum_13 : decode cX7_sum 13 = .ok (.aload_n 0, 1) := by decide +kernel
theorem dX7_sum_14 : decode cX7_sum 14 = .ok (.getfield 11, 3) := by decide +kernel
theorem dX7_sum_17 : decode cX7_sum 17 = .ok (.iload_n 3, 1) := by decide +kernel
theorem dX7_sum_18 : decode cX7_sum 18 = .ok (.aaload, 1) := by decide +kernel
theorem dX7_sum_19 : decode cX7_sum 19 = .ok (.iload_n 1, 1) := by decide +kernel
theorem dX7_sum_20 : decode cX7_sum 20 = .ok (.invokevirtual 50, 3) := by decide +kernel
theorem dX7_sum_23 : decode cX7_sum 23 = .ok (.iadd, 1) := by decide +kernel
theorem dX7_sum_24 : decode cX7_sum 24 = .ok (.istore_n 2, 1) := by decide +kernel
theorem dX7_sum_25 : decode cX7_sum 25 = .ok (.iinc 3 1, 3) := by decide +kernel
theorem dX7_sum_28 : decode cX7_sum 28 = .ok (.goto (-24), 3) := by decide +kernel
theorem dX7_sum_31 : decode cX7_sum 31 = .ok (.iload_n 2, 1) := by decide +kernel
theorem dX7_sum_32 : decode cX7_sum 32 = .ok (.ireturn, 1) := by decide +kernel
theorem dX8_init_0 : decode cX8_init 0 = .ok (.aload_n 0, 1) := by decide +kernel
theorem dX8_init_1 : decode cX8_init 1 = .ok (.invokespecial 3, 3) := by decide +kernel
theorem dX8_init_4 : decode cX8_init 4 = .ok (.aload_n 0, 1) := by decide +kernel
theorem dX8_init_5 : decode cX8_init 5 = .ok (.bipush 6, 2) := by decide +kernel
theorem dX8_init_7 : decode cX8_init 7 = .ok (.newarray .int, 2) := by decide +kernel
theorem dX8_init_9 : decode cX8_init 9 = .ok (.putfield 9, 3) := by decide +kernel
theorem dX8_init_12 : decode cX8_init 12 = .ok (.aload_n 0, 1) := by decide +kernel
theorem dX8_init_13 : decode cX8_init 13 = .ok (.bipush 6, 2) := by decide +kernel
theorem dX8_init_15 : decode cX8_init 15 = .ok (.newarray .int, 2) := by decide +kernel
theorem dX8_init_17 : decode cX8_init 17 = .ok (.putfield 15, 3) := by decide +kernel
theorem dX8_init_20 : decode cX8_init 20 = .ok (.aload_n 0, 1) := by decide +kernel
theorem dX8_init_21 : decode cX8_init 21 = .ok (.bipush 6, 2) := by decide +kernel
theorem dX8_init_23 : decode cX8_init 23 = .ok (.newarray .int, 2) := by decide +kernel
theorem dX8_init_25 : decode cX8_init 25 = .ok (.putfield 18, 3) := by decide +kernel
theorem dX8_init_28 : decode cX8_init 28 = .ok (.return_, 1) := by decide +kernel
theorem dX8_size_0 : decode cX8_size 0 = .ok (.aload_n 0, 1) := by decide +kernel
theorem dX8_size_1 : decode cX8_size 1 = .ok (.getfield 21, 3) := by decide +kernel
theorem dX8_size_4 : decode cX8_size 4 = .ok (.ireturn, 1) := by decide +kernel
theorem dX8_isFull_0 : decode cX8_isFull 0 = .ok (.aload_n 0, 1) := by decide +kernel
theorem dX8_isFull_1 : decode cX8_isFull 1 = .ok (.getfield 21, 3) := by decide +kernel
theorem dX8_isFull_4 : decode cX8_isFull 4 = .ok (.bipush 6, 2) := by decide +kernel
theorem dX8_isFull_6 : decode cX8_isFull 6 = .ok (.if_icmp .lt 7, 3) := by decide +kernel
theorem dX8_isFull_9 : decode cX8_isFull 9 = .ok (.iconst 1, 1) := by decide +kernel
theorem dX8_isFull_10 : decode cX8_isFull 10 = .ok (.goto 4, 3) := by decide +kernel
theorem dX8_isFull_13 : decode cX8_isFull 13 = .ok (.iconst 0, 1) := by decide +kernel
theorem dX8_isFull_14 : decode cX8_isFull 14 = .ok (.ireturn, 1) := by decide +kernel
set_option maxRecDepth 20000 in
theorem ggX8_add_X8_isFull : GoodIn wsX8_add wsX8_isFull := goodIn_r _ [9, 2, 10, 11, 12, 13] (by decide +kernel) (by decide +kernel)
set_option maxRecDepth 20000 in
theorem gX8_add_X8_isFull : GoodIn wsX8_add (wsV RX8 25 RX8 yX8_isFull wsX8_isFull) := goodIn_app (goodIn_of _ (by decide +kernel)) ggX8_add_X8_isFull
theorem dX8_add_0 : decode cX8_add 0 = .ok (.aload_n 0, 1) := by decide +kernel
theorem dX8_add_1 : decode cX8_add 1 = .ok (.invokevirtual 25, 3) := by decide +kernel
theorem dX8_add_4 : decode cX8_add 4 = .ok (.ifCond .ne 43, 3) := by decide +kernel
theorem dX8_add_7 : decode cX8_add 7 = .ok (.aload_n 0, 1) := by decide +kernel
theorem dX8_add_8 : decode cX8_add 8 = .ok (.getfield 9, 3) := by decide +kernel
theorem dX8_add_11 : decode cX8_add 11 = .ok (.aload_n 0, 1) := by decide +kernel
theorem dX8_add_12 : decode cX8_add 12 = .ok (.getfield 21, 3) := by decide +kernel
theorem dX8_add_15 : decode cX8_add 15 = .ok (.iload_n 1, 1) := by decide +kernel
theorem dX8_add_16 : decode cX8_add 16 = .ok (.iastore, 1) := by decide +kernel
theorem dX8_add_17 : decode cX8_add 17 = .ok (.aload_n 0, 1) := by decide +kernel
theorem dX8_add_18 : decode cX8_add 18 = .ok (.getfield 15, 3) := by decide +kernel
theorem dX8_add_21 : decode cX8_add 21 = .ok (.aload_n 0, 1) := by decide +kernel
theorem dX8_add_22 : decode cX8_add 22 = .ok (.getfield 21, 3) := by decide +kernel
theorem dX8_add_25 : decode cX8_add 25 = .ok (.iload_n 2, 1) := by decide +kernel
theorem dX8_add_26 : decode cX8_add 26 = .ok (.iastore, 1) := by decide +kernel
theorem dX8_add_27 : decode cX8_add 27 = .ok (.aload_n 0, 1) := by decide +kernel
theorem dX8_add_28 : decode cX8_add 28 = .ok (.getfield 18, 3) := by decide +kernel
theorem dX8_add_31 : decode cX8_add 31 = .ok (.aload_n 0, 1) := by decide +kernel
theorem dX8_add_32 : decode cX8_add 32 = .ok (.getfield 21, 3) := by decide +kernel
theorem dX8_add_35 : decode cX8_add 35 = .ok (.iload_n 3, 1) := by decide +kernel
theorem dX8_add_36 : decode cX8_add 36 = .ok (.iastore, 1) := by decide +kernel
theorem dX8_add_37 : decode cX8_add 37 = .ok (.aload_n 0, 1) := by decide +kernel
theorem dX8_add_38 : decode cX8_add 38 = .ok (.dup, 1) := by decide +kernel
theorem dX8_add_39 : decode cX8_add 39 = .ok (.getfield 21, 3) := by decide +kernel
theorem dX8_add_42 : decode cX8_add 42 = .ok (.iconst 1, 1) := by decide +kernel
theorem dX8_add_43 : decode cX8_add 43 = .ok (.iadd, 1) := by decide +kernel
theorem dX8_add_44 : decode cX8_add 44 = .ok (.putfield 21, 3) := by decide +kernel
theorem dX8_add_47 : decode cX8_add 47 = .ok (.return_, 1) := by decide +kernel
theorem dX8_clear_0 : decode cX8_clear 0 = .ok (.aload_n 0, 1) := by decide +kernel
theorem dX8_clear_1 : decode cX8_clear 1 = .ok (.getfield 21, 3) := by decide +kernel
theorem dX8_clear_4 : decode cX8_clear 4 = .ok (.istore_n 1, 1) := by decide +kernel
theorem dX8_clear_5 : decode cX8_clear 5 = .ok (.aload_n 0, 1) := by decide +kernel
theorem dX8_clear_6 : decode cX8_clear 6 = .ok (.iconst 0, 1) := by decide +kernel
theorem dX8_clear_7 : decode cX8_clear 7 = .ok (.putfield 21, 3) := by decide +kernel
theorem dX8_clear_10 : decode cX8_clear 10 = .ok (.iload_n 1, 1) := by decide +kernel
theorem dX8_clear_11 : decode cX8_clear 11 = .ok (.ireturn, 1) := by decide +kernel
theorem dX8_copyFrom_0 : decode cX8_copyFrom 0 = .ok (.aload_n 1, 1) := by decide +kernel
theorem dX8_copyFrom_1 : decode cX8_copyFrom 1 = .ok (.getfield 9, 3) := by decide +kernel
theorem dX8_copyFrom_4 : decode cX8_copyFrom 4 = .ok (.iconst 0, 1) := by decide +kernel
theorem dX8_copyFrom_5 : decode cX8_copyFrom 5 = .ok (.aload_n 0, 1) := by decide +kernel
theorem dX8_copyFrom_6 : decode cX8_copyFrom 6 = .ok (.getfield 9, 3) := by decide +kernel
theorem dX8_copyFrom_9 : decode cX8_copyFrom 9 = .ok (.iconst 0, 1) := by decide +kernel
theorem dX8_copyFrom_10 : decode cX8_copyFrom 10 = .ok (.bipush 6, 2) := by decide +kernel
theorem dX8_copyFrom_12 : decode cX8_copyFrom 12 = .ok (.invokestatic 29, 3) := by decide +kernel
theorem dX8_copyFrom_15 : decode cX8_copyFrom 15 = .ok (.aload_n 1, 1) := by decide +kernel
theorem dX8_copyFrom_16 : decode cX8_copyFrom 16 = .ok (.getfield 15, 3) := by decide +kernel
theorem dX8_copyFrom_19 : decode cX8_copyFrom 19 = .ok (.iconst 0, 1) := by decide +kernel
theorem dX8_copyFrom_20 : decode cX8_copyFrom 20 = .ok (.aload_n 0, 1) := by decide +kernel
theorem dX8_copyFrom_21 : decode cX8_copyFrom 21 = .ok (.getfield 15, 3) := by decide +kernel
theorem dX8_copyFrom_24 : decode cX8_copyFrom 24 = .ok (.iconst 0, 1) := by decide +kernel
theorem dX8_copyFrom_25 : decode cX8_copyFrom 25 = .ok (.bipush 6, 2) := by decide +kernel
theorem dX8_copyFrom_27 : decode cX8_copyFrom 27 = .ok (.invokestatic 29, 3) := by decide +kernel
theorem dX8_copyFrom_30 : decode cX8_copyFrom 30 = .ok (.aload_n 1, 1) := by decide +kernel
theorem dX8_copyFrom_31 : decode cX8_copyFrom 31 = .ok (.getfield 18, 3) := by decide +kernel
theorem dX8_copyFrom_34 : decode cX8_copyFrom 34 = .ok (.iconst 0, 1) := by decide +kernel
theorem dX8_copyFrom_35 : decode cX8_copyFrom 35 = .ok (.aload_n 0, 1) := by decide +kernel
theorem dX8_copyFrom_36 : decode cX8_copyFrom 36 = .ok (.getfield 18, 3) := by decide +kernel
theorem dX8_copyFrom_39 : decode cX8_copyFrom 39 = .ok (.iconst 0, 1) := by decide +kernel
theorem dX8_copyFrom_40 : decode cX8_copyFrom 40 = .ok (.bipush 6, 2) := by decide +kernel
theorem dX8_copyFrom_42 : decode cX8_copyFrom 42 = .ok (.invokestatic 29, 3) := by decide +kernel
theorem dX8_copyFrom_45 : decode cX8_copyFrom 45 = .ok (.aload_n 0, 1) := by decide +kernel
theorem dX8_copyFrom_46 : decode cX8_copyFrom 46 = .ok (.aload_n 1, 1) := by decide +kernel
theorem dX8_copyFrom_47 : decode cX8_copyFrom 47 = .ok (.getfield 21, 3) := by decide +kernel
theorem dX8_copyFrom_50 : decode cX8_copyFrom 50 = .ok (.putfield 21, 3) := by decide +kernel
theorem dX8_copyFrom_53 : decode cX8_copyFrom 53 = .ok (.return_, 1) := by decide +kernel
set_option maxRecDepth 20000 in
theorem ggX8_fats_X8_canBe : GoodIn wsX8_fats wsX8_canBe := goodIn_r _ [5, 6, 7, 8, 9, 10, 11, 12, 13, 14, 15, 16, 17, 18, 19, 20, 21, 22, 23, 24, 25, 26, 27, 28, 29, 30, 31, 32, 33, 34, 35] (by decide +kernel) (by decide +kernel)
set_option maxRecDepth 20000 in
theorem gX8_fats_X8_canBe : GoodIn wsX8_fats (wsV RX8 35 RX8 yX8_canBe wsX8_canBe) := goodIn_app (goodIn_of _ (by decide +kernel)) ggX8_fats_X8_canBe
theorem dX8_fats_0 : decode cX8_fats 0 = .ok (.iconst 0, 1) := by decide +kernel
theorem dX8_fats_1 : decode cX8_fats 1 = .ok (.istore_n 3, 1) := by decide +kernel
theorem dX8_fats_2 : decode cX8_fats 2 = .ok (.iconst 0, 1) := by decide +kernel
theorem dX8_fats_3 : decode cX8_fats 3 = .ok (.istore 4, 2) := by decide +kernel
theorem dX8_fats_5 : decode cX8_fats 5 = .ok (.iload 4, 2) := by decide +kernel
theorem dX8_fats_7 : decode cX8_fats 7 = .ok (.bipush 16, 2) := by decide +kernel
theorem dX8_fats_9 : decode cX8_fats 9 = .ok (.if_icmp .ge 27, 3) := by decide +kernel
theorem dX8_fats_12 : decode cX8_fats 12 = .ok (.aload_n 0, 1) := by decide +kernel
theorem dX8_fats_13 : decode cX8_fats 13 = .ok (.iload_n 1, 1) := by decide +kernel
theorem dX8_fats_14 : decode cX8_fats 14 = .ok (.aload_n 2, 1) := by decide +kernel
theorem dX8_fats_15 : decode cX8_fats 15 = .ok (.iload 4, 2) := by decide +kernel
theorem dX8_fats_17 : decode cX8_fats 17 = .ok (.invokevirtual 35, 3) := by decide +kernel
theorem dX8_fats_20 : decode cX8_fats 20 = .ok (.ifCond .eq 10, 3) := by decide +kernel
theorem dX8_fats_23 : decode cX8_fats 23 = .ok (.iload_n 3, 1) := by decide +kernel
theorem dX8_fats_24 : decode cX8_fats 24 = .ok (.iconst 1, 1) := by decide +kernel
theorem dX8_fats_25 : decode cX8_fats 25 = .ok (.iload 4, 2) := by decide +kernel
theorem dX8_fats_27 : decode cX8_fats 27 = .ok (.ishl, 1) := by decide +kernel
theorem dX8_fats_28 : decode cX8_fats 28 = .ok (.ior, 1) := by decide +kernel
theorem dX8_fats_29 : decode cX8_fats 29 = .ok (.istore_n 3, 1) := by decide +kernel
theorem dX8_fats_30 : decode cX8_fats 30 = .ok (.iinc 4 1, 3) := by decide +kernel
theorem dX8_fats_33 : decode cX8_fats 33 = .ok (.goto (-28), 3) := by decide +kernel
theorem dX8_fats_36 : decode cX8_fats 36 = .ok (.iload_n 3, 1) := by decide +kernel
theorem dX8_fats_37 : decode cX8_fats 37 = .ok (.ireturn, 1) := by decide +kernel
set_option maxRecDepth 20000 in
theorem ggX8_canBe_X4_risenBehind : GoodIn wsX8_canBe wsX4_risenBehind := goodIn_r _ [9, 10, 11, 12, 13, 14, 15, 16, 17, 18, 8, 19, 20, 25, 26, 27, 28, 29, 30] (by decide +kernel) (by decide +kernel)
set_option maxRecDepth 20000 in
theorem gX8_canBe_X4_risenBehind : GoodIn wsX8_canBe (wsV RX8 39 RX4 yX4_risenBehind wsX4_risenBehind) := goodIn_app (goodIn_of _ (by decide +kernel)) ggX8_canBe_X4_risenBehind
theorem dX8_canBe_0 : decode cX8_canBe 0 = .ok (.iconst 0, 1) := by decide +kernel
theorem dX8_canBe_1 : decode cX8_canBe 1 = .ok (.istore 4, 2) := by decide +kernel
theorem dX8_canBe_3 : decode cX8_canBe 3 = .ok (.iload 4, 2) := by decide +kernel
theorem dX8_canBe_5 : decode cX8_canBe 5 = .ok (.aload_n 0, 1) := by decide +kernel
theorem dX8_canBe_6 : decode cX8_canBe 6 = .ok (.getfield 21, 3) := by decide +kernel
theorem dX8_canBe_9 : decode cX8_canBe 9 = .ok (.if_icmp .ge 44, 3) := by decide +kernel
theorem dX8_canBe_12 : decode cX8_canBe 12 = .ok (.aload_n 0, 1) := by decide +kernel
theorem dX8_canBe_13 : decode cX8_canBe 13 = .ok (.getfield 9, 3) := by decide +kernel
theorem dX8_canBe_16 : decode cX8_canBe 16 = .ok (.iload 4, 2) := by decide +kernel
theorem dX8_canBe_18 : decode cX8_canBe 18 = .ok (.iaload, 1) := by decide +kernel
theorem dX8_canBe_19 : decode cX8_canBe 19 = .ok (.iload_n 1, 1) := by decide +kernel
theorem dX8_canBe_20 : decode cX8_canBe 20 = .ok (.if_icmp .ne 27, 3) := by decide +kernel
theorem dX8_canBe_23 : decode cX8_canBe 23 = .ok (.aload_n 2, 1) := by decide +kernel
theorem dX8_canBe_24 : decode cX8_canBe 24 = .ok (.aload_n 0, 1) := by decide +kernel
theorem dX8_canBe_25 : decode cX8_canBe 25 = .ok (.getfield 15, 3) := by decide +kernel
theorem dX8_canBe_28 : decode cX8_canBe 28 = .ok (.iload 4, 2) := by decide +kernel
theorem dX8_canBe_30 : decode cX8_canBe 30 = .ok (.iaload, 1) := by decide +kernel
theorem dX8_canBe_31 : decode cX8_canBe 31 = .ok (.iload_n 3, 1) := by decide +kernel
theorem dX8_canBe_32 : decode cX8_canBe 32 = .ok (.invokevirtual 39, 3) := by decide +kernel
theorem dX8_canBe_35 : decode cX8_canBe 35 = .ok (.aload_n 0, 1) := by decide +kernel
theorem dX8_canBe_36 : decode cX8_canBe 36 = .ok (.getfield 18, 3) := by decide +kernel
theorem dX8_canBe_39 : decode cX8_canBe 39 = .ok (.iload 4, 2) := by decide +kernel
theorem dX8_canBe_41 : decode cX8_canBe 41 = .ok (.iaload, 1) := by decide +kernel
theorem dX8_canBe_42 : decode cX8_canBe 42 = .ok (.if_icmp .eq 5, 3) := by decide +kernel
theorem dX8_canBe_45 : decode cX8_canBe 45 = .ok (.iconst 0, 1) := by decide +kernel
theorem dX8_canBe_46 : decode cX8_canBe 46 = .ok (.ireturn, 1) := by decide +kernel
theorem dX8_canBe_47 : decode cX8_canBe 47 = .ok (.iinc 4 1, 3) := by decide +kernel
theorem dX8_canBe_50 : decode cX8_canBe 50 = .ok (.goto (-47), 3) := by decide +kernel
theorem dX8_canBe_53 : decode cX8_canBe 53 = .ok (.iconst 1, 1) := by decide +kernel
theorem dX8_canBe_54 : decode cX8_canBe 54 = .ok (.ireturn, 1) := by decide +kernel
theorem dX9_init_0 : decode cX9_init 0 = .ok (.aload_n 0, 1) := by decide +kernel
theorem dX9_init_1 : decode cX9_init 1 = .ok (.invokespecial 3, 3) := by decide +kernel
theorem dX9_init_4 : decode cX9_init 4 = .ok (.aload_n 0, 1) := by decide +kernel
theorem dX9_init_5 : decode cX9_init 5 = .ok (.sipush 441, 3) := by decide +kernel
theorem dX9_init_8 : decode cX9_init 8 = .ok (.newarray .int, 2) := by decide +kernel
theorem dX9_init_10 : decode cX9_init 10 = .ok (.putfield 11, 3) := by decide +kernel
theorem dX9_init_13 : decode cX9_init 13 = .ok (.aload_n 0, 1) := by decide +kernel
theorem dX9_init_14 : decode cX9_init 14 = .ok (.bipush 63, 2) := by decide +kernel
theorem dX9_init_16 : decode cX9_init 16 = .ok (.newarray .int, 2) := by decide +kernel
theorem dX9_init_18 : decode cX9_init 18 = .ok (.putfield 15, 3) := by decide +kernel
theorem dX9_init_21 : decode cX9_init 21 = .ok (.aload_n 0, 1) := by decide +kernel
theorem dX9_init_22 : decode cX9_init 22 = .ok (.bipush 63, 2) := by decide +kernel
theorem dX9_init_24 : decode cX9_init 24 = .ok (.newarray .int, 2) := by decide +kernel
theorem dX9_init_26 : decode cX9_init 26 = .ok (.putfield 18, 3) := by decide +kernel
theorem dX9_init_29 : decode cX9_init 29 = .ok (.return_, 1) := by decide +kernel
theorem dX9_firstPan_0 : decode cX9_firstPan 0 = .ok (.aload_n 0, 1) := by decide +kernel
theorem dX9_firstPan_1 : decode cX9_firstPan 1 = .ok (.getfield 21, 3) := by decide +kernel
theorem dX9_firstPan_4 : decode cX9_firstPan 4 = .ok (.ireturn, 1) := by decide +kernel
set_option maxRecDepth 20000 in
theorem ggX9_settle_X7_at : GoodIn wsX9_settle wsX7_at := goodIn_r _ [6, 7, 8, 117, 118] (by decide +kernel) (by decide +kernel)
set_option maxRecDepth 20000 in
theorem gX9_settle_X7_at : GoodIn wsX9_settle (wsV RX9 25 RX7 yX7_at wsX7_at) := goodIn_app (goodIn_of _ (by decide +kernel)) ggX9_settle_X7_at
set_option maxRecDepth 20000 in
theorem ggX9_settle_X9_layOut : GoodIn wsX9_settle wsX9_layOut := goodIn_r _ [13, 14, 15, 16, 17, 18, 19, 20, 21, 22, 23, 24, 25, 26, 27, 28, 29, 30, 31, 32, 33, 34, 35, 36, 37, 38, 39, 40, 41, 42, 43, 44, 45, 46, 47, 48, 49, 50, 51, 52, 53, 54, 55, 56, 57, 58, 59, 60, 61, 62, 63, 64, 65, 66, 67, 68, 69, 70, 71, 72, 73, 74, 75, 76, 77, 78, 79, 80, 81, 82, 83, 84, 85, 86, 87, 88, 89, 90, 91, 92, 93, 94, 95, 96, 97, 98, 99, 100, 101, 119, 120, 121, 122, 123, 124, 112, 113, 114, 115, 116] (by decide +kernel) (by decide +kernel)
set_option maxRecDepth 20000 in
theorem gX9_settle_X9_layOut : GoodIn wsX9_settle (wsV RX9 31 RX9 yX9_layOut wsX9_layOut) := goodIn_app (goodIn_of _ (by decide +kernel)) ggX9_settle_X9_layOut
set_option maxRecDepth 20000 in
theorem ggX9_settle_X9_weigh : GoodIn wsX9_settle wsX9_weigh := goodIn_r _ [105, 1, 106, 107, 108, 109, 110, 12, 111, 18, 19, 112, 113, 114, 115, 116] (by decide +kernel) (by decide +kernel)
set_option maxRecDepth 20000 in
theorem gX9_settle_X9_weigh : GoodIn wsX9_settle (wsV RX9 35 RX9 yX9_weigh wsX9_weigh) := goodIn_app (goodIn_of _ (by decide +kernel)) ggX9_settle_X9_weigh
theorem dX9_settle_0 : decode cX9_settle 0 = .ok (.aload_n 0, 1) := by decide +kernel
theorem dX9_settle_1 : decode cX9_settle 1 = .ok (.iconst 0, 1) := by decide +kernel
theorem dX9_settle_2 : decode cX9_settle 2 = .ok (.aload_n 3, 1) := by decide +kernel
theorem dX9_settle_3 : decode cX9_settle 3 = .ok (.iconst 0, 1) := by decide +kernel
theorem dX9_settle_4 : decode cX9_settle 4 = .ok (.invokevirtual 25, 3) := by decide +kernel
theorem dX9_settle_7 : decode cX9_settle 7 = .ok (.aload_n 1, 1) := by decide +kernel
theorem dX9_settle_8 : decode cX9_settle 8 = .ok (.aload_n 2, 1) := by decide +kernel
theorem dX9_settle_9 : decode cX9_settle 9 = .ok (.invokevirtual 31, 3) := by decide +kernel
theorem dX9_settle_12 : decode cX9_settle 12 = .ok (.istore 4, 2) := by decide +kernel
theorem dX9_settle_14 : decode cX9_settle 14 = .ok (.aload_n 0, 1) := by decide +kernel
theorem dX9_settle_15 : decode cX9_settle 15 = .ok (.iconst 1, 1) := by decide +kernel
theorem dX9_settle_16 : decode cX9_settle 16 = .ok (.aload_n 3, 1) := by decide +kernel
theorem dX9_settle_17 : decode cX9_settle 17 = .ok (.iconst 1, 1) := by decide +kernel
theorem dX9_settle_18 : decode cX9_settle 18 = .ok (.invokevirtual 25, 3) := by decide +kernel
theorem dX9_settle_21 : decode cX9_settle 21 = .ok (.aload_n 1, 1) := by decide +kernel
theorem dX9_settle_22 : decode cX9_settle 22 = .ok (.aload_n 2, 1) := by decide +kernel
theorem dX9_settle_23 : decode cX9_settle 23 = .ok (.invokevirtual 31, 3) := by decide +kernel
theorem dX9_settle_26 : decode cX9_settle 26 = .ok (.istore 5, 2) := by decide +kernel
theorem dX9_settle_28 : decode cX9_settle 28 = .ok (.aload_n 0, 1) := by decide +kernel
theorem dX9_settle_29 : decode cX9_settle 29 = .ok (.iconst 2, 1) := by decide +kernel
theorem dX9_settle_30 : decode cX9_settle 30 = .ok (.aload_n 3, 1) := by decide +kernel
theorem dX9_settle_31 : decode cX9_settle 31 = .ok (.iconst 2, 1) := by decide +kernel
theorem dX9_settle_32 : decode cX9_settle 32 = .ok (.invokevirtual 25, 3) := by decide +kernel
theorem dX9_settle_35 : decode cX9_settle 35 = .ok (.aload_n 1, 1) := by decide +kernel
theorem dX9_settle_36 : decode cX9_settle 36 = .ok (.aload_n 2, 1) := by decide +kernel
theorem dX9_settle_37 : decode cX9_settle 37 = .ok (.invokevirtual 31, 3) := by decide +kernel
theorem dX9_settle_40 : decode cX9_settle 40 = .ok (.istore 6, 2) := by decide +kernel
theorem dX9_settle_42 : decode cX9_settle 42 = .ok (.iload 4, 2) := by decide +kernel
theorem dX9_settle_44 : decode cX9_settle 44 = .ok (.iload 5, 2) := by decide +kernel
theorem dX9_settle_46 : decode cX9_settle 46 = .ok (.iadd, 1) := by decide +kernel
theorem dX9_settle_47 : decode cX9_settle 47 = .ok (.iload 6, 2) := by decide +kernel
theorem dX9_settle_49 : decode cX9_settle 49 = .ok (.iadd, 1) := by decide +kernel
theorem dX9_settle_50 : decode cX9_settle 50 = .ok (.istore 7, 2) := by decide +kernel
theorem dX9_settle_52 : decode cX9_settle 52 = .ok (.iconst 0, 1) := by decide +kernel
theorem dX9_settle_53 : decode cX9_settle 53 = .ok (.istore 8, 2) := by decide +kernel
theorem dX9_settle_55 : decode cX9_settle 55 = .ok (.iload 8, 2) := by decide +kernel
theorem dX9_settle_57 : decode cX9_settle 57 = .ok (.iload 4, 2) := by decide +kernel
theorem dX9_settle_59 : decode cX9_settle 59 = .ok (.if_icmp .gt 72, 3) := by decide +kernel
theorem dX9_settle_62 : decode cX9_settle 62 = .ok (.iconst 0, 1) := by decide +kernel
theorem dX9_settle_63 : decode cX9_settle 63 = .ok (.istore 9, 2) := by decide +kernel
theorem dX9_settle_65 : decode cX9_settle 65 = .ok (.iload 9, 2) := by decide +kernel
theorem dX9_settle_67 : decode cX9_settle 67 = .ok (.iload 5, 2) := by decide +kernel
theorem dX9_settle_69 : decode cX9_settle 69 = .ok (.if_icmp .gt 56, 3) := by decide +kernel
theorem dX9_settle_72 : decode cX9_settle 72 = .ok (.iconst 0, 1) := by decide +kernel
theorem dX9_settle_73 : decode cX9_settle 73 = .ok (.istore 10, 2) := by decide +kernel
theorem dX9_settle_75 : decode cX9_settle 75 = .ok (.iload 10, 2) := by decide +kernel
theorem dX9_settle_77 : decode cX9_settle 77 = .ok (.iload 6, 2) := by decide +kernel
theorem dX9_settle_79 : decode cX9_settle 79 = .ok (.if_icmp .gt 40, 3) := by decide +kernel
theorem dX9_settle_82 : decode cX9_settle 82 = .ok (.aload_n 0, 1) := by decide +kernel
theorem dX9_settle_83 : decode cX9_settle 83 = .ok (.iload 8, 2) := by decide +kernel
theorem dX9_settle_85 : decode cX9_settle 85 = .ok (.iload 9, 2) := by decide +kernel
theorem dX9_settle_87 : decode cX9_settle 87 = .ok (.iload 10, 2) := by decide +kernel
theorem dX9_settle_89 : decode cX9_settle 89 = .ok (.iload 7, 2) := by decide +kernel
theorem dX9_settle_91 : decode cX9_settle 91 = .ok (.iload 8, 2) := by decide +kernel
theorem dX9_settle_93 : decode cX9_settle 93 = .ok (.isub, 1) := by decide +kernel
theorem dX9_settle_94 : decode cX9_settle 94 = .ok (.iload 9, 2) := by decide +kernel
theorem dX9_settle_96 : decode cX9_settle 96 = .ok (.isub, 1) := by decide +kernel
theorem dX9_settle_97 : decode cX9_settle 97 = .ok (.iload 10, 2) := by decide +kernel
theorem dX9_settle_99 : decode cX9_settle 99 = .ok (.isub, 1) := by decide +kernel
theorem dX9_settle_100 : decode cX9_settle 100 = .ok (.iconst 2, 1) := by decide +kernel
theorem dX9_settle_101 : decode cX9_settle 101 = .ok (.irem, 1) := by decide +kernel
theorem dX9_settle_102 : decode cX9_settle 102 = .ok (.ifCond .ne 7, 3) := by decide +kernel
theorem dX9_settle_105 : decode cX9_settle 105 = .ok (.iconst 1, 1) := by decide +kernel
theorem dX9_settle_106 : decode cX9_settle 106 = .ok (.goto 4, 3) := by decide +kernel
theorem dX9_settle_109 : decode cX9_settle 109 = .ok (.iconst 0, 1) := by decide +kernel
theorem dX9_settle_110 : decode cX9_settle 110 = .ok (.invokevirtual 35, 3) := by decide +kernel
theorem dX9_settle_113 : decode cX9_settle 113 = .ok (.iinc 10 1, 3) := by decide +kernel
theorem dX9_settle_116 : decode cX9_settle 116 = .ok (.goto (-41), 3) := by decide +kernel
theorem dX9_settle_119 : decode cX9_settle 119 = .ok (.iinc 9 1, 3) := by decide +kernel
theorem dX9_settle_122 : decode cX9_settle 122 = .ok (.goto (-57), 3) := by decide +kernel
theorem dX9_settle_125 : decode cX9_settle 125 = .ok (.iinc 8 1, 3) := by decide +kernel
theorem dX9_settle_128 : decode cX9_settle 128 = .ok (.goto (-73), 3) := by decide +kernel
theorem dX9_settle_131 : decode cX9_settle 131 = .ok (.aload_n 0, 1) := by decide +kernel
theorem dX9_settle_132 : decode cX9_settle 132 = .ok (.getfield 39, 3) := by decide +kernel
theorem dX9_settle_135 : decode cX9_settle 135 = .ok (.ireturn, 1) := by decide +kernel
set_option maxRecDepth 20000 in
theorem ggX9_layOut_X4_onIt : GoodIn wsX9_layOut wsX4_onIt := goodIn_r _ [11, 12, 13, 14, 89, 90, 91, 92, 93, 94] (by decide +kernel) (by decide +kernel)
set_option maxRecDepth 20000 in
theorem gX9_layOut_X4_onIt : GoodIn wsX9_layOut (wsV RX9 42 RX4 yX4_onIt wsX4_onIt) := goodIn_app (goodIn_of _ (by decide +kernel)) ggX9_layOut_X4_onIt
set_option maxRecDepth 20000 in
theorem ggX9_layOut_X0_worthOf : GoodIn wsX9_layOut wsX0_worthOf := goodIn_r _ [19, 20, 21, 22, 18, 23, 24, 25, 26, 27, 28, 29, 30, 31, 32, 33, 34, 35, 36, 37, 38, 39, 40, 41, 42, 43, 44, 45, 46, 47, 48, 49, 50, 51, 52, 53, 54, 55, 56, 57, 58, 59, 60, 61, 62, 63, 64, 65, 66, 67, 68, 69, 70, 71, 72, 73, 74, 75, 76, 77, 78, 79, 80, 81, 82] (by decide +kernel) (by decide +kernel)
set_option maxRecDepth 20000 in
theorem gX9_layOut_X0_worthOf : GoodIn wsX9_layOut (wsV RX9 60 RX0 yX0_worthOf wsX0_worthOf) := goodIn_app (goodIn_of _ (by decide +kernel)) ggX9_layOut_X0_worthOf
set_option maxRecDepth 20000 in
theorem gX9_layOut_X0_worthOf_u60X1 : GoodIn wsX9_layOut (va_wsU RX9 60 RX1 "SkimmedSons$Child" ⟨"SkimmedSons$Child", "worthOf", "(I)I"⟩ yX0_worthOf wsX0_worthOf) := goodIn_app (goodIn_of _ (by decide +kernel)) ggX9_layOut_X0_worthOf
set_option maxRecDepth 20000 in
theorem gX9_layOut_X0_worthOf_u60X2 : GoodIn wsX9_layOut (va_wsU RX9 60 RX2 "SkimmedSons$Child" ⟨"SkimmedSons$Child", "worthOf", "(I)I"⟩ yX0_worthOf wsX0_worthOf) := goodIn_app (goodIn_of _ (by decide +kernel)) ggX9_layOut_X0_worthOf
set_option maxRecDepth 20000 in
theorem gX9_layOut_X0_worthOf_u60X6 : GoodIn wsX9_layOut (va_wsU RX9 60 RX6 "SkimmedSons$Child" ⟨"SkimmedSons$Child", "worthOf", "(I)I"⟩ yX0_worthOf wsX0_worthOf) := goodIn_app (goodIn_of _ (by decide +kernel)) ggX9_layOut_X0_worthOf
set_option maxRecDepth 20000 in
theorem gX9_layOut_X0_worthOf_u60X10 : GoodIn wsX9_layOut (va_wsU RX9 60 RX10 "SkimmedSons$Child" ⟨"SkimmedSons$Child", "worthOf", "(I)I"⟩ yX0_worthOf wsX0_worthOf) := goodIn_app (goodIn_of _ (by decide +kernel)) ggX9_layOut_X0_worthOf
theorem dX9_layOut_0 : decode cX9_layOut 0 = .ok (.aload_n 2, 1) := by decide +kernel
theorem dX9_layOut_1 : decode cX9_layOut 1 = .ok (.ifnonnull 5, 3) := by decide +kernel
theorem dX9_layOut_4 : decode cX9_layOut 4 = .ok (.iconst 0, 1) := by decide +kernel
theorem dX9_layOut_5 : decode cX9_layOut 5 = .ok (.ireturn, 1) := by decide +kernel
theorem dX9_layOut_6 : decode cX9_layOut 6 = .ok (.aload_n 2, 1) := by decide +kernel
theorem dX9_layOut_7 : decode cX9_layOut 7 = .ok (.invokevirtual 42, 3) := by decide +kernel
theorem dX9_layOut_10 : decode cX9_layOut 10 = .ok (.bipush 20, 2) := by decide +kernel
theorem dX9_layOut_12 : decode cX9_layOut 12 = .ok (.invokestatic 48, 3) := by decide +kernel
theorem dX9_layOut_15 : decode cX9_layOut 15 = .ok (.istore 5, 2) := by decide +kernel
theorem dX9_layOut_17 : decode cX9_layOut 17 = .ok (.iconst 1, 1) := by decide +kernel
theorem dX9_layOut_18 : decode cX9_layOut 18 = .ok (.istore 6, 2) := by decide +kernel
theorem dX9_layOut_20 : decode cX9_layOut 20 = .ok (.iload 6, 2) := by decide +kernel
theorem dX9_layOut_22 : decode cX9_layOut 22 = .ok (.iload 5, 2) := by decide +kernel
theorem dX9_layOut_24 : decode cX9_layOut 24 = .ok (.if_icmp .gt 80, 3) := by decide +kernel
theorem dX9_layOut_27 : decode cX9_layOut 27 = .ok (.iload 6, 2) := by decide +kernel
theorem dX9_layOut_29 : decode cX9_layOut 29 = .ok (.aload_n 2, 1) := by decide +kernel
theorem dX9_layOut_30 : decode cX9_layOut 30 = .ok (.getfield 54, 3) := by decide +kernel
theorem dX9_layOut_33 : decode cX9_layOut 33 = .ok (.if_icmp .gt 7, 3) := by decide +kernel
theorem dX9_layOut_36 : decode cX9_layOut 36 = .ok (.iconst 3, 1) := by decide +kernel
theorem dX9_layOut_37 : decode cX9_layOut 37 = .ok (.goto 22, 3) := by decide +kernel
theorem dX9_layOut_40 : decode cX9_layOut 40 = .ok (.iload 6, 2) := by decide +kernel
theorem dX9_layOut_42 : decode cX9_layOut 42 = .ok (.aload_n 2, 1) := by decide +kernel
theorem dX9_layOut_43 : decode cX9_layOut 43 = .ok (.getfield 54, 3) := by decide +kernel
theorem dX9_layOut_46 : decode cX9_layOut 46 = .ok (.aload_n 2, 1) := by decide +kernel
theorem dX9_layOut_47 : decode cX9_layOut 47 = .ok (.getfield 57, 3) := by decide +kernel
theorem dX9_layOut_50 : decode cX9_layOut 50 = .ok (.iadd, 1) := by decide +kernel
theorem dX9_layOut_51 : decode cX9_layOut 51 = .ok (.if_icmp .gt 7, 3) := by decide +kernel
theorem dX9_layOut_54 : decode cX9_layOut 54 = .ok (.iconst 1, 1) := by decide +kernel
theorem dX9_layOut_55 : decode cX9_layOut 55 = .ok (.goto 4, 3) := by decide +kernel
theorem dX9_layOut_58 : decode cX9_layOut 58 = .ok (.iconst 2, 1) := by decide +kernel
theorem dX9_layOut_59 : decode cX9_layOut 59 = .ok (.istore 7, 2) := by decide +kernel
theorem dX9_layOut_61 : decode cX9_layOut 61 = .ok (.aload_n 0, 1) := by decide +kernel
theorem dX9_layOut_62 : decode cX9_layOut 62 = .ok (.getfield 15, 3) := by decide +kernel
theorem dX9_layOut_65 : decode cX9_layOut 65 = .ok (.iload_n 1, 1) := by decide +kernel
theorem dX9_layOut_66 : decode cX9_layOut 66 = .ok (.bipush 21, 2) := by decide +kernel
theorem dX9_layOut_68 : decode cX9_layOut 68 = .ok (.imul, 1) := by decide +kernel
theorem dX9_layOut_69 : decode cX9_layOut 69 = .ok (.iload 6, 2) := by decide +kernel
theorem dX9_layOut_71 : decode cX9_layOut 71 = .ok (.iadd, 1) := by decide +kernel
theorem dX9_layOut_72 : decode cX9_layOut 72 = .ok (.aload_n 3, 1) := by decide +kernel
theorem dX9_layOut_73 : decode cX9_layOut 73 = .ok (.iload 7, 2) := by decide +kernel
theorem dX9_layOut_75 : decode cX9_layOut 75 = .ok (.invokevirtual 60, 3) := by decide +kernel
theorem dX9_layOut_78 : decode cX9_layOut 78 = .ok (.iastore, 1) := by decide +kernel
theorem dX9_layOut_79 : decode cX9_layOut 79 = .ok (.aload_n 0, 1) := by decide +kernel
theorem dX9_layOut_80 : decode cX9_layOut 80 = .ok (.getfield 18, 3) := by decide +kernel
theorem dX9_layOut_83 : decode cX9_layOut 83 = .ok (.iload_n 1, 1) := by decide +kernel
theorem dX9_layOut_84 : decode cX9_layOut 84 = .ok (.bipush 21, 2) := by decide +kernel
theorem dX9_layOut_86 : decode cX9_layOut 86 = .ok (.imul, 1) := by decide +kernel
theorem dX9_layOut_87 : decode cX9_layOut 87 = .ok (.iload 6, 2) := by decide +kernel
theorem dX9_layOut_89 : decode cX9_layOut 89 = .ok (.iadd, 1) := by decide +kernel
theorem dX9_layOut_90 : decode cX9_layOut 90 = .ok (.aload 4, 2) := by decide +kernel
theorem dX9_layOut_92 : decode cX9_layOut 92 = .ok (.iload 7, 2) := by decide +kernel
theorem dX9_layOut_94 : decode cX9_layOut 94 = .ok (.invokevirtual 60, 3) := by decide +kernel
theorem dX9_layOut_97 : decode cX9_layOut 97 = .ok (.iastore, 1) := by decide +kernel
theorem dX9_layOut_98 : decode cX9_layOut 98 = .ok (.iinc 6 1, 3) := by decide +kernel
theorem dX9_layOut_101 : decode cX9_layOut 101 = .ok (.goto (-81), 3) := by decide +kernel
theorem dX9_layOut_104 : decode cX9_layOut 104 = .ok (.iload 5, 2) := by decide +kernel
theorem dX9_layOut_106 : decode cX9_layOut 106 = .ok (.ireturn, 1) := by decide +kernel
set_option maxRecDepth 20000 in
theorem ggX9_weigh_X9_consider : GoodIn wsX9_weigh wsX9_consider := goodIn_r _ [8, 9, 10, 2, 1, 11, 12, 13, 14, 15] (by decide +kernel) (by decide +kernel)
set_option maxRecDepth 20000 in
theorem gX9_weigh_X9_consider : GoodIn wsX9_weigh (wsV RX9 66 RX9 yX9_consider wsX9_consider) := goodIn_app (goodIn_of _ (by decide +kernel)) ggX9_weigh_X9_consider
theorem dX9_weigh_0 : decode cX9_weigh 0 = .ok (.iload_n 2, 1) := by decide +kernel
theorem dX9_weigh_1 : decode cX9_weigh 1 = .ok (.bipush 21, 2) := by decide +kernel
theorem dX9_weigh_3 : decode cX9_weigh 3 = .ok (.imul, 1) := by decide +kernel
theorem dX9_weigh_4 : decode cX9_weigh 4 = .ok (.iload_n 3, 1) := by decide +kernel
theorem dX9_weigh_5 : decode cX9_weigh 5 = .ok (.iadd, 1) := by decide +kernel
theorem dX9_weigh_6 : decode cX9_weigh 6 = .ok (.istore 5, 2) := by decide +kernel
theorem dX9_weigh_8 : decode cX9_weigh 8 = .ok (.aload_n 0, 1) := by decide +kernel
theorem dX9_weigh_9 : decode cX9_weigh 9 = .ok (.iconst 0, 1) := by decide +kernel
theorem dX9_weigh_10 : decode cX9_weigh 10 = .ok (.putfield 39, 3) := by decide +kernel
theorem dX9_weigh_13 : decode cX9_weigh 13 = .ok (.aload_n 0, 1) := by decide +kernel
theorem dX9_weigh_14 : decode cX9_weigh 14 = .ok (.iconst (-1), 1) := by decide +kernel
theorem dX9_weigh_15 : decode cX9_weigh 15 = .ok (.putfield 21, 3) := by decide +kernel
theorem dX9_weigh_18 : decode cX9_weigh 18 = .ok (.iload_n 1, 1) := by decide +kernel
theorem dX9_weigh_19 : decode cX9_weigh 19 = .ok (.ifCond .le 18, 3) := by decide +kernel
theorem dX9_weigh_22 : decode cX9_weigh 22 = .ok (.aload_n 0, 1) := by decide +kernel
theorem dX9_weigh_23 : decode cX9_weigh 23 = .ok (.iconst 0, 1) := by decide +kernel
theorem dX9_weigh_24 : decode cX9_weigh 24 = .ok (.iload_n 1, 1) := by decide +kernel
theorem dX9_weigh_25 : decode cX9_weigh 25 = .ok (.aload_n 0, 1) := by decide +kernel
theorem dX9_weigh_26 : decode cX9_weigh 26 = .ok (.getfield 11, 3) := by decide +kernel
theorem dX9_weigh_29 : decode cX9_weigh 29 = .ok (.iload 5, 2) := by decide +kernel
theorem dX9_weigh_31 : decode cX9_weigh 31 = .ok (.iaload, 1) := by decide +kernel
theorem dX9_weigh_32 : decode cX9_weigh 32 = .ok (.iload 4, 2) := by decide +kernel
theorem dX9_weigh_34 : decode cX9_weigh 34 = .ok (.invokevirtual 66, 3) := by decide +kernel
theorem dX9_weigh_37 : decode cX9_weigh 37 = .ok (.iload_n 2, 1) := by decide +kernel
theorem dX9_weigh_38 : decode cX9_weigh 38 = .ok (.ifCond .le 21, 3) := by decide +kernel
theorem dX9_weigh_41 : decode cX9_weigh 41 = .ok (.aload_n 0, 1) := by decide +kernel
theorem dX9_weigh_42 : decode cX9_weigh 42 = .ok (.iconst 1, 1) := by decide +kernel
theorem dX9_weigh_43 : decode cX9_weigh 43 = .ok (.iload_n 2, 1) := by decide +kernel
theorem dX9_weigh_44 : decode cX9_weigh 44 = .ok (.aload_n 0, 1) := by decide +kernel
theorem dX9_weigh_45 : decode cX9_weigh 45 = .ok (.getfield 11, 3) := by decide +kernel
theorem dX9_weigh_48 : decode cX9_weigh 48 = .ok (.iload 5, 2) := by decide +kernel
theorem dX9_weigh_50 : decode cX9_weigh 50 = .ok (.bipush 21, 2) := by decide +kernel
theorem dX9_weigh_52 : decode cX9_weigh 52 = .ok (.isub, 1) := by decide +kernel
theorem dX9_weigh_53 : decode cX9_weigh 53 = .ok (.iaload, 1) := by decide +kernel
theorem dX9_weigh_54 : decode cX9_weigh 54 = .ok (.iload 4, 2) := by decide +kernel
theorem dX9_weigh_56 : decode cX9_weigh 56 = .ok (.invokevirtual 66, 3) := by decide +kernel
theorem dX9_weigh_59 : decode cX9_weigh 59 = .ok (.iload_n 3, 1) := by decide +kernel
theorem dX9_weigh_60 : decode cX9_weigh 60 = .ok (.ifCond .le 20, 3) := by decide +kernel
theorem dX9_weigh_63 : decode cX9_weigh 63 = .ok (.aload_n 0, 1) := by decide +kernel
theorem dX9_weigh_64 : decode cX9_weigh 64 = .ok (.iconst 2, 1) := by decide +kernel
theorem dX9_weigh_65 : decode cX9_weigh 65 = .ok (.iload_n 3, 1) := by decide +kernel
theorem dX9_weigh_66 : decode cX9_weigh 66 = .ok (.aload_n 0, 1) := by decide +kernel
theorem dX9_weigh_67 : decode cX9_weigh 67 = .ok (.getfield 11, 3) := by decide +kernel
theorem dX9_weigh_70 : decode cX9_weigh 70 = .ok (.iload 5, 2) := by decide +kernel
theorem dX9_weigh_72 : decode cX9_weigh 72 = .ok (.iconst 1, 1) := by decide +kernel
theorem dX9_weigh_73 : decode cX9_weigh 73 = .ok (.isub, 1) := by decide +kernel
theorem dX9_weigh_74 : decode cX9_weigh 74 = .ok (.iaload, 1) := by decide +kernel
theorem dX9_weigh_75 : decode cX9_weigh 75 = .ok (.iload 4, 2) := by decide +kernel
theorem dX9_weigh_77 : decode cX9_weigh 77 = .ok (.invokevirtual 66, 3) := by decide +kernel
theorem dX9_weigh_80 : decode cX9_weigh 80 = .ok (.aload_n 0, 1) := by decide +kernel
theorem dX9_weigh_81 : decode cX9_weigh 81 = .ok (.getfield 11, 3) := by decide +kernel
theorem dX9_weigh_84 : decode cX9_weigh 84 = .ok (.iload 5, 2) := by decide +kernel
theorem dX9_weigh_86 : decode cX9_weigh 86 = .ok (.aload_n 0, 1) := by decide +kernel
theorem dX9_weigh_87 : decode cX9_weigh 87 = .ok (.getfield 39, 3) := by decide +kernel
theorem dX9_weigh_90 : decode cX9_weigh 90 = .ok (.iastore, 1) := by decide +kernel
theorem dX9_weigh_91 : decode cX9_weigh 91 = .ok (.return_, 1) := by decide +kernel
theorem dX9_consider_0 : decode cX9_consider 0 = .ok (.iload_n 1, 1) := by decide +kernel
theorem dX9_consider_1 : decode cX9_consider 1 = .ok (.bipush 21, 2) := by decide +kernel
theorem dX9_consider_3 : decode cX9_consider 3 = .ok (.imul, 1) := by decide +kernel
theorem dX9_consider_4 : decode cX9_consider 4 = .ok (.iload_n 2, 1) := by decide +kernel
theorem dX9_consider_5 : decode cX9_consider 5 = .ok (.iadd, 1) := by decide +kernel
theorem dX9_consider_6 : decode cX9_consider 6 = .ok (.istore 5, 2) := by decide +kernel
theorem dX9_consider_8 : decode cX9_consider 8 = .ok (.iload 4, 2) := by decide +kernel
theorem dX9_consider_10 : decode cX9_consider 10 = .ok (.ifCond .eq 15, 3) := by decide +kernel
theorem dX9_consider_13 : decode cX9_consider 13 = .ok (.iload_n 3, 1) := by decide +kernel
theorem dX9_consider_14 : decode cX9_consider 14 = .ok (.aload_n 0, 1) := by decide +kernel
theorem dX9_consider_15 : decode cX9_consider 15 = .ok (.getfield 15, 3) := by decide +kernel
theorem dX9_consider_18 : decode cX9_consider 18 = .ok (.iload 5, 2) := by decide +kernel
theorem dX9_consider_20 : decode cX9_consider 20 = .ok (.iaload, 1) := by decide +kernel
theorem dX9_consider_21 : decode cX9_consider 21 = .ok (.iadd, 1) := by decide +kernel
theorem dX9_consider_22 : decode cX9_consider 22 = .ok (.goto 12, 3) := by decide +kernel
theorem dX9_consider_25 : decode cX9_consider 25 = .ok (.iload_n 3, 1) := by decide +kernel
theorem dX9_consider_26 : decode cX9_consider 26 = .ok (.aload_n 0, 1) := by decide +kernel
theorem dX9_consider_27 : decode cX9_consider 27 = .ok (.getfield 18, 3) := by decide +kernel
theorem dX9_consider_30 : decode cX9_consider 30 = .ok (.iload 5, 2) := by decide +kernel
theorem dX9_consider_32 : decode cX9_consider 32 = .ok (.iaload, 1) := by decide +kernel
theorem dX9_consider_33 : decode cX9_consider 33 = .ok (.isub, 1) := by decide +kernel
theorem dX9_consider_34 : decode cX9_consider 34 = .ok (.istore 6, 2) := by decide +kernel
theorem dX9_consider_36 : decode cX9_consider 36 = .ok (.aload_n 0, 1) := by decide +kernel
theorem dX9_consider_37 : decode cX9_consider 37 = .ok (.getfield 21, 3) := by decide +kernel
theorem dX9_consider_40 : decode cX9_consider 40 = .ok (.iconst (-1), 1) := by decide +kernel
theorem dX9_consider_41 : decode cX9_consider 41 = .ok (.if_icmp .eq 29, 3) := by decide +kernel
theorem dX9_consider_44 : decode cX9_consider 44 = .ok (.iload 4, 2) := by decide +kernel
theorem dX9_consider_46 : decode cX9_consider 46 = .ok (.ifCond .eq 15, 3) := by decide +kernel
theorem dX9_consider_49 : decode cX9_consider 49 = .ok (.iload 6, 2) := by decide +kernel
theorem dX9_consider_51 : decode cX9_consider 51 = .ok (.aload_n 0, 1) := by decide +kernel
theorem dX9_consider_52 : decode cX9_consider 52 = .ok (.getfield 39, 3) := by decide +kernel
theorem dX9_consider_55 : decode cX9_consider 55 = .ok (.if_icmp .le 26, 3) := by decide +kernel
theorem dX9_consider_58 : decode cX9_consider 58 = .ok (.goto 12, 3) := by decide +kernel
theorem dX9_consider_61 : decode cX9_consider 61 = .ok (.iload 6, 2) := by decide +kernel
theorem dX9_consider_63 : decode cX9_consider 63 = .ok (.aload_n 0, 1) := by decide +kernel
theorem dX9_consider_64 : decode cX9_consider 64 = .ok (.getfield 39, 3) := by decide +kernel
theorem dX9_consider_67 : decode cX9_consider 67 = .ok (.if_icmp .ge 14, 3) := by decide +kernel
theorem dX9_consider_70 : decode cX9_consider 70 = .ok (.aload_n 0, 1) := by decide +kernel
theorem dX9_consider_71 : decode cX9_consider 71 = .ok (.iload 6, 2) := by decide +kernel
theorem dX9_consider_73 : decode cX9_consider 73 = .ok (.putfield 39, 3) := by decide +kernel
theorem dX9_consider_76 : decode cX9_consider 76 = .ok (.aload_n 0, 1) := by decide +kernel
theorem dX9_consider_77 : decode cX9_consider 77 = .ok (.iload_n 1, 1) := by decide +kernel
theorem dX9_consider_78 : decode cX9_consider 78 = .ok (.putfield 21, 3) := by decide +kernel
theorem dX9_consider_81 : decode cX9_consider 81 = .ok (.return_, 1) := by decide +kernel
set_option maxRecDepth 20000 in
theorem ggX10_init_X0_init : GoodIn wsX10_init wsX0_init := goodIn_r _ [3, 4, 5, 6, 7, 8, 9, 10, 11, 12, 13, 14, 15, 16, 17, 18, 19] (by decide +kernel) (by decide +kernel)
set_option maxRecDepth 20000 in
theorem gX10_init_X0_init_n3 : GoodIn wsX10_init (wsX0_init) := ggX10_init_X0_init
theorem dX10_init_0 : decode cX10_init 0 = .ok (.aload_n 0, 1) := by decide +kernel
theorem dX10_init_1 : decode cX10_init 1 = .ok (.invokespecial 3, 3) := by decide +kernel
theorem dX10_init_4 : decode cX10_init 4 = .ok (.return_, 1) := by decide +kernel
theorem dX10_kind_0 : decode cX10_kind 0 = .ok (.iconst 3, 1) := by decide +kernel
theorem dX10_kind_1 : decode cX10_kind 1 = .ok (.ireturn, 1) := by decide +kernel
set_option maxRecDepth 20000 in
theorem ggX10_filmWorth_X0_filmWorth : GoodIn wsX10_filmWorth wsX0_filmWorth := goodIn_r _ [6] (by decide +kernel) (by decide +kernel)
set_option maxRecDepth 20000 in
theorem gX10_filmWorth_X0_filmWorth_s9 : GoodIn wsX10_filmWorth (va_wsSU RX10 9 yX0_filmWorth wsX0_filmWorth) := goodIn_app (goodIn_of _ (by decide +kernel)) ggX10_filmWorth_X0_filmWorth
theorem dX10_filmWorth_0 : decode cX10_filmWorth 0 = .ok (.iconst 2, 1) := by decide +kernel
theorem dX10_filmWorth_1 : decode cX10_filmWorth 1 = .ok (.aload_n 0, 1) := by decide +kernel
theorem dX10_filmWorth_2 : decode cX10_filmWorth 2 = .ok (.invokespecial 9, 3) := by decide +kernel
theorem dX10_filmWorth_5 : decode cX10_filmWorth 5 = .ok (.imul, 1) := by decide +kernel
theorem dX10_filmWorth_6 : decode cX10_filmWorth 6 = .ok (.ireturn, 1) := by decide +kernel
set_option maxRecDepth 20000 in
theorem ggX11_init_X3_init : GoodIn wsX11_init wsX3_init := goodIn_r _ [34, 35, 2, 3, 36, 37, 68, 69, 70, 71, 72] (by decide +kernel) (by decide +kernel)
set_option maxRecDepth 20000 in
theorem gX11_init_X3_init_n9 : GoodIn wsX11_init (wsX3_init) := ggX11_init_X3_init
set_option maxRecDepth 20000 in
theorem ggX11_init_X7_init : GoodIn wsX11_init wsX7_init := goodIn_r _ [40, 41, 2, 3, 42, 43, 22, 23, 44, 45, 46, 89, 90, 95, 96, 97, 98, 99, 100] (by decide +kernel) (by decide +kernel)
set_option maxRecDepth 20000 in
theorem gX11_init_X7_init : GoodIn wsX11_init (wsX7_init) := ggX11_init_X7_init
set_option maxRecDepth 20000 in
theorem ggX11_init_X8_init : GoodIn wsX11_init wsX8_init := goodIn_r _ [48, 49, 2, 3, 50, 51, 52, 53, 91, 92, 93, 94] (by decide +kernel) (by decide +kernel)
set_option maxRecDepth 20000 in
theorem gX11_init_X8_init_n31 : GoodIn wsX11_init (wsX8_init) := ggX11_init_X8_init
set_option maxRecDepth 20000 in
theorem ggX11_init_X4_init : GoodIn wsX11_init wsX4_init := goodIn_r _ [45, 46, 2, 3] (by decide +kernel) (by decide +kernel)
set_option maxRecDepth 20000 in
theorem gX11_init_X4_init_n47 : GoodIn wsX11_init (wsX4_init) := ggX11_init_X4_init
set_option maxRecDepth 20000 in
theorem ggX11_init_X5_init : GoodIn wsX11_init wsX5_init := goodIn_r _ [56, 57, 2, 3, 58, 59, 50, 60, 9, 10, 61, 39, 40, 41, 42, 43, 22, 23, 44, 45, 46, 101, 102, 89, 90, 95, 96, 97, 98, 99, 100] (by decide +kernel) (by decide +kernel)
set_option maxRecDepth 20000 in
theorem gX11_init_X5_init : GoodIn wsX11_init (wsX5_init) := ggX11_init_X5_init
set_option maxRecDepth 20000 in
theorem ggX11_init_X9_init : GoodIn wsX11_init wsX9_init := goodIn_r _ [63, 64, 2, 3, 50, 65, 66, 67, 103, 104, 105, 106, 107] (by decide +kernel) (by decide +kernel)
set_option maxRecDepth 20000 in
theorem gX11_init_X9_init_n61 : GoodIn wsX11_init (wsX9_init) := ggX11_init_X9_init
theorem dX11_init_0 : decode cX11_init 0 = .ok (.aload_n 0, 1) := by decide +kernel
theorem dX11_init_1 : decode cX11_init 1 = .ok (.invokespecial 1, 3) := by decide +kernel
theorem dX11_init_4 : decode cX11_init 4 = .ok (.aload_n 0, 1) := by decide +kernel
theorem dX11_init_5 : decode cX11_init 5 = .ok (.new 7, 3) := by decide +kernel
theorem dX11_init_8 : decode cX11_init 8 = .ok (.dup, 1) := by decide +kernel
theorem dX11_init_9 : decode cX11_init 9 = .ok (.invokespecial 9, 3) := by decide +kernel
theorem dX11_init_12 : decode cX11_init 12 = .ok (.putfield 10, 3) := by decide +kernel
theorem dX11_init_15 : decode cX11_init 15 = .ok (.aload_n 0, 1) := by decide +kernel
theorem dX11_init_16 : decode cX11_init 16 = .ok (.new 16, 3) := by decide +kernel
theorem dX11_init_19 : decode cX11_init 19 = .ok (.dup, 1) := by decide +kernel
theorem dX11_init_20 : decode cX11_init 20 = .ok (.invokespecial 18, 3) := by decide +kernel
theorem dX11_init_23 : decode cX11_init 23 = .ok (.putfield 19, 3) := by decide +kernel
theorem dX11_init_26 : decode cX11_init 26 = .ok (.aload_n 0, 1) := by decide +kernel
theorem dX11_init_27 : decode cX11_init 27 = .ok (.iconst 5, 1) := by decide +kernel
theorem dX11_init_28 : decode cX11_init 28 = .ok (.anewarray 23, 3) := by decide +kernel
theorem dX11_init_31 : decode cX11_init 31 = .ok (.putfield 25, 3) := by decide +kernel
theorem dX11_init_34 : decode cX11_init 34 = .ok (.aload_n 0, 1) := by decide +kernel
theorem dX11_init_35 : decode cX11_init 35 = .ok (.new 29, 3) := by decide +kernel
theorem dX11_init_38 : decode cX11_init 38 = .ok (.dup, 1) := by decide +kernel
theorem dX11_init_39 : decode cX11_init 39 = .ok (.invokespecial 31, 3) := by decide +kernel
theorem dX11_init_42 : decode cX11_init 42 = .ok (.putfield 32, 3) := by decide +kernel
theorem dX11_init_45 : decode cX11_init 45 = .ok (.aload_n 0, 1) := by decide +kernel
theorem dX11_init_46 : decode cX11_init 46 = .ok (.new 16, 3) := by decide +kernel
theorem dX11_init_49 : decode cX11_init 49 = .ok (.dup, 1) := by decide +kernel
theorem dX11_init_50 : decode cX11_init 50 = .ok (.invokespecial 18, 3) := by decide +kernel
theorem dX11_init_53 : decode cX11_init 53 = .ok (.putfield 36, 3) := by decide +kernel
theorem dX11_init_56 : decode cX11_init 56 = .ok (.aload_n 0, 1) := by decide +kernel
theorem dX11_init_57 : decode cX11_init 57 = .ok (.new 29, 3) := by decide +kernel
theorem dX11_init_60 : decode cX11_init 60 = .ok (.dup, 1) := by decide +kernel
theorem dX11_init_61 : decode cX11_init 61 = .ok (.invokespecial 31, 3) := by decide +kernel
theorem dX11_init_64 : decode cX11_init 64 = .ok (.putfield 39, 3) := by decide +kernel
theorem dX11_init_67 : decode cX11_init 67 = .ok (.aload_n 0, 1) := by decide +kernel
theorem dX11_init_68 : decode cX11_init 68 = .ok (.new 16, 3) := by decide +kernel
theorem dX11_init_71 : decode cX11_init 71 = .ok (.dup, 1) := by decide +kernel
theorem dX11_init_72 : decode cX11_init 72 = .ok (.invokespecial 18, 3) := by decide +kernel
theorem dX11_init_75 : decode cX11_init 75 = .ok (.putfield 42, 3) := by decide +kernel
theorem dX11_init_78 : decode cX11_init 78 = .ok (.aload_n 0, 1) := by decide +kernel
theorem dX11_init_79 : decode cX11_init 79 = .ok (.new 45, 3) := by decide +kernel
theorem dX11_init_82 : decode cX11_init 82 = .ok (.dup, 1) := by decide +kernel
theorem dX11_init_83 : decode cX11_init 83 = .ok (.invokespecial 47, 3) := by decide +kernel
theorem dX11_init_86 : decode cX11_init 86 = .ok (.putfield 48, 3) := by decide +kernel
theorem dX11_init_89 : decode cX11_init 89 = .ok (.aload_n 0, 1) := by decide +kernel
theorem dX11_init_90 : decode cX11_init 90 = .ok (.new 52, 3) := by decide +kernel
theorem dX11_init_93 : decode cX11_init 93 = .ok (.dup, 1) := by decide +kernel
theorem dX11_init_94 : decode cX11_init 94 = .ok (.invokespecial 54, 3) := by decide +kernel
theorem dX11_init_97 : decode cX11_init 97 = .ok (.putfield 55, 3) := by decide +kernel
theorem dX11_init_100 : decode cX11_init 100 = .ok (.aload_n 0, 1) := by decide +kernel
theorem dX11_init_101 : decode cX11_init 101 = .ok (.new 59, 3) := by decide +kernel
theorem dX11_init_104 : decode cX11_init 104 = .ok (.dup, 1) := by decide +kernel
theorem dX11_init_105 : decode cX11_init 105 = .ok (.invokespecial 61, 3) := by decide +kernel
theorem dX11_init_108 : decode cX11_init 108 = .ok (.putfield 62, 3) := by decide +kernel
theorem dX11_init_111 : decode cX11_init 111 = .ok (.return_, 1) := by decide +kernel
set_option maxRecDepth 20000 in
theorem ggX11_letter_X3_isFull : GoodIn wsX11_letter wsX3_isFull := goodIn_r _ [6, 7, 8, 34, 35, 36, 37, 38] (by decide +kernel) (by decide +kernel)
set_option maxRecDepth 20000 in
theorem gX11_letter_X3_isFull : GoodIn wsX11_letter (wsV RX11 66 RX3 yX3_isFull wsX3_isFull) := goodIn_app (goodIn_of _ (by decide +kernel)) ggX11_letter_X3_isFull
set_option maxRecDepth 20000 in
theorem ggX11_letter_X3_add : GoodIn wsX11_letter wsX3_add := goodIn_r _ [12, 8, 7, 13, 3, 4, 5, 6, 34, 35, 36, 37, 38] (by decide +kernel) (by decide +kernel)
set_option maxRecDepth 20000 in
theorem gX11_letter_X3_add : GoodIn wsX11_letter (wsV RX11 70 RX3 yX3_add wsX3_add) := goodIn_app (goodIn_of _ (by decide +kernel)) ggX11_letter_X3_add
set_option maxRecDepth 20000 in
theorem ggX11_letter_X3_size : GoodIn wsX11_letter wsX3_size := goodIn_r _ [17, 7, 34, 35, 36, 37, 38] (by decide +kernel) (by decide +kernel)
set_option maxRecDepth 20000 in
theorem gX11_letter_X3_size : GoodIn wsX11_letter (wsV RX11 74 RX3 yX3_size wsX3_size) := goodIn_app (goodIn_of _ (by decide +kernel)) ggX11_letter_X3_size
theorem dX11_letter_0 : decode cX11_letter 0 = .ok (.iload_n 1, 1) := by decide +kernel
theorem dX11_letter_1 : decode cX11_letter 1 = .ok (.bipush 32, 2) := by decide +kernel
theorem dX11_letter_3 : decode cX11_letter 3 = .ok (.if_icmp .lt 9, 3) := by decide +kernel
theorem dX11_letter_6 : decode cX11_letter 6 = .ok (.iload_n 1, 1) := by decide +kernel
theorem dX11_letter_7 : decode cX11_letter 7 = .ok (.bipush 126, 2) := by decide +kernel
theorem dX11_letter_9 : decode cX11_letter 9 = .ok (.if_icmp .le 6, 3) := by decide +kernel
theorem dX11_letter_12 : decode cX11_letter 12 = .ok (.bipush (-102), 2) := by decide +kernel
theorem dX11_letter_14 : decode cX11_letter 14 = .ok (.ireturn, 1) := by decide +kernel
theorem dX11_letter_15 : decode cX11_letter 15 = .ok (.aload_n 0, 1) := by decide +kernel
theorem dX11_letter_16 : decode cX11_letter 16 = .ok (.getfield 10, 3) := by decide +kernel
theorem dX11_letter_19 : decode cX11_letter 19 = .ok (.invokevirtual 66, 3) := by decide +kernel
theorem dX11_letter_22 : decode cX11_letter 22 = .ok (.ifCond .eq 6, 3) := by decide +kernel
theorem dX11_letter_25 : decode cX11_letter 25 = .ok (.bipush (-104), 2) := by decide +kernel
theorem dX11_letter_27 : decode cX11_letter 27 = .ok (.ireturn, 1) := by decide +kernel
theorem dX11_letter_28 : decode cX11_letter 28 = .ok (.aload_n 0, 1) := by decide +kernel
theorem dX11_letter_29 : decode cX11_letter 29 = .ok (.getfield 10, 3) := by decide +kernel
theorem dX11_letter_32 : decode cX11_letter 32 = .ok (.iload_n 1, 1) := by decide +kernel
theorem dX11_letter_33 : decode cX11_letter 33 = .ok (.i2c, 1) := by decide +kernel
theorem dX11_letter_34 : decode cX11_letter 34 = .ok (.invokevirtual 70, 3) := by decide +kernel
theorem dX11_letter_37 : decode cX11_letter 37 = .ok (.aload_n 0, 1) := by decide +kernel
theorem dX11_letter_38 : decode cX11_letter 38 = .ok (.getfield 10, 3) := by decide +kernel
theorem dX11_letter_41 : decode cX11_letter 41 = .ok (.invokevirtual 74, 3) := by decide +kernel
theorem dX11_letter_44 : decode cX11_letter 44 = .ok (.ireturn, 1) := by decide +kernel
set_option maxRecDepth 20000 in
theorem ggX11_blank_X3_clear : GoodIn wsX11_blank wsX3_clear := goodIn_r _ [6, 7, 24, 25, 26, 27, 28] (by decide +kernel) (by decide +kernel)
set_option maxRecDepth 20000 in
theorem gX11_blank_X3_clear : GoodIn wsX11_blank (wsV RX11 78 RX3 yX3_clear wsX3_clear) := goodIn_app (goodIn_of _ (by decide +kernel)) ggX11_blank_X3_clear
theorem dX11_blank_0 : decode cX11_blank 0 = .ok (.aload_n 0, 1) := by decide +kernel
theorem dX11_blank_1 : decode cX11_blank 1 = .ok (.getfield 10, 3) := by decide +kernel
theorem dX11_blank_4 : decode cX11_blank 4 = .ok (.invokevirtual 78, 3) := by decide +kernel
theorem dX11_blank_7 : decode cX11_blank 7 = .ok (.ireturn, 1) := by decide +kernel
set_option maxRecDepth 20000 in
theorem ggX11_fault_X3_firstWrong : GoodIn wsX11_fault wsX3_firstWrong := goodIn_r _ [6, 7, 8, 9, 10, 11, 12, 13, 5, 14, 15, 16, 17, 18, 19, 20, 21, 22, 23, 24, 25, 26, 27, 28, 29, 30, 31, 32, 33, 34, 35, 36, 37, 38, 39, 40, 41, 42, 43, 44, 45, 46, 47, 48, 49, 50, 51, 52, 53, 54, 55, 56, 57, 58, 59, 60, 61, 62, 63, 64, 65, 66, 67, 68, 69, 70, 71, 72, 73, 74, 75, 76, 77, 78, 79, 80, 81, 82, 83, 84, 85, 86, 87, 88, 89, 90, 91, 92, 93, 94, 95, 96, 97, 98, 99, 100, 101, 102, 103, 104, 105, 106, 107, 108, 109, 110, 111, 128, 129, 130, 131, 132] (by decide +kernel) (by decide +kernel)
set_option maxRecDepth 20000 in
theorem gX11_fault_X3_firstWrong : GoodIn wsX11_fault (wsV RX11 81 RX3 yX3_firstWrong wsX3_firstWrong) := goodIn_app (goodIn_of _ (by decide +kernel)) ggX11_fault_X3_firstWrong
theorem dX11_fault_0 : decode cX11_fault 0 = .ok (.aload_n 0, 1) := by decide +kernel
theorem dX11_fault_1 : decode cX11_fault 1 = .ok (.getfield 10, 3) := by decide +kernel
theorem dX11_fault_4 : decode cX11_fault 4 = .ok (.invokevirtual 81, 3) := by decide +kernel
theorem dX11_fault_7 : decode cX11_fault 7 = .ok (.ireturn, 1) := by decide +kernel
set_option maxRecDepth 20000 in
theorem ggX11_dairy_X3_isDairy : GoodIn wsX11_dairy wsX3_isDairy := goodIn_r _ [11, 12, 13, 14, 15, 16, 17, 10, 18, 19, 20, 21, 22, 23, 24, 25, 26, 27, 28, 29, 30, 31, 32, 33, 34, 35, 36, 37, 38, 39, 40, 41, 42, 43, 44, 45, 46, 47, 48, 49, 50, 51, 52, 53, 54, 55, 56, 57, 58, 59, 60, 61, 62, 63, 64, 65, 66, 67, 68, 69, 70, 71, 72, 73, 74, 75, 76, 77, 78, 79, 80, 81, 82, 83, 84, 85, 86, 87, 88, 89, 90, 91, 92, 93, 94, 95, 96, 97, 98, 99, 100, 101, 102, 103, 104, 105, 106, 107, 108, 109, 110, 111, 112, 113, 114, 115, 116, 117, 118, 119, 120, 236, 237, 238, 239, 240] (by decide +kernel) (by decide +kernel)
set_option maxRecDepth 20000 in
theorem gX11_dairy_X3_isDairy : GoodIn wsX11_dairy (wsV RX11 84 RX3 yX3_isDairy wsX3_isDairy) := goodIn_app (goodIn_of _ (by decide +kernel)) ggX11_dairy_X3_isDairy
set_option maxRecDepth 20000 in
theorem ggX11_dairy_X11_readPans : GoodIn wsX11_dairy wsX11_readPans := goodIn_r _ [125, 126, 1, 127, 128, 129, 130, 131, 132, 133, 134, 135, 10, 136, 19, 137, 138, 139, 140, 141, 21, 22, 23, 12, 24, 142, 30, 31, 32, 33, 34, 35, 36, 37, 38, 39, 40, 41, 42, 43, 44, 45, 46, 47, 48, 49, 50, 51, 52, 53, 54, 55, 56, 57, 58, 59, 60, 61, 62, 63, 64, 65, 66, 67, 68, 69, 70, 71, 72, 73, 74, 75, 76, 77, 78, 79, 80, 81, 82, 83, 84, 85, 86, 87, 88, 89, 90, 91, 92, 93, 94, 95, 96, 97, 98, 99, 100, 101, 102, 103, 104, 105, 106, 107, 108, 109, 110, 111, 112, 113, 114, 115, 116, 117, 143, 144, 124, 145, 146, 147, 148, 149, 150, 151, 152, 153, 154, 155, 156, 157, 158, 159, 160, 161, 220, 221, 222, 223, 224, 225, 226, 227, 228, 229, 230, 231, 232, 233, 234, 235, 241, 242, 236, 237, 238, 239, 240, 243, 244, 245, 246, 247, 248] (by decide +kernel) (by decide +kernel)
set_option maxRecDepth 20000 in
theorem gX11_dairy_X11_readPans : GoodIn wsX11_dairy (wsV RX11 87 RX11 yX11_readPans wsX11_readPans) := goodIn_app (goodIn_of _ (by decide +kernel)) ggX11_dairy_X11_readPans
set_option maxRecDepth 20000 in
theorem ggX11_dairy_X11_readChildren : GoodIn wsX11_dairy wsX11_readChildren := goodIn_r _ [165, 1, 166, 167, 62, 59, 63, 6, 168, 169, 170, 10, 171, 14, 172, 173, 174, 175, 19, 141, 21, 22, 23, 12, 24, 142, 30, 31, 32, 33, 34, 35, 36, 37, 38, 39, 40, 41, 42, 43, 44, 45, 46, 47, 48, 49, 50, 51, 52, 53, 54, 55, 56, 57, 58, 60, 61, 64, 65, 66, 67, 68, 69, 70, 71, 72, 73, 74, 75, 76, 77, 78, 79, 80, 81, 82, 83, 84, 85, 86, 87, 88, 89, 90, 91, 92, 93, 94, 95, 96, 97, 98, 99, 100, 101, 102, 103, 104, 105, 106, 107, 108, 109, 110, 111, 112, 113, 114, 115, 116, 117, 176, 177, 124, 178, 179, 180, 181, 182, 183, 184, 185, 186, 187, 188, 189, 190, 191, 192, 193, 194, 195, 196, 197, 198, 199, 200, 201, 202, 203, 204, 205, 206, 207, 208, 209, 220, 221, 222, 223, 224, 225, 226, 227, 228, 229, 230, 231, 232, 233, 234, 235, 236, 237, 238, 239, 240, 249, 250, 251, 252, 253, 254, 255, 256, 257, 258] (by decide +kernel) (by decide +kernel)
set_option maxRecDepth 20000 in
theorem gX11_dairy_X11_readChildren : GoodIn wsX11_dairy (wsV RX11 90 RX11 yX11_readChildren wsX11_readChildren) := goodIn_app (goodIn_of _ (by decide +kernel)) ggX11_dairy_X11_readChildren
set_option maxRecDepth 20000 in
theorem ggX11_dairy_X3_clear : GoodIn wsX11_dairy wsX3_clear := goodIn_r _ [213, 12, 236, 237, 238, 239, 240] (by decide +kernel) (by decide +kernel)
set_option maxRecDepth 20000 in
theorem gX11_dairy_X3_clear : GoodIn wsX11_dairy (wsV RX11 78 RX3 yX3_clear wsX3_clear) := goodIn_app (goodIn_of _ (by decide +kernel)) ggX11_dairy_X3_clear
set_option maxRecDepth 20000 in
theorem ggX11_dairy_X8_clear : GoodIn wsX11_dairy wsX8_clear := goodIn_r _ [218, 219, 259, 260, 261, 262] (by decide +kernel) (by decide +kernel)
set_option maxRecDepth 20000 in
theorem gX11_dairy_X8_clear : GoodIn wsX11_dairy (wsV RX11 97 RX8 yX8_clear wsX8_clear) := goodIn_app (goodIn_of _ (by decide +kernel)) ggX11_dairy_X8_clear
theorem dX11_dairy_0 : decode cX11_dairy 0 = .ok (.aload_n 0, 1) := by decide +kernel
theorem dX11_dairy_1 : decode cX11_dairy 1 = .ok (.getfield 10, 3) := by decide +kernel
theorem dX11_dairy_4 : decode cX11_dairy 4 = .ok (.invokevirtual 84, 3) := by decide +kernel
theorem dX11_dairy_7 : decode cX11_dairy 7 = .ok (.ifCond .ne 6, 3) := by decide +kernel
theorem dX11_dairy_10 : decode cX11_dairy 10 = .ok (.bipush (-103), 2) := by decide +kernel
theorem dX11_dairy_12 : decode cX11_dairy 12 = .ok (.ireturn, 1) := by decide +kernel
theorem dX11_dairy_13 : decode cX11_dairy 13 = .ok (.aload_n 0, 1) := by decide +kernel
theorem dX11_dairy_14 : decode cX11_dairy 14 = .ok (.invokevirtual 87, 3) := by decide +kernel
theorem dX11_dairy_17 : decode cX11_dairy 17 = .ok (.aload_n 0, 1) := by decide +kernel
theorem dX11_dairy_18 : decode cX11_dairy 18 = .ok (.invokevirtual 90, 3) := by decide +kernel
theorem dX11_dairy_21 : decode cX11_dairy 21 = .ok (.aload_n 0, 1) := by decide +kernel
theorem dX11_dairy_22 : decode cX11_dairy 22 = .ok (.getfield 10, 3) := by decide +kernel
theorem dX11_dairy_25 : decode cX11_dairy 25 = .ok (.invokevirtual 78, 3) := by decide +kernel
theorem dX11_dairy_28 : decode cX11_dairy 28 = .ok (.pop, 1) := by decide +kernel
theorem dX11_dairy_29 : decode cX11_dairy 29 = .ok (.aload_n 0, 1) := by decide +kernel
theorem dX11_dairy_30 : decode cX11_dairy 30 = .ok (.iconst 0, 1) := by decide +kernel
theorem dX11_dairy_31 : decode cX11_dairy 31 = .ok (.putfield 93, 3) := by decide +kernel
theorem dX11_dairy_34 : decode cX11_dairy 34 = .ok (.aload_n 0, 1) := by decide +kernel
theorem dX11_dairy_35 : decode cX11_dairy 35 = .ok (.getfield 32, 3) := by decide +kernel
theorem dX11_dairy_38 : decode cX11_dairy 38 = .ok (.invokevirtual 97, 3) := by decide +kernel
theorem dX11_dairy_41 : decode cX11_dairy 41 = .ok (.pop, 1) := by decide +kernel
theorem dX11_dairy_42 : decode cX11_dairy 42 = .ok (.aload_n 0, 1) := by decide +kernel
theorem dX11_dairy_43 : decode cX11_dairy 43 = .ok (.iconst 0, 1) := by decide +kernel
theorem dX11_dairy_44 : decode cX11_dairy 44 = .ok (.putfield 98, 3) := by decide +kernel
theorem dX11_dairy_47 : decode cX11_dairy 47 = .ok (.aload_n 0, 1) := by decide +kernel
theorem dX11_dairy_48 : decode cX11_dairy 48 = .ok (.dup, 1) := by decide +kernel
theorem dX11_dairy_49 : decode cX11_dairy 49 = .ok (.getfield 102, 3) := by decide +kernel
theorem dX11_dairy_52 : decode cX11_dairy 52 = .ok (.iconst 1, 1) := by decide +kernel
theorem dX11_dairy_53 : decode cX11_dairy 53 = .ok (.iadd, 1) := by decide +kernel
theorem dX11_dairy_54 : decode cX11_dairy 54 = .ok (.putfield 102, 3) := by decide +kernel
theorem dX11_dairy_57 : decode cX11_dairy 57 = .ok (.aload_n 0, 1) := by decide +kernel
theorem dX11_dairy_58 : decode cX11_dairy 58 = .ok (.getfield 105, 3) := by decide +kernel
theorem dX11_dairy_61 : decode cX11_dairy 61 = .ok (.ireturn, 1) := by decide +kernel
set_option maxRecDepth 20000 in
theorem ggX11_readPans_X7_clear : GoodIn wsX11_readPans wsX7_clear := goodIn_r _ [7, 8, 150, 151] (by decide +kernel) (by decide +kernel)
set_option maxRecDepth 20000 in
theorem gX11_readPans_X7_clear : GoodIn wsX11_readPans (wsV RX11 108 RX7 yX7_clear wsX7_clear) := goodIn_app (goodIn_of _ (by decide +kernel)) ggX11_readPans_X7_clear
set_option maxRecDepth 20000 in
theorem ggX11_readPans_X3_pans : GoodIn wsX11_readPans wsX3_pans := goodIn_r _ [13, 14, 152, 153, 154, 155, 156] (by decide +kernel) (by decide +kernel)
set_option maxRecDepth 20000 in
theorem gX11_readPans_X3_pans : GoodIn wsX11_readPans (wsV RX11 110 RX3 yX3_pans wsX3_pans) := goodIn_app (goodIn_of _ (by decide +kernel)) ggX11_readPans_X3_pans
set_option maxRecDepth 20000 in
theorem ggX11_readPans_X3_startOfPan : GoodIn wsX11_readPans wsX3_startOfPan := goodIn_r _ [18] (by decide +kernel) (by decide +kernel)
set_option maxRecDepth 20000 in
theorem gX11_readPans_X3_startOfPan : GoodIn wsX11_readPans (wsV RX11 113 RX3 yX3_startOfPan wsX3_startOfPan) := goodIn_app (goodIn_of _ (by decide +kernel)) ggX11_readPans_X3_startOfPan
set_option maxRecDepth 20000 in
theorem ggX11_readPans_X3_at : GoodIn wsX11_readPans wsX3_at := goodIn_r _ [22, 23, 24, 152, 153, 154, 155, 156] (by decide +kernel) (by decide +kernel)
set_option maxRecDepth 20000 in
theorem gX11_readPans_X3_at : GoodIn wsX11_readPans (wsV RX11 119 RX3 yX3_at wsX3_at) := goodIn_app (goodIn_of _ (by decide +kernel)) ggX11_readPans_X3_at
set_option maxRecDepth 20000 in
theorem ggX11_readPans_J0_indexOf_0f7a4 : GoodIn wsX11_readPans wsJ0_indexOf_0f7a4 := goodIn_r _ [29, 30, 31, 32, 28, 33, 34, 35, 36, 37, 38, 39, 40, 41, 42, 43, 44, 45, 46, 47, 48, 49, 50, 51, 52, 53, 54, 55, 56, 57, 58, 59, 60, 61, 62, 63, 64, 65, 66, 67, 68, 69, 70, 71, 72, 73, 74, 75, 76, 77, 78, 79, 80, 81, 82, 83, 84, 85, 86, 87, 88, 89, 90, 91, 92, 93, 94, 95, 96, 97, 98, 99, 100, 101, 102, 103, 104, 105, 106, 107, 108, 109, 110, 111, 112, 113] (by decide +kernel) (by decide +kernel)
set_option maxRecDepth 20000 in
theorem gX11_readPans_J0_indexOf_0f7a4 : GoodIn wsX11_readPans (wsV RX11 123 RJ0 yJ0_indexOf_0f7a4 wsJ0_indexOf_0f7a4) := goodIn_app (goodIn_of _ (by decide +kernel)) ggX11_readPans_J0_indexOf_0f7a4
set_option maxRecDepth 20000 in
theorem ggX11_readPans_X11_digit : GoodIn wsX11_readPans wsX11_digit := goodIn_r _ [117] (by decide +kernel) (by decide +kernel)
set_option maxRecDepth 20000 in
theorem gX11_readPans_X11_digit : GoodIn wsX11_readPans (va_wsS RX11 128 yX11_digit wsX11_digit) := goodIn_app (goodIn_of _ (by decide +kernel)) ggX11_readPans_X11_digit
set_option maxRecDepth 20000 in
theorem ggX11_readPans_X7_add : GoodIn wsX11_readPans wsX7_add := goodIn_r _ [121, 8, 122, 123, 124, 125, 126, 127, 128, 129, 130, 131, 132, 133, 150, 151, 157, 158, 159, 160, 161, 162] (by decide +kernel) (by decide +kernel)
set_option maxRecDepth 20000 in
theorem gX11_readPans_X7_add : GoodIn wsX11_readPans (wsV RX11 132 RX7 yX7_add wsX7_add) := goodIn_app (goodIn_of _ (by decide +kernel)) ggX11_readPans_X7_add
theorem dX11_readPans_0 : decode cX11_readPans 0 = .ok (.aload_n 0, 1) := by decide +kernel
theorem dX11_readPans_1 : decode cX11_readPans 1 = .ok (.getfield 19, 3) := by decide +kernel
theorem dX11_readPans_4 : decode cX11_readPans 4 = .ok (.invokevirtual 108, 3) := by decide +kernel
theorem dX11_readPans_7 : decode cX11_readPans 7 = .ok (.iconst 0, 1) := by decide +kernel
theorem dX11_readPans_8 : decode cX11_readPans 8 = .ok (.istore_n 1, 1) := by decide +kernel
theorem dX11_readPans_9 : decode cX11_readPans 9 = .ok (.iload_n 1, 1) := by decide +kernel
theorem dX11_readPans_10 : decode cX11_readPans 10 = .ok (.aload_n 0, 1) := by decide +kernel
theorem dX11_readPans_11 : decode cX11_readPans 11 = .ok (.getfield 10, 3) := by decide +kernel
theorem dX11_readPans_14 : decode cX11_readPans 14 = .ok (.invokevirtual 110, 3) := by decide +kernel
theorem dX11_readPans_17 : decode cX11_readPans 17 = .ok (.if_icmp .ge 64, 3) := by decide +kernel
theorem dX11_readPans_20 : decode cX11_readPans 20 = .ok (.aload_n 0, 1) := by decide +kernel
theorem dX11_readPans_21 : decode cX11_readPans 21 = .ok (.getfield 10, 3) := by decide +kernel
theorem dX11_readPans_24 : decode cX11_readPans 24 = .ok (.iload_n 1, 1) := by decide +kernel
theorem dX11_readPans_25 : decode cX11_readPans 25 = .ok (.invokevirtual 113, 3) := by decide +kernel
theorem dX11_readPans_28 : decode cX11_readPans 28 = .ok (.istore_n 2, 1) := by decide +kernel
theorem dX11_readPans_29 : decode cX11_readPans 29 = .ok (.aload_n 0, 1) := by decide +kernel
theorem dX11_readPans_30 : decode cX11_readPans 30 = .ok (.getfield 19, 3) := by decide +kernel
theorem dX11_readPans_33 : decode cX11_readPans 33 = .ok (.ldc 117, 2) := by decide +kernel
theorem dX11_readPans_35 : decode cX11_readPans 35 = .ok (.aload_n 0, 1) := by decide +kernel
theorem dX11_readPans_36 : decode cX11_readPans 36 = .ok (.getfield 10, 3) := by decide +kernel
theorem dX11_readPans_39 : decode cX11_readPans 39 = .ok (.iload_n 2, 1) := by decide +kernel
theorem dX11_readPans_40 : decode cX11_readPans 40 = .ok (.invokevirtual 119, 3) := by decide +kernel
theorem dX11_readPans_43 : decode cX11_readPans 43 = .ok (.invokevirtual 123, 3) := by decide +kernel
theorem dX11_readPans_46 : decode cX11_readPans 46 = .ok (.aload_n 0, 1) := by decide +kernel
theorem dX11_readPans_47 : decode cX11_readPans 47 = .ok (.getfield 10, 3) := by decide +kernel
theorem dX11_readPans_50 : decode cX11_readPans 50 = .ok (.iload_n 2, 1) := by decide +kernel
theorem dX11_readPans_51 : decode cX11_readPans 51 = .ok (.iconst 1, 1) := by decide +kernel
theorem dX11_readPans_52 : decode cX11_readPans 52 = .ok (.iadd, 1) := by decide +kernel
theorem dX11_readPans_53 : decode cX11_readPans 53 = .ok (.invokevirtual 119, 3) := by decide +kernel
theorem dX11_readPans_56 : decode cX11_readPans 56 = .ok (.invokestatic 128, 3) := by decide +kernel
theorem dX11_readPans_59 : decode cX11_readPans 59 = .ok (.aload_n 0, 1) := by decide +kernel
theorem dX11_readPans_60 : decode cX11_readPans 60 = .ok (.getfield 10, 3) := by decide +kernel
theorem dX11_readPans_63 : decode cX11_readPans 63 = .ok (.iload_n 2, 1) := by decide +kernel
theorem dX11_readPans_64 : decode cX11_readPans 64 = .ok (.iconst 2, 1) := by decide +kernel
theorem dX11_readPans_65 : decode cX11_readPans 65 = .ok (.iadd, 1) := by decide +kernel
theorem dX11_readPans_66 : decode cX11_readPans 66 = .ok (.invokevirtual 119, 3) := by decide +kernel
theorem dX11_readPans_69 : decode cX11_readPans 69 = .ok (.invokestatic 128, 3) := by decide +kernel
theorem dX11_readPans_72 : decode cX11_readPans 72 = .ok (.invokevirtual 132, 3) := by decide +kernel
theorem dX11_readPans_75 : decode cX11_readPans 75 = .ok (.iinc 1 1, 3) := by decide +kernel
theorem dX11_readPans_78 : decode cX11_readPans 78 = .ok (.goto (-69), 3) := by decide +kernel
theorem dX11_readPans_81 : decode cX11_readPans 81 = .ok (.return_, 1) := by decide +kernel
set_option maxRecDepth 20000 in
theorem ggX11_readChildren_X3_children : GoodIn wsX11_readChildren wsX3_children := goodIn_r _ [12, 13, 162, 163, 164, 165, 166] (by decide +kernel) (by decide +kernel)
set_option maxRecDepth 20000 in
theorem gX11_readChildren_X3_children : GoodIn wsX11_readChildren (wsV RX11 135 RX3 yX3_children wsX3_children) := goodIn_app (goodIn_of _ (by decide +kernel)) ggX11_readChildren_X3_children
set_option maxRecDepth 20000 in
theorem ggX11_readChildren_X3_startOfChild : GoodIn wsX11_readChildren wsX3_startOfChild := goodIn_r _ [17, 18, 162, 163, 164, 165, 166] (by decide +kernel) (by decide +kernel)
set_option maxRecDepth 20000 in
theorem gX11_readChildren_X3_startOfChild : GoodIn wsX11_readChildren (wsV RX11 145 RX3 yX3_startOfChild wsX3_startOfChild) := goodIn_app (goodIn_of _ (by decide +kernel)) ggX11_readChildren_X3_startOfChild
set_option maxRecDepth 20000 in
theorem ggX11_readChildren_X3_at : GoodIn wsX11_readChildren wsX3_at := goodIn_r _ [22, 23, 24, 162, 163, 164, 165, 166] (by decide +kernel) (by decide +kernel)
set_option maxRecDepth 20000 in
theorem gX11_readChildren_X3_at : GoodIn wsX11_readChildren (wsV RX11 119 RX3 yX3_at wsX3_at) := goodIn_app (goodIn_of _ (by decide +kernel)) ggX11_readChildren_X3_at
set_option maxRecDepth 20000 in
theorem ggX11_readChildren_J0_indexOf_0f7a4 : GoodIn wsX11_readChildren wsJ0_indexOf_0f7a4 := goodIn_r _ [29, 30, 31, 32, 28, 33, 34, 35, 36, 37, 38, 39, 40, 41, 42, 43, 44, 45, 46, 47, 48, 49, 50, 51, 52, 53, 54, 5, 55, 56, 4, 6, 57, 58, 59, 60, 61, 62, 63, 64, 65, 66, 67, 68, 69, 70, 71, 72, 73, 74, 75, 76, 77, 78, 79, 80, 81, 82, 83, 84, 85, 86, 87, 88, 89, 90, 91, 92, 93, 94, 95, 96, 97, 98, 99, 100, 101, 102, 103, 104, 105, 106, 107, 108, 109, 110] (by decide +kernel) (by decide +kernel)
set_option maxRecDepth 20000 in
theorem gX11_readChildren_J0_indexOf_0f7a4 : GoodIn wsX11_readChildren (wsV RX11 123 RJ0 yJ0_indexOf_0f7a4 wsJ0_indexOf_0f7a4) := goodIn_app (goodIn_of _ (by decide +kernel)) ggX11_readChildren_J0_indexOf_0f7a4
set_option maxRecDepth 20000 in
theorem ggX11_readChildren_X11_newChild : GoodIn wsX11_readChildren wsX11_newChild := goodIn_r _ [114, 115, 116, 117, 118, 119, 120, 121, 122, 123, 124, 125, 126, 127, 128, 129, 130, 131, 132, 133, 134, 135, 136, 137, 138, 139, 140, 141, 142, 143, 144, 145, 167, 168, 169, 170, 171, 172, 173, 174, 175, 176] (by decide +kernel) (by decide +kernel)
set_option maxRecDepth 20000 in
theorem gX11_readChildren_X11_newChild : GoodIn wsX11_readChildren (va_wsS RX11 148 yX11_newChild wsX11_newChild) := goodIn_app (goodIn_of _ (by decide +kernel)) ggX11_readChildren_X11_newChild
theorem dX11_readChildren_0 : decode cX11_readChildren 0 = .ok (.aload_n 0, 1) := by decide +kernel
theorem dX11_readChildren_1 : decode cX11_readChildren 1 = .ok (.aload_n 0, 1) := by decide +kernel
theorem dX11_readChildren_2 : decode cX11_readChildren 2 = .ok (.getfield 10, 3) := by decide +kernel
theorem dX11_readChildren_5 : decode cX11_readChildren 5 = .ok (.invokevirtual 135, 3) := by decide +kernel
theorem dX11_readChildren_8 : decode cX11_readChildren 8 = .ok (.aload_n 0, 1) := by decide +kernel
theorem dX11_readChildren_9 : decode cX11_readChildren 9 = .ok (.getfield 25, 3) := by decide +kernel
theorem dX11_readChildren_12 : decode cX11_readChildren 12 = .ok (.arraylength, 1) := by decide +kernel
theorem dX11_readChildren_13 : decode cX11_readChildren 13 = .ok (.invokestatic 137, 3) := by decide +kernel
theorem dX11_readChildren_16 : decode cX11_readChildren 16 = .ok (.putfield 105, 3) := by decide +kernel
theorem dX11_readChildren_19 : decode cX11_readChildren 19 = .ok (.iconst 0, 1) := by decide +kernel
theorem dX11_readChildren_20 : decode cX11_readChildren 20 = .ok (.istore_n 1, 1) := by decide +kernel
theorem dX11_readChildren_21 : decode cX11_readChildren 21 = .ok (.iload_n 1, 1) := by decide +kernel
theorem dX11_readChildren_22 : decode cX11_readChildren 22 = .ok (.aload_n 0, 1) := by decide +kernel
theorem dX11_readChildren_23 : decode cX11_readChildren 23 = .ok (.getfield 105, 3) := by decide +kernel
theorem dX11_readChildren_26 : decode cX11_readChildren 26 = .ok (.if_icmp .ge 38, 3) := by decide +kernel
theorem dX11_readChildren_29 : decode cX11_readChildren 29 = .ok (.aload_n 0, 1) := by decide +kernel
theorem dX11_readChildren_30 : decode cX11_readChildren 30 = .ok (.getfield 25, 3) := by decide +kernel
theorem dX11_readChildren_33 : decode cX11_readChildren 33 = .ok (.iload_n 1, 1) := by decide +kernel
theorem dX11_readChildren_34 : decode cX11_readChildren 34 = .ok (.ldc 143, 2) := by decide +kernel
theorem dX11_readChildren_36 : decode cX11_readChildren 36 = .ok (.aload_n 0, 1) := by decide +kernel
theorem dX11_readChildren_37 : decode cX11_readChildren 37 = .ok (.getfield 10, 3) := by decide +kernel
theorem dX11_readChildren_40 : decode cX11_readChildren 40 = .ok (.aload_n 0, 1) := by decide +kernel
theorem dX11_readChildren_41 : decode cX11_readChildren 41 = .ok (.getfield 10, 3) := by decide +kernel
theorem dX11_readChildren_44 : decode cX11_readChildren 44 = .ok (.iload_n 1, 1) := by decide +kernel
theorem dX11_readChildren_45 : decode cX11_readChildren 45 = .ok (.invokevirtual 145, 3) := by decide +kernel
theorem dX11_readChildren_48 : decode cX11_readChildren 48 = .ok (.invokevirtual 119, 3) := by decide +kernel
theorem dX11_readChildren_51 : decode cX11_readChildren 51 = .ok (.invokevirtual 123, 3) := by decide +kernel
theorem dX11_readChildren_54 : decode cX11_readChildren 54 = .ok (.invokestatic 148, 3) := by decide +kernel
theorem dX11_readChildren_57 : decode cX11_readChildren 57 = .ok (.aastore, 1) := by decide +kernel
theorem dX11_readChildren_58 : decode cX11_readChildren 58 = .ok (.iinc 1 1, 3) := by decide +kernel
theorem dX11_readChildren_61 : decode cX11_readChildren 61 = .ok (.goto (-40), 3) := by decide +kernel
theorem dX11_readChildren_64 : decode cX11_readChildren 64 = .ok (.return_, 1) := by decide +kernel
theorem dX11_digit_0 : decode cX11_digit 0 = .ok (.iload_n 0, 1) := by decide +kernel
theorem dX11_digit_1 : decode cX11_digit 1 = .ok (.bipush 48, 2) := by decide +kernel
theorem dX11_digit_3 : decode cX11_digit 3 = .ok (.isub, 1) := by decide +kernel
theorem dX11_digit_4 : decode cX11_digit 4 = .ok (.ireturn, 1) := by decide +kernel
set_option maxRecDepth 20000 in
theorem ggX11_newChild_X1_init : GoodIn wsX11_newChild wsX1_init := goodIn_r _ [17, 18, 15, 19, 20, 21, 22, 23, 24, 25, 40, 41, 32, 33, 38, 39, 34, 35, 36, 37] (by decide +kernel) (by decide +kernel)
set_option maxRecDepth 20000 in
theorem gX11_newChild_X1_init_n154 : GoodIn wsX11_newChild (wsX1_init) := ggX11_newChild_X1_init
set_option maxRecDepth 20000 in
theorem ggX11_newChild_X6_init : GoodIn wsX11_newChild wsX6_init := goodIn_r _ [27, 18, 15, 19, 20, 21, 22, 23, 24, 25, 40, 41, 32, 33, 38, 39, 34, 35, 36, 37] (by decide +kernel) (by decide +kernel)
set_option maxRecDepth 20000 in
theorem gX11_newChild_X6_init_n157 : GoodIn wsX11_newChild (wsX6_init) := ggX11_newChild_X6_init
set_option maxRecDepth 20000 in
theorem ggX11_newChild_X10_init : GoodIn wsX11_newChild wsX10_init := goodIn_r _ [29, 18, 15, 19, 20, 21, 22, 23, 24, 25, 40, 41, 32, 33, 38, 39, 34, 35, 36, 37] (by decide +kernel) (by decide +kernel)
set_option maxRecDepth 20000 in
theorem gX11_newChild_X10_init_n160 : GoodIn wsX11_newChild (wsX10_init) := ggX11_newChild_X10_init
set_option maxRecDepth 20000 in
theorem ggX11_newChild_X2_init : GoodIn wsX11_newChild wsX2_init := goodIn_r _ [31, 28, 9, 29, 18, 15, 19, 20, 21, 22, 23, 24, 25, 40, 41, 32, 33, 38, 39, 34, 35, 36, 37] (by decide +kernel) (by decide +kernel)
set_option maxRecDepth 20000 in
theorem gX11_newChild_X2_init_n163 : GoodIn wsX11_newChild (wsX2_init) := ggX11_newChild_X2_init
set_option maxRecDepth 20000 in
theorem ggX11_newChild_X0_init : GoodIn wsX11_newChild wsX0_init := goodIn_r _ [19, 20, 21, 22, 23, 24, 25, 40, 41, 32, 33, 38, 39, 34, 35, 36, 37] (by decide +kernel) (by decide +kernel)
set_option maxRecDepth 20000 in
theorem gX11_newChild_X0_init_n164 : GoodIn wsX11_newChild (wsX0_init) := ggX11_newChild_X0_init
theorem dX11_newChild_0 : decode cX11_newChild 0 = .ok (.iload_n 0, 1) := by decide +kernel
theorem dX11_newChild_1 : decode cX11_newChild 1 = .ok (.tableswitch 63 1 4 #[31, 39, 47, 55], 31) := by decide +kernel
theorem dX11_newChild_32 : decode cX11_newChild 32 = .ok (.new 152, 3) := by decide +kernel
theorem dX11_newChild_35 : decode cX11_newChild 35 = .ok (.dup, 1) := by decide +kernel
theorem dX11_newChild_36 : decode cX11_newChild 36 = .ok (.invokespecial 154, 3) := by decide +kernel
theorem dX11_newChild_39 : decode cX11_newChild 39 = .ok (.areturn, 1) := by decide +kernel
theorem dX11_newChild_40 : decode cX11_newChild 40 = .ok (.new 155, 3) := by decide +kernel
theorem dX11_newChild_43 : decode cX11_newChild 43 = .ok (.dup, 1) := by decide +kernel
theorem dX11_newChild_44 : decode cX11_newChild 44 = .ok (.invokespecial 157, 3) := by decide +kernel
theorem dX11_newChild_47 : decode cX11_newChild 47 = .ok (.areturn, 1) := by decide +kernel
theorem dX11_newChild_48 : decode cX11_newChild 48 = .ok (.new 158, 3) := by decide +kernel
theorem dX11_newChild_51 : decode cX11_newChild 51 = .ok (.dup, 1) := by decide +kernel
theorem dX11_newChild_52 : decode cX11_newChild 52 = .ok (.invokespecial 160, 3) := by decide +kernel
theorem dX11_newChild_55 : decode cX11_newChild 55 = .ok (.areturn, 1) := by decide +kernel
theorem dX11_newChild_56 : decode cX11_newChild 56 = .ok (.new 161, 3) := by decide +kernel
theorem dX11_newChild_59 : decode cX11_newChild 59 = .ok (.dup, 1) := by decide +kernel
theorem dX11_newChild_60 : decode cX11_newChild 60 = .ok (.invokespecial 163, 3) := by decide +kernel
theorem dX11_newChild_63 : decode cX11_newChild 63 = .ok (.areturn, 1) := by decide +kernel
theorem dX11_newChild_64 : decode cX11_newChild 64 = .ok (.new 23, 3) := by decide +kernel
theorem dX11_newChild_67 : decode cX11_newChild 67 = .ok (.dup, 1) := by decide +kernel
theorem dX11_newChild_68 : decode cX11_newChild 68 = .ok (.invokespecial 164, 3) := by decide +kernel
theorem dX11_newChild_71 : decode cX11_newChild 71 = .ok (.areturn, 1) := by decide +kernel
theorem dX11_hasDairy_0 : decode cX11_hasDairy 0 = .ok (.aload_n 0, 1) := by decide +kernel
theorem dX11_hasDairy_1 : decode cX11_hasDairy 1 = .ok (.getfield 102, 3) := by decide +kernel
theorem dX11_hasDairy_4 : decode cX11_hasDairy 4 = .ok (.ifCond .le 7, 3) := by decide +kernel
theorem dX11_hasDairy_7 : decode cX11_hasDairy 7 = .ok (.iconst 1, 1) := by decide +kernel
theorem dX11_hasDairy_8 : decode cX11_hasDairy 8 = .ok (.goto 4, 3) := by decide +kernel
theorem dX11_hasDairy_11 : decode cX11_hasDairy 11 = .ok (.iconst 0, 1) := by decide +kernel
theorem dX11_hasDairy_12 : decode cX11_hasDairy 12 = .ok (.ireturn, 1) := by decide +kernel
theorem dX11_isWithin_0 : decode cX11_isWithin 0 = .ok (.iload_n 0, 1) := by decide +kernel
theorem dX11_isWithin_1 : decode cX11_isWithin 1 = .ok (.iload_n 1, 1) := by decide +kernel
theorem dX11_isWithin_2 : decode cX11_isWithin 2 = .ok (.if_icmp .lt 12, 3) := by decide +kernel
theorem dX11_isWithin_5 : decode cX11_isWithin 5 = .ok (.iload_n 0, 1) := by decide +kernel
theorem dX11_isWithin_6 : decode cX11_isWithin 6 = .ok (.iload_n 2, 1) := by decide +kernel
theorem dX11_isWithin_7 : decode cX11_isWithin 7 = .ok (.if_icmp .gt 7, 3) := by decide +kernel
theorem dX11_isWithin_10 : decode cX11_isWithin 10 = .ok (.iconst 1, 1) := by decide +kernel
theorem dX11_isWithin_11 : decode cX11_isWithin 11 = .ok (.goto 4, 3) := by decide +kernel
theorem dX11_isWithin_14 : decode cX11_isWithin 14 = .ok (.iconst 0, 1) := by decide +kernel
theorem dX11_isWithin_15 : decode cX11_isWithin 15 = .ok (.ireturn, 1) := by decide +kernel
set_option maxRecDepth 20000 in
theorem ggX11_pan_X7_at : GoodIn wsX11_pan wsX7_at := goodIn_r _ [7, 8, 9, 90, 91] (by decide +kernel) (by decide +kernel)
set_option maxRecDepth 20000 in
theorem gX11_pan_X7_at : GoodIn wsX11_pan (wsV RX11 165 RX7 yX7_at wsX7_at) := goodIn_app (goodIn_of _ (by decide +kernel)) ggX11_pan_X7_at
set_option maxRecDepth 20000 in
theorem ggX11_pan_X4_much : GoodIn wsX11_pan wsX4_much := goodIn_r _ [14, 15, 16, 17, 18, 84, 85, 86, 87, 88, 89] (by decide +kernel) (by decide +kernel)
set_option maxRecDepth 20000 in
theorem gX11_pan_X4_much : GoodIn wsX11_pan (wsV RX11 168 RX4 yX4_much wsX4_much) := goodIn_app (goodIn_of _ (by decide +kernel)) ggX11_pan_X4_much
set_option maxRecDepth 20000 in
theorem ggX11_pan_X4_top : GoodIn wsX11_pan wsX4_top := goodIn_r _ [22, 17, 16, 18, 84, 85, 86, 87, 88, 89] (by decide +kernel) (by decide +kernel)
set_option maxRecDepth 20000 in
theorem gX11_pan_X4_top : GoodIn wsX11_pan (wsV RX11 177 RX4 yX4_top wsX4_top) := goodIn_app (goodIn_of _ (by decide +kernel)) ggX11_pan_X4_top
set_option maxRecDepth 20000 in
theorem ggX11_pan_X8_fats : GoodIn wsX11_pan wsX8_fats := goodIn_r _ [27, 28, 29, 30, 26, 31, 32, 33, 34, 35, 36, 37, 38, 13, 39, 16, 17, 40, 41, 42, 43, 44, 45, 46, 47, 48, 92, 93, 94, 95, 84, 85, 86, 87, 88, 89] (by decide +kernel) (by decide +kernel)
set_option maxRecDepth 20000 in
theorem gX11_pan_X8_fats : GoodIn wsX11_pan (wsV RX11 180 RX8 yX8_fats wsX8_fats) := goodIn_app (goodIn_of _ (by decide +kernel)) ggX11_pan_X8_fats
set_option maxRecDepth 20000 in
theorem ggX11_pan_X4_risePerHour : GoodIn wsX11_pan wsX4_risePerHour := goodIn_r _ [47, 48, 84, 85, 86, 87, 88, 89] (by decide +kernel) (by decide +kernel)
set_option maxRecDepth 20000 in
theorem gX11_pan_X4_risePerHour : GoodIn wsX11_pan (wsV RX11 184 RX4 yX4_risePerHour wsX4_risePerHour) := goodIn_app (goodIn_of _ (by decide +kernel)) ggX11_pan_X4_risePerHour
set_option maxRecDepth 20000 in
theorem ggX11_pan_X11_look : GoodIn wsX11_pan wsX11_look := goodIn_r _ [53, 54, 55, 52, 56, 57, 41, 42, 43, 58, 59, 60, 61, 62, 63, 64, 65, 66, 67] (by decide +kernel) (by decide +kernel)
set_option maxRecDepth 20000 in
theorem gX11_pan_X11_look : GoodIn wsX11_pan (va_wsS RX11 187 yX11_look wsX11_look) := goodIn_app (goodIn_of _ (by decide +kernel)) ggX11_pan_X11_look
theorem dX11_pan_0 : decode cX11_pan 0 = .ok (.aload_n 0, 1) := by decide +kernel
theorem dX11_pan_1 : decode cX11_pan 1 = .ok (.getfield 19, 3) := by decide +kernel
theorem dX11_pan_4 : decode cX11_pan 4 = .ok (.iload_n 1, 1) := by decide +kernel
theorem dX11_pan_5 : decode cX11_pan 5 = .ok (.invokevirtual 165, 3) := by decide +kernel
theorem dX11_pan_8 : decode cX11_pan 8 = .ok (.astore_n 3, 1) := by decide +kernel
theorem dX11_pan_9 : decode cX11_pan 9 = .ok (.aload_n 3, 1) := by decide +kernel
theorem dX11_pan_10 : decode cX11_pan 10 = .ok (.ifnonnull 6, 3) := by decide +kernel
theorem dX11_pan_13 : decode cX11_pan 13 = .ok (.bipush (-101), 2) := by decide +kernel
theorem dX11_pan_15 : decode cX11_pan 15 = .ok (.ireturn, 1) := by decide +kernel
theorem dX11_pan_16 : decode cX11_pan 16 = .ok (.iload_n 2, 1) := by decide +kernel
theorem dX11_pan_17 : decode cX11_pan 17 = .ok (.tableswitch 99 0 8 #[51, 51, 51, 51, 57, 62, 67, 72, 82], 51) := by decide +kernel
theorem dX11_pan_68 : decode cX11_pan 68 = .ok (.aload_n 3, 1) := by decide +kernel
theorem dX11_pan_69 : decode cX11_pan 69 = .ok (.iload_n 2, 1) := by decide +kernel
theorem dX11_pan_70 : decode cX11_pan 70 = .ok (.invokevirtual 168, 3) := by decide +kernel
theorem dX11_pan_73 : decode cX11_pan 73 = .ok (.ireturn, 1) := by decide +kernel
theorem dX11_pan_74 : decode cX11_pan 74 = .ok (.aload_n 3, 1) := by decide +kernel
theorem dX11_pan_75 : decode cX11_pan 75 = .ok (.getfield 171, 3) := by decide +kernel
theorem dX11_pan_78 : decode cX11_pan 78 = .ok (.ireturn, 1) := by decide +kernel
theorem dX11_pan_79 : decode cX11_pan 79 = .ok (.aload_n 3, 1) := by decide +kernel
theorem dX11_pan_80 : decode cX11_pan 80 = .ok (.getfield 174, 3) := by decide +kernel
theorem dX11_pan_83 : decode cX11_pan 83 = .ok (.ireturn, 1) := by decide +kernel
theorem dX11_pan_84 : decode cX11_pan 84 = .ok (.aload_n 3, 1) := by decide +kernel
theorem dX11_pan_85 : decode cX11_pan 85 = .ok (.invokevirtual 177, 3) := by decide +kernel
theorem dX11_pan_88 : decode cX11_pan 88 = .ok (.ireturn, 1) := by decide +kernel
theorem dX11_pan_89 : decode cX11_pan 89 = .ok (.aload_n 0, 1) := by decide +kernel
theorem dX11_pan_90 : decode cX11_pan 90 = .ok (.getfield 32, 3) := by decide +kernel
theorem dX11_pan_93 : decode cX11_pan 93 = .ok (.iload_n 1, 1) := by decide +kernel
theorem dX11_pan_94 : decode cX11_pan 94 = .ok (.aload_n 3, 1) := by decide +kernel
theorem dX11_pan_95 : decode cX11_pan 95 = .ok (.invokevirtual 180, 3) := by decide +kernel
theorem dX11_pan_98 : decode cX11_pan 98 = .ok (.ireturn, 1) := by decide +kernel
theorem dX11_pan_99 : decode cX11_pan 99 = .ok (.aload_n 0, 1) := by decide +kernel
theorem dX11_pan_100 : decode cX11_pan 100 = .ok (.getfield 32, 3) := by decide +kernel
theorem dX11_pan_103 : decode cX11_pan 103 = .ok (.iload_n 1, 1) := by decide +kernel
theorem dX11_pan_104 : decode cX11_pan 104 = .ok (.aload_n 3, 1) := by decide +kernel
theorem dX11_pan_105 : decode cX11_pan 105 = .ok (.invokevirtual 180, 3) := by decide +kernel
theorem dX11_pan_108 : decode cX11_pan 108 = .ok (.aload_n 3, 1) := by decide +kernel
theorem dX11_pan_109 : decode cX11_pan 109 = .ok (.invokevirtual 184, 3) := by decide +kernel
theorem dX11_pan_112 : decode cX11_pan 112 = .ok (.invokestatic 187, 3) := by decide +kernel
theorem dX11_pan_115 : decode cX11_pan 115 = .ok (.ireturn, 1) := by decide +kernel
theorem dX11_pan_116 : decode cX11_pan 116 = .ok (.bipush (-102), 2) := by decide +kernel
theorem dX11_pan_118 : decode cX11_pan 118 = .ok (.ireturn, 1) := by decide +kernel
set_option maxRecDepth 20000 in
theorem ggX11_look_X11_leftAtWorst : GoodIn wsX11_look wsX11_leftAtWorst := goodIn_r _ [4, 5, 6, 7, 8, 9, 10, 11, 12, 13, 14, 15, 16, 17, 18] (by decide +kernel) (by decide +kernel)
set_option maxRecDepth 20000 in
theorem gX11_look_X11_leftAtWorst : GoodIn wsX11_look (va_wsS RX11 190 yX11_leftAtWorst wsX11_leftAtWorst) := goodIn_app (goodIn_of _ (by decide +kernel)) ggX11_look_X11_leftAtWorst
theorem dX11_look_0 : decode cX11_look 0 = .ok (.iload_n 0, 1) := by decide +kernel
theorem dX11_look_1 : decode cX11_look 1 = .ok (.ifCond .ne 5, 3) := by decide +kernel
theorem dX11_look_4 : decode cX11_look 4 = .ok (.iconst (-1), 1) := by decide +kernel
theorem dX11_look_5 : decode cX11_look 5 = .ok (.ireturn, 1) := by decide +kernel
theorem dX11_look_6 : decode cX11_look 6 = .ok (.iconst (-1), 1) := by decide +kernel
theorem dX11_look_7 : decode cX11_look 7 = .ok (.istore_n 2, 1) := by decide +kernel
theorem dX11_look_8 : decode cX11_look 8 = .ok (.bipush 17, 2) := by decide +kernel
theorem dX11_look_10 : decode cX11_look 10 = .ok (.istore_n 3, 1) := by decide +kernel
theorem dX11_look_11 : decode cX11_look 11 = .ok (.iconst 1, 1) := by decide +kernel
theorem dX11_look_12 : decode cX11_look 12 = .ok (.istore 4, 2) := by decide +kernel
theorem dX11_look_14 : decode cX11_look 14 = .ok (.iload 4, 2) := by decide +kernel
theorem dX11_look_16 : decode cX11_look 16 = .ok (.bipush 12, 2) := by decide +kernel
theorem dX11_look_18 : decode cX11_look 18 = .ok (.if_icmp .gt 31, 3) := by decide +kernel
theorem dX11_look_21 : decode cX11_look 21 = .ok (.iload_n 0, 1) := by decide +kernel
theorem dX11_look_22 : decode cX11_look 22 = .ok (.iload 4, 2) := by decide +kernel
theorem dX11_look_24 : decode cX11_look 24 = .ok (.iload_n 1, 1) := by decide +kernel
theorem dX11_look_25 : decode cX11_look 25 = .ok (.imul, 1) := by decide +kernel
theorem dX11_look_26 : decode cX11_look 26 = .ok (.invokestatic 190, 3) := by decide +kernel
theorem dX11_look_29 : decode cX11_look 29 = .ok (.istore 5, 2) := by decide +kernel
theorem dX11_look_31 : decode cX11_look 31 = .ok (.iload 5, 2) := by decide +kernel
theorem dX11_look_33 : decode cX11_look 33 = .ok (.iload_n 3, 1) := by decide +kernel
theorem dX11_look_34 : decode cX11_look 34 = .ok (.if_icmp .ge 9, 3) := by decide +kernel
theorem dX11_look_37 : decode cX11_look 37 = .ok (.iload 5, 2) := by decide +kernel
theorem dX11_look_39 : decode cX11_look 39 = .ok (.istore_n 3, 1) := by decide +kernel
theorem dX11_look_40 : decode cX11_look 40 = .ok (.iload 4, 2) := by decide +kernel
theorem dX11_look_42 : decode cX11_look 42 = .ok (.istore_n 2, 1) := by decide +kernel
theorem dX11_look_43 : decode cX11_look 43 = .ok (.iinc 4 1, 3) := by decide +kernel
theorem dX11_look_46 : decode cX11_look 46 = .ok (.goto (-32), 3) := by decide +kernel
theorem dX11_look_49 : decode cX11_look 49 = .ok (.iload_n 2, 1) := by decide +kernel
theorem dX11_look_50 : decode cX11_look 50 = .ok (.ireturn, 1) := by decide +kernel
set_option maxRecDepth 20000 in
theorem ggX11_leftAtWorst_J6_bitCount_0f7a4 : GoodIn wsX11_leftAtWorst wsJ6_bitCount_0f7a4 := goodIn_r _ [11, 12, 13, 14] (by decide +kernel) (by decide +kernel)
set_option maxRecDepth 20000 in
theorem gX11_leftAtWorst_J6_bitCount_0f7a4 : GoodIn wsX11_leftAtWorst (va_wsS RX11 193 yJ6_bitCount_0f7a4 wsJ6_bitCount_0f7a4) := goodIn_app (goodIn_of _ (by decide +kernel)) ggX11_leftAtWorst_J6_bitCount_0f7a4
theorem dX11_leftAtWorst_0 : decode cX11_leftAtWorst 0 = .ok (.iload_n 0, 1) := by decide +kernel
theorem dX11_leftAtWorst_1 : decode cX11_leftAtWorst 1 = .ok (.iload_n 1, 1) := by decide +kernel
theorem dX11_leftAtWorst_2 : decode cX11_leftAtWorst 2 = .ok (.bipush 16, 2) := by decide +kernel
theorem dX11_leftAtWorst_4 : decode cX11_leftAtWorst 4 = .ok (.invokestatic 137, 3) := by decide +kernel
theorem dX11_leftAtWorst_7 : decode cX11_leftAtWorst 7 = .ok (.ishr, 1) := by decide +kernel
theorem dX11_leftAtWorst_8 : decode cX11_leftAtWorst 8 = .ok (.invokestatic 193, 3) := by decide +kernel
theorem dX11_leftAtWorst_11 : decode cX11_leftAtWorst 11 = .ok (.istore_n 2, 1) := by decide +kernel
theorem dX11_leftAtWorst_12 : decode cX11_leftAtWorst 12 = .ok (.iconst 1, 1) := by decide +kernel
theorem dX11_leftAtWorst_13 : decode cX11_leftAtWorst 13 = .ok (.iload_n 2, 1) := by decide +kernel
theorem dX11_leftAtWorst_14 : decode cX11_leftAtWorst 14 = .ok (.invokestatic 198, 3) := by decide +kernel
theorem dX11_leftAtWorst_17 : decode cX11_leftAtWorst 17 = .ok (.ireturn, 1) := by decide +kernel
set_option maxRecDepth 20000 in
theorem ggX11_childAt_X11_isWithin : GoodIn wsX11_childAt wsX11_isWithin := goodIn_r _ [6] (by decide +kernel) (by decide +kernel)
set_option maxRecDepth 20000 in
theorem gX11_childAt_X11_isWithin : GoodIn wsX11_childAt (va_wsS RX11 201 yX11_isWithin wsX11_isWithin) := goodIn_app (goodIn_of _ (by decide +kernel)) ggX11_childAt_X11_isWithin
theorem dX11_childAt_0 : decode cX11_childAt 0 = .ok (.iload_n 1, 1) := by decide +kernel
theorem dX11_childAt_1 : decode cX11_childAt 1 = .ok (.iconst 0, 1) := by decide +kernel
theorem dX11_childAt_2 : decode cX11_childAt 2 = .ok (.aload_n 0, 1) := by decide +kernel
theorem dX11_childAt_3 : decode cX11_childAt 3 = .ok (.getfield 105, 3) := by decide +kernel
theorem dX11_childAt_6 : decode cX11_childAt 6 = .ok (.iconst 1, 1) := by decide +kernel
theorem dX11_childAt_7 : decode cX11_childAt 7 = .ok (.isub, 1) := by decide +kernel
theorem dX11_childAt_8 : decode cX11_childAt 8 = .ok (.invokestatic 201, 3) := by decide +kernel
theorem dX11_childAt_11 : decode cX11_childAt 11 = .ok (.ifCond .eq 21, 3) := by decide +kernel
theorem dX11_childAt_14 : decode cX11_childAt 14 = .ok (.iload_n 1, 1) := by decide +kernel
theorem dX11_childAt_15 : decode cX11_childAt 15 = .ok (.aload_n 0, 1) := by decide +kernel
theorem dX11_childAt_16 : decode cX11_childAt 16 = .ok (.getfield 25, 3) := by decide +kernel
theorem dX11_childAt_19 : decode cX11_childAt 19 = .ok (.arraylength, 1) := by decide +kernel
theorem dX11_childAt_20 : decode cX11_childAt 20 = .ok (.if_icmp .ge 12, 3) := by decide +kernel
theorem dX11_childAt_23 : decode cX11_childAt 23 = .ok (.aload_n 0, 1) := by decide +kernel
theorem dX11_childAt_24 : decode cX11_childAt 24 = .ok (.getfield 25, 3) := by decide +kernel
theorem dX11_childAt_27 : decode cX11_childAt 27 = .ok (.iload_n 1, 1) := by decide +kernel
theorem dX11_childAt_28 : decode cX11_childAt 28 = .ok (.aaload, 1) := by decide +kernel
theorem dX11_childAt_29 : decode cX11_childAt 29 = .ok (.goto 4, 3) := by decide +kernel
theorem dX11_childAt_32 : decode cX11_childAt 32 = .ok (.aconst_null, 1) := by decide +kernel
theorem dX11_childAt_33 : decode cX11_childAt 33 = .ok (.areturn, 1) := by decide +kernel
set_option maxRecDepth 20000 in
theorem ggX11_child_X11_childAt : GoodIn wsX11_child wsX11_childAt := goodIn_r _ [5, 6, 7, 8, 9, 4, 10, 125, 126, 127, 128, 129, 130, 131, 132, 133, 134, 135, 136, 137, 138, 139, 140] (by decide +kernel) (by decide +kernel)
set_option maxRecDepth 20000 in
theorem gX11_child_X11_childAt : GoodIn wsX11_child (wsV RX11 205 RX11 yX11_childAt wsX11_childAt) := goodIn_app (goodIn_of _ (by decide +kernel)) ggX11_child_X11_childAt
set_option maxRecDepth 20000 in
theorem ggX11_child_X0_kind : GoodIn wsX11_child wsX0_kind := goodIn_r _ [15] (by decide +kernel) (by decide +kernel)
set_option maxRecDepth 20000 in
theorem gX11_child_X0_kind : GoodIn wsX11_child (wsV RX11 208 RX0 yX0_kind wsX0_kind) := goodIn_app (goodIn_of _ (by decide +kernel)) ggX11_child_X0_kind
set_option maxRecDepth 20000 in
theorem ggX11_child_X1_kind : GoodIn wsX11_child wsX1_kind := goodIn_r _ [22] (by decide +kernel) (by decide +kernel)
set_option maxRecDepth 20000 in
theorem gX11_child_X1_kind_u208X1 : GoodIn wsX11_child (va_wsO RX11 208 RX1 "SkimmedSons$Child" ⟨"SkimmedSons$Child", "kind", "()I"⟩ yX1_kind wsX1_kind) := goodIn_app (goodIn_of _ (by decide +kernel)) ggX11_child_X1_kind
set_option maxRecDepth 20000 in
theorem ggX11_child_X2_kind : GoodIn wsX11_child wsX2_kind := goodIn_r _ [26] (by decide +kernel) (by decide +kernel)
set_option maxRecDepth 20000 in
theorem gX11_child_X2_kind_u208X2 : GoodIn wsX11_child (va_wsO RX11 208 RX2 "SkimmedSons$Child" ⟨"SkimmedSons$Child", "kind", "()I"⟩ yX2_kind wsX2_kind) := goodIn_app (goodIn_of _ (by decide +kernel)) ggX11_child_X2_kind
set_option maxRecDepth 20000 in
theorem ggX11_child_X6_kind : GoodIn wsX11_child wsX6_kind := goodIn_r _ [30] (by decide +kernel) (by decide +kernel)
set_option maxRecDepth 20000 in
theorem gX11_child_X6_kind_u208X6 : GoodIn wsX11_child (va_wsO RX11 208 RX6 "SkimmedSons$Child" ⟨"SkimmedSons$Child", "kind", "()I"⟩ yX6_kind wsX6_kind) := goodIn_app (goodIn_of _ (by decide +kernel)) ggX11_child_X6_kind
set_option maxRecDepth 20000 in
theorem ggX11_child_X10_kind : GoodIn wsX11_child wsX10_kind := goodIn_r _ [34] (by decide +kernel) (by decide +kernel)
set_option maxRecDepth 20000 in
theorem gX11_child_X10_kind_u208X10 : GoodIn wsX11_child (va_wsO RX11 208 RX10 "SkimmedSons$Child" ⟨"SkimmedSons$Child", "kind", "()I"⟩ yX10_kind wsX10_kind) := goodIn_app (goodIn_of _ (by decide +kernel)) ggX11_child_X10_kind
set_option maxRecDepth 20000 in
theorem ggX11_child_X0_hadOf : GoodIn wsX11_child wsX0_hadOf := goodIn_r _ [38, 39, 141, 142, 143, 144, 145, 146, 147, 148, 149, 150] (by decide +kernel) (by decide +kernel)
set_option maxRecDepth 20000 in
theorem gX11_child_X0_hadOf : GoodIn wsX11_child (wsV RX11 211 RX0 yX0_hadOf wsX0_hadOf) := goodIn_app (goodIn_of _ (by decide +kernel)) ggX11_child_X0_hadOf
set_option maxRecDepth 20000 in
theorem gX11_child_X0_hadOf_u211X1 : GoodIn wsX11_child (va_wsU RX11 211 RX1 "SkimmedSons$Child" ⟨"SkimmedSons$Child", "hadOf", "(I)I"⟩ yX0_hadOf wsX0_hadOf) := goodIn_app (goodIn_of _ (by decide +kernel)) ggX11_child_X0_hadOf
set_option maxRecDepth 20000 in
theorem gX11_child_X0_hadOf_u211X2 : GoodIn wsX11_child (va_wsU RX11 211 RX2 "SkimmedSons$Child" ⟨"SkimmedSons$Child", "hadOf", "(I)I"⟩ yX0_hadOf wsX0_hadOf) := goodIn_app (goodIn_of _ (by decide +kernel)) ggX11_child_X0_hadOf
set_option maxRecDepth 20000 in
theorem gX11_child_X0_hadOf_u211X6 : GoodIn wsX11_child (va_wsU RX11 211 RX6 "SkimmedSons$Child" ⟨"SkimmedSons$Child", "hadOf", "(I)I"⟩ yX0_hadOf wsX0_hadOf) := goodIn_app (goodIn_of _ (by decide +kernel)) ggX11_child_X0_hadOf
set_option maxRecDepth 20000 in
theorem gX11_child_X0_hadOf_u211X10 : GoodIn wsX11_child (va_wsU RX11 211 RX10 "SkimmedSons$Child" ⟨"SkimmedSons$Child", "hadOf", "(I)I"⟩ yX0_hadOf wsX0_hadOf) := goodIn_app (goodIn_of _ (by decide +kernel)) ggX11_child_X0_hadOf
set_option maxRecDepth 20000 in
theorem ggX11_child_X0_worth : GoodIn wsX11_child wsX0_worth := goodIn_r _ [49, 39, 50, 51, 52, 14, 53, 54, 55, 56, 57, 58, 21, 59, 60, 61, 62, 63, 25, 64, 65, 66, 29, 67, 68, 69, 70, 71, 72, 73, 74, 75, 76, 77, 78, 79, 80, 81, 82, 83, 84, 85, 33, 86, 87, 88, 89, 90, 91, 92, 93, 94, 95, 96, 97, 98, 99, 100, 101, 102, 103, 104, 105, 106, 107, 108, 141, 142, 143, 144, 145, 146, 147, 148, 149, 150] (by decide +kernel) (by decide +kernel)
set_option maxRecDepth 20000 in
theorem gX11_child_X0_worth : GoodIn wsX11_child (wsV RX11 214 RX0 yX0_worth wsX0_worth) := goodIn_app (goodIn_of _ (by decide +kernel)) ggX11_child_X0_worth
set_option maxRecDepth 20000 in
theorem gX11_child_X0_worth_u214X1 : GoodIn wsX11_child (va_wsU RX11 214 RX1 "SkimmedSons$Child" ⟨"SkimmedSons$Child", "worth", "()I"⟩ yX0_worth wsX0_worth) := goodIn_app (goodIn_of _ (by decide +kernel)) ggX11_child_X0_worth
set_option maxRecDepth 20000 in
theorem gX11_child_X0_worth_u214X2 : GoodIn wsX11_child (va_wsU RX11 214 RX2 "SkimmedSons$Child" ⟨"SkimmedSons$Child", "worth", "()I"⟩ yX0_worth wsX0_worth) := goodIn_app (goodIn_of _ (by decide +kernel)) ggX11_child_X0_worth
set_option maxRecDepth 20000 in
theorem gX11_child_X0_worth_u214X6 : GoodIn wsX11_child (va_wsU RX11 214 RX6 "SkimmedSons$Child" ⟨"SkimmedSons$Child", "worth", "()I"⟩ yX0_worth wsX0_worth) := goodIn_app (goodIn_of _ (by decide +kernel)) ggX11_child_X0_worth
set_option maxRecDepth 20000 in
theorem gX11_child_X0_worth_u214X10 : GoodIn wsX11_child (va_wsU RX11 214 RX10 "SkimmedSons$Child" ⟨"SkimmedSons$Child", "worth", "()I"⟩ yX0_worth wsX0_worth) := goodIn_app (goodIn_of _ (by decide +kernel)) ggX11_child_X0_worth
set_option maxRecDepth 20000 in
theorem ggX11_child_X0_worthOf : GoodIn wsX11_child wsX0_worthOf := goodIn_r _ [118, 50, 51, 52, 14, 53, 54, 55, 56, 57, 58, 21, 59, 60, 61, 62, 63, 25, 64, 65, 66, 29, 67, 68, 69, 70, 71, 72, 73, 74, 75, 76, 77, 78, 79, 80, 81, 82, 83, 84, 85, 33, 86, 87, 88, 89, 90, 91, 92, 93, 94, 95, 96, 97, 98, 99, 100, 101, 102, 103, 104, 105, 106, 107, 108] (by decide +kernel) (by decide +kernel)
set_option maxRecDepth 20000 in
theorem gX11_child_X0_worthOf : GoodIn wsX11_child (wsV RX11 217 RX0 yX0_worthOf wsX0_worthOf) := goodIn_app (goodIn_of _ (by decide +kernel)) ggX11_child_X0_worthOf
set_option maxRecDepth 20000 in
theorem gX11_child_X0_worthOf_u217X1 : GoodIn wsX11_child (va_wsU RX11 217 RX1 "SkimmedSons$Child" ⟨"SkimmedSons$Child", "worthOf", "(I)I"⟩ yX0_worthOf wsX0_worthOf) := goodIn_app (goodIn_of _ (by decide +kernel)) ggX11_child_X0_worthOf
set_option maxRecDepth 20000 in
theorem gX11_child_X0_worthOf_u217X2 : GoodIn wsX11_child (va_wsU RX11 217 RX2 "SkimmedSons$Child" ⟨"SkimmedSons$Child", "worthOf", "(I)I"⟩ yX0_worthOf wsX0_worthOf) := goodIn_app (goodIn_of _ (by decide +kernel)) ggX11_child_X0_worthOf
set_option maxRecDepth 20000 in
theorem gX11_child_X0_worthOf_u217X6 : GoodIn wsX11_child (va_wsU RX11 217 RX6 "SkimmedSons$Child" ⟨"SkimmedSons$Child", "worthOf", "(I)I"⟩ yX0_worthOf wsX0_worthOf) := goodIn_app (goodIn_of _ (by decide +kernel)) ggX11_child_X0_worthOf
set_option maxRecDepth 20000 in
theorem gX11_child_X0_worthOf_u217X10 : GoodIn wsX11_child (va_wsU RX11 217 RX10 "SkimmedSons$Child" ⟨"SkimmedSons$Child", "worthOf", "(I)I"⟩ yX0_worthOf wsX0_worthOf) := goodIn_app (goodIn_of _ (by decide +kernel)) ggX11_child_X0_worthOf
theorem dX11_child_0 : decode cX11_child 0 = .ok (.aload_n 0, 1) := by decide +kernel
theorem dX11_child_1 : decode cX11_child 1 = .ok (.iload_n 1, 1) := by decide +kernel
theorem dX11_child_2 : decode cX11_child 2 = .ok (.invokevirtual 205, 3) := by decide +kernel
theorem dX11_child_5 : decode cX11_child 5 = .ok (.astore_n 3, 1) := by decide +kernel
theorem dX11_child_6 : decode cX11_child 6 = .ok (.aload_n 3, 1) := by decide +kernel
theorem dX11_child_7 : decode cX11_child 7 = .ok (.ifnonnull 6, 3) := by decide +kernel
theorem dX11_child_10 : decode cX11_child 10 = .ok (.bipush (-101), 2) := by decide +kernel
theorem dX11_child_12 : decode cX11_child 12 = .ok (.ireturn, 1) := by decide +kernel
theorem dX11_child_13 : decode cX11_child 13 = .ok (.iload_n 2, 1) := by decide +kernel
theorem dX11_child_14 : decode cX11_child 14 = .ok (.tableswitch 95 0 13 #[70, 75, 75, 75, 81, 95, 95, 95, 95, 95, 95, 86, 86, 86], 70) := by decide +kernel
theorem dX11_child_84 : decode cX11_child 84 = .ok (.aload_n 3, 1) := by decide +kernel
theorem dX11_child_85 : decode cX11_child 85 = .ok (.invokevirtual 208, 3) := by decide +kernel
theorem dX11_child_88 : decode cX11_child 88 = .ok (.ireturn, 1) := by decide +kernel
theorem dX11_child_89 : decode cX11_child 89 = .ok (.aload_n 3, 1) := by decide +kernel
theorem dX11_child_90 : decode cX11_child 90 = .ok (.iload_n 2, 1) := by decide +kernel
theorem dX11_child_91 : decode cX11_child 91 = .ok (.invokevirtual 211, 3) := by decide +kernel
theorem dX11_child_94 : decode cX11_child 94 = .ok (.ireturn, 1) := by decide +kernel
theorem dX11_child_95 : decode cX11_child 95 = .ok (.aload_n 3, 1) := by decide +kernel
theorem dX11_child_96 : decode cX11_child 96 = .ok (.invokevirtual 214, 3) := by decide +kernel
theorem dX11_child_99 : decode cX11_child 99 = .ok (.ireturn, 1) := by decide +kernel
theorem dX11_child_100 : decode cX11_child 100 = .ok (.aload_n 3, 1) := by decide +kernel
theorem dX11_child_101 : decode cX11_child 101 = .ok (.iload_n 2, 1) := by decide +kernel
theorem dX11_child_102 : decode cX11_child 102 = .ok (.bipush 10, 2) := by decide +kernel
theorem dX11_child_104 : decode cX11_child 104 = .ok (.isub, 1) := by decide +kernel
theorem dX11_child_105 : decode cX11_child 105 = .ok (.invokevirtual 217, 3) := by decide +kernel
theorem dX11_child_108 : decode cX11_child 108 = .ok (.ireturn, 1) := by decide +kernel
theorem dX11_child_109 : decode cX11_child 109 = .ok (.bipush (-102), 2) := by decide +kernel
theorem dX11_child_111 : decode cX11_child 111 = .ok (.ireturn, 1) := by decide +kernel
set_option maxRecDepth 20000 in
theorem ggX11_as_X11_childAt : GoodIn wsX11_as wsX11_childAt := goodIn_r _ [5, 6, 7, 8, 9, 4, 10, 18, 19, 20, 21, 22, 23, 24, 25, 26, 27, 28, 29, 30, 31, 32, 33] (by decide +kernel) (by decide +kernel)
set_option maxRecDepth 20000 in
theorem gX11_as_X11_childAt : GoodIn wsX11_as (wsV RX11 205 RX11 yX11_childAt wsX11_childAt) := goodIn_app (goodIn_of _ (by decide +kernel)) ggX11_as_X11_childAt
set_option maxRecDepth 20000 in
theorem ggX11_as_X11_isWithin : GoodIn wsX11_as wsX11_isWithin := goodIn_r _ [10] (by decide +kernel) (by decide +kernel)
set_option maxRecDepth 20000 in
theorem gX11_as_X11_isWithin : GoodIn wsX11_as (va_wsS RX11 201 yX11_isWithin wsX11_isWithin) := goodIn_app (goodIn_of _ (by decide +kernel)) ggX11_as_X11_isWithin
set_option maxRecDepth 20000 in
theorem ggX11_as_X11_isOfKind : GoodIn wsX11_as wsX11_isOfKind := goodIn_r _ [13, 14, 15, 16, 17] (by decide +kernel) (by decide +kernel)
set_option maxRecDepth 20000 in
theorem gX11_as_X11_isOfKind : GoodIn wsX11_as (va_wsS RX11 220 yX11_isOfKind wsX11_isOfKind) := goodIn_app (goodIn_of _ (by decide +kernel)) ggX11_as_X11_isOfKind
theorem dX11_as_0 : decode cX11_as 0 = .ok (.aload_n 0, 1) := by decide +kernel
theorem dX11_as_1 : decode cX11_as 1 = .ok (.iload_n 1, 1) := by decide +kernel
theorem dX11_as_2 : decode cX11_as 2 = .ok (.invokevirtual 205, 3) := by decide +kernel
theorem dX11_as_5 : decode cX11_as 5 = .ok (.astore_n 3, 1) := by decide +kernel
theorem dX11_as_6 : decode cX11_as 6 = .ok (.aload_n 3, 1) := by decide +kernel
theorem dX11_as_7 : decode cX11_as 7 = .ok (.ifnonnull 6, 3) := by decide +kernel
