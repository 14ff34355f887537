theorem dX12_hour_27 : decode cX12_hour 27 = .ok (.aload_n 0, 1) := by decide +kernel
theorem dX12_hour_28 : decode cX12_hour 28 = .ok (.dup, 1) := by decide +kernel
theorem dX12_hour_29 : decode cX12_hour 29 = .ok (.getfield 125, 3) := by decide +kernel
theorem dX12_hour_32 : decode cX12_hour 32 = .ok (.iconst 1, 1) := by decide +kernel
theorem dX12_hour_33 : decode cX12_hour 33 = .ok (.iadd, 1) := by decide +kernel
theorem dX12_hour_34 : decode cX12_hour 34 = .ok (.putfield 125, 3) := by decide +kernel
theorem dX12_hour_37 : decode cX12_hour 37 = .ok (.aload_n 0, 1) := by decide +kernel
theorem dX12_hour_38 : decode cX12_hour 38 = .ok (.getfield 125, 3) := by decide +kernel
theorem dX12_hour_41 : decode cX12_hour 41 = .ok (.ireturn, 1) := by decide +kernel
theorem dX12_take_0 : decode cX12_take 0 = .ok (.aload_n 0, 1) := by decide +kernel
theorem dX12_take_1 : decode cX12_take 1 = .ok (.getfield 19, 3) := by decide +kernel
theorem dX12_take_4 : decode cX12_take 4 = .ok (.iload_n 1, 1) := by decide +kernel
theorem dX12_take_5 : decode cX12_take 5 = .ok (.dup2, 1) := by decide +kernel
theorem dX12_take_6 : decode cX12_take 6 = .ok (.iaload, 1) := by decide +kernel
theorem dX12_take_7 : decode cX12_take 7 = .ok (.iload_n 2, 1) := by decide +kernel
theorem dX12_take_8 : decode cX12_take 8 = .ok (.iconst 2, 1) := by decide +kernel
theorem dX12_take_9 : decode cX12_take 9 = .ok (.if_icmp .ne 7, 3) := by decide +kernel
theorem dX12_take_12 : decode cX12_take 12 = .ok (.iconst 1, 1) := by decide +kernel
theorem dX12_take_13 : decode cX12_take 13 = .ok (.goto 4, 3) := by decide +kernel
theorem dX12_take_16 : decode cX12_take 16 = .ok (.iconst 0, 1) := by decide +kernel
theorem dX12_take_17 : decode cX12_take 17 = .ok (.isub, 1) := by decide +kernel
theorem dX12_take_18 : decode cX12_take 18 = .ok (.iastore, 1) := by decide +kernel
theorem dX12_take_19 : decode cX12_take 19 = .ok (.aload_n 0, 1) := by decide +kernel
theorem dX12_take_20 : decode cX12_take 20 = .ok (.getfield 16, 3) := by decide +kernel
theorem dX12_take_23 : decode cX12_take 23 = .ok (.iload_n 1, 1) := by decide +kernel
theorem dX12_take_24 : decode cX12_take 24 = .ok (.dup2, 1) := by decide +kernel
theorem dX12_take_25 : decode cX12_take 25 = .ok (.iaload, 1) := by decide +kernel
theorem dX12_take_26 : decode cX12_take 26 = .ok (.iload_n 2, 1) := by decide +kernel
theorem dX12_take_27 : decode cX12_take 27 = .ok (.iconst 1, 1) := by decide +kernel
theorem dX12_take_28 : decode cX12_take 28 = .ok (.if_icmp .ne 7, 3) := by decide +kernel
theorem dX12_take_31 : decode cX12_take 31 = .ok (.iconst 1, 1) := by decide +kernel
theorem dX12_take_32 : decode cX12_take 32 = .ok (.goto 4, 3) := by decide +kernel
theorem dX12_take_35 : decode cX12_take 35 = .ok (.iconst 0, 1) := by decide +kernel
theorem dX12_take_36 : decode cX12_take 36 = .ok (.isub, 1) := by decide +kernel
theorem dX12_take_37 : decode cX12_take 37 = .ok (.iastore, 1) := by decide +kernel
theorem dX12_take_38 : decode cX12_take 38 = .ok (.aload_n 0, 1) := by decide +kernel
theorem dX12_take_39 : decode cX12_take 39 = .ok (.getfield 22, 3) := by decide +kernel
theorem dX12_take_42 : decode cX12_take 42 = .ok (.iload_n 1, 1) := by decide +kernel
theorem dX12_take_43 : decode cX12_take 43 = .ok (.dup2, 1) := by decide +kernel
theorem dX12_take_44 : decode cX12_take 44 = .ok (.iaload, 1) := by decide +kernel
theorem dX12_take_45 : decode cX12_take 45 = .ok (.iload_n 2, 1) := by decide +kernel
theorem dX12_take_46 : decode cX12_take 46 = .ok (.iconst 3, 1) := by decide +kernel
theorem dX12_take_47 : decode cX12_take 47 = .ok (.if_icmp .ne 7, 3) := by decide +kernel
theorem dX12_take_50 : decode cX12_take 50 = .ok (.iconst 1, 1) := by decide +kernel
theorem dX12_take_51 : decode cX12_take 51 = .ok (.goto 4, 3) := by decide +kernel
theorem dX12_take_54 : decode cX12_take 54 = .ok (.iconst 0, 1) := by decide +kernel
theorem dX12_take_55 : decode cX12_take 55 = .ok (.isub, 1) := by decide +kernel
theorem dX12_take_56 : decode cX12_take 56 = .ok (.iastore, 1) := by decide +kernel
theorem dX12_take_57 : decode cX12_take 57 = .ok (.aload_n 0, 1) := by decide +kernel
theorem dX12_take_58 : decode cX12_take 58 = .ok (.getfield 25, 3) := by decide +kernel
theorem dX12_take_61 : decode cX12_take 61 = .ok (.iload_n 1, 1) := by decide +kernel
theorem dX12_take_62 : decode cX12_take 62 = .ok (.iconst 0, 1) := by decide +kernel
theorem dX12_take_63 : decode cX12_take 63 = .ok (.iastore, 1) := by decide +kernel
theorem dX12_take_64 : decode cX12_take 64 = .ok (.return_, 1) := by decide +kernel
set_option maxRecDepth 20000 in
theorem ggX12_skim_X12_isChild : GoodIn wsX12_skim wsX12_isChild := goodIn_r _ [6, 7, 8, 9, 5, 10, 28, 29, 30, 31, 32, 33, 34, 35, 36, 37, 38, 39, 40, 41, 42, 43, 44, 45, 46, 47, 48, 49, 50, 51, 52, 53, 54, 55, 56, 57, 58, 59, 60, 61, 62, 63, 64, 65] (by decide +kernel) (by decide +kernel)
set_option maxRecDepth 20000 in
theorem gX12_skim_X12_isChild : GoodIn wsX12_skim (wsV RX12 156 RX12 yX12_isChild wsX12_isChild) := goodIn_app (goodIn_of _ (by decide +kernel)) ggX12_skim_X12_isChild
set_option maxRecDepth 20000 in
theorem ggX12_skim_X12_isPan : GoodIn wsX12_skim wsX12_isPan := goodIn_r _ [14, 15, 8, 9, 5, 10, 28, 29, 30, 31, 32, 33, 34, 35, 36, 37, 38, 39, 40, 41, 42, 43, 44, 45, 46, 47, 48, 49, 50, 51, 52, 53, 54, 55, 56, 57, 58, 59, 60, 61, 62, 63, 64, 65] (by decide +kernel) (by decide +kernel)
set_option maxRecDepth 20000 in
theorem gX12_skim_X12_isPan : GoodIn wsX12_skim (wsV RX12 147 RX12 yX12_isPan wsX12_isPan) := goodIn_app (goodIn_of _ (by decide +kernel)) ggX12_skim_X12_isPan
set_option maxRecDepth 20000 in
theorem ggX12_skim_X12_topOf : GoodIn wsX12_skim wsX12_topOf := goodIn_r _ [19, 20, 21, 22, 28, 29, 30, 31, 32, 33, 34, 35, 36, 37, 38, 39, 40, 41, 42, 43, 44, 45, 46, 47, 48, 49, 50, 51, 52, 53, 54, 55, 56, 57, 58, 59, 60, 61, 62, 63, 64, 65] (by decide +kernel) (by decide +kernel)
set_option maxRecDepth 20000 in
theorem gX12_skim_X12_topOf : GoodIn wsX12_skim (wsV RX12 138 RX12 yX12_topOf wsX12_topOf) := goodIn_app (goodIn_of _ (by decide +kernel)) ggX12_skim_X12_topOf
set_option maxRecDepth 20000 in
theorem ggX12_skim_X12_take : GoodIn wsX12_skim wsX12_take := goodIn_r _ [26, 20, 21, 22, 27, 28, 29, 30, 31, 32, 33, 34, 35, 36, 37, 38, 39, 40, 41, 42, 43, 44, 45, 46, 47, 48, 49, 50, 51, 52, 53, 54, 55, 56, 57, 58, 59, 60, 61, 62, 63, 64, 65] (by decide +kernel) (by decide +kernel)
set_option maxRecDepth 20000 in
theorem gX12_skim_X12_take : GoodIn wsX12_skim (wsV RX12 172 RX12 yX12_take wsX12_take) := goodIn_app (goodIn_of _ (by decide +kernel)) ggX12_skim_X12_take
theorem dX12_skim_0 : decode cX12_skim 0 = .ok (.aload_n 0, 1) := by decide +kernel
theorem dX12_skim_1 : decode cX12_skim 1 = .ok (.iload_n 1, 1) := by decide +kernel
theorem dX12_skim_2 : decode cX12_skim 2 = .ok (.invokevirtual 156, 3) := by decide +kernel
theorem dX12_skim_5 : decode cX12_skim 5 = .ok (.ifCond .eq 11, 3) := by decide +kernel
theorem dX12_skim_8 : decode cX12_skim 8 = .ok (.aload_n 0, 1) := by decide +kernel
theorem dX12_skim_9 : decode cX12_skim 9 = .ok (.iload_n 2, 1) := by decide +kernel
theorem dX12_skim_10 : decode cX12_skim 10 = .ok (.invokevirtual 147, 3) := by decide +kernel
theorem dX12_skim_13 : decode cX12_skim 13 = .ok (.ifCond .ne 6, 3) := by decide +kernel
theorem dX12_skim_16 : decode cX12_skim 16 = .ok (.bipush (-101), 2) := by decide +kernel
theorem dX12_skim_18 : decode cX12_skim 18 = .ok (.ireturn, 1) := by decide +kernel
theorem dX12_skim_19 : decode cX12_skim 19 = .ok (.aload_n 0, 1) := by decide +kernel
theorem dX12_skim_20 : decode cX12_skim 20 = .ok (.iload_n 2, 1) := by decide +kernel
theorem dX12_skim_21 : decode cX12_skim 21 = .ok (.invokevirtual 138, 3) := by decide +kernel
theorem dX12_skim_24 : decode cX12_skim 24 = .ok (.istore_n 3, 1) := by decide +kernel
theorem dX12_skim_25 : decode cX12_skim 25 = .ok (.iload_n 3, 1) := by decide +kernel
theorem dX12_skim_26 : decode cX12_skim 26 = .ok (.iconst (-1), 1) := by decide +kernel
theorem dX12_skim_27 : decode cX12_skim 27 = .ok (.if_icmp .ne 6, 3) := by decide +kernel
theorem dX12_skim_30 : decode cX12_skim 30 = .ok (.bipush (-103), 2) := by decide +kernel
theorem dX12_skim_32 : decode cX12_skim 32 = .ok (.ireturn, 1) := by decide +kernel
theorem dX12_skim_33 : decode cX12_skim 33 = .ok (.aload_n 0, 1) := by decide +kernel
theorem dX12_skim_34 : decode cX12_skim 34 = .ok (.getfield 31, 3) := by decide +kernel
theorem dX12_skim_37 : decode cX12_skim 37 = .ok (.iconst 4, 1) := by decide +kernel
theorem dX12_skim_38 : decode cX12_skim 38 = .ok (.iload_n 1, 1) := by decide +kernel
theorem dX12_skim_39 : decode cX12_skim 39 = .ok (.imul, 1) := by decide +kernel
theorem dX12_skim_40 : decode cX12_skim 40 = .ok (.iload_n 3, 1) := by decide +kernel
theorem dX12_skim_41 : decode cX12_skim 41 = .ok (.iadd, 1) := by decide +kernel
theorem dX12_skim_42 : decode cX12_skim 42 = .ok (.iaload, 1) := by decide +kernel
theorem dX12_skim_43 : decode cX12_skim 43 = .ok (.bipush 99, 2) := by decide +kernel
theorem dX12_skim_45 : decode cX12_skim 45 = .ok (.if_icmp .ne 6, 3) := by decide +kernel
theorem dX12_skim_48 : decode cX12_skim 48 = .ok (.bipush (-104), 2) := by decide +kernel
theorem dX12_skim_50 : decode cX12_skim 50 = .ok (.ireturn, 1) := by decide +kernel
theorem dX12_skim_51 : decode cX12_skim 51 = .ok (.aload_n 0, 1) := by decide +kernel
theorem dX12_skim_52 : decode cX12_skim 52 = .ok (.iload_n 2, 1) := by decide +kernel
theorem dX12_skim_53 : decode cX12_skim 53 = .ok (.iload_n 3, 1) := by decide +kernel
theorem dX12_skim_54 : decode cX12_skim 54 = .ok (.invokevirtual 172, 3) := by decide +kernel
theorem dX12_skim_57 : decode cX12_skim 57 = .ok (.aload_n 0, 1) := by decide +kernel
theorem dX12_skim_58 : decode cX12_skim 58 = .ok (.getfield 31, 3) := by decide +kernel
theorem dX12_skim_61 : decode cX12_skim 61 = .ok (.iconst 4, 1) := by decide +kernel
theorem dX12_skim_62 : decode cX12_skim 62 = .ok (.iload_n 1, 1) := by decide +kernel
theorem dX12_skim_63 : decode cX12_skim 63 = .ok (.imul, 1) := by decide +kernel
theorem dX12_skim_64 : decode cX12_skim 64 = .ok (.iload_n 3, 1) := by decide +kernel
theorem dX12_skim_65 : decode cX12_skim 65 = .ok (.iadd, 1) := by decide +kernel
theorem dX12_skim_66 : decode cX12_skim 66 = .ok (.dup2, 1) := by decide +kernel
theorem dX12_skim_67 : decode cX12_skim 67 = .ok (.iaload, 1) := by decide +kernel
theorem dX12_skim_68 : decode cX12_skim 68 = .ok (.iconst 1, 1) := by decide +kernel
theorem dX12_skim_69 : decode cX12_skim 69 = .ok (.iadd, 1) := by decide +kernel
theorem dX12_skim_70 : decode cX12_skim 70 = .ok (.iastore, 1) := by decide +kernel
theorem dX12_skim_71 : decode cX12_skim 71 = .ok (.iload_n 3, 1) := by decide +kernel
theorem dX12_skim_72 : decode cX12_skim 72 = .ok (.ireturn, 1) := by decide +kernel
set_option maxRecDepth 20000 in
theorem ggX12_stir_X12_isPan : GoodIn wsX12_stir wsX12_isPan := goodIn_r _ [9, 10, 11, 12, 8, 13, 14, 15, 16, 17, 18, 19, 20, 21, 22, 23, 24, 25, 26, 27, 28, 29, 30, 31, 32, 33, 34, 35, 36, 37, 38, 39, 40, 41, 42, 43, 44, 45, 46, 47, 48, 49, 50, 51] (by decide +kernel) (by decide +kernel)
set_option maxRecDepth 20000 in
theorem gX12_stir_X12_isPan : GoodIn wsX12_stir (wsV RX12 147 RX12 yX12_isPan wsX12_isPan) := goodIn_app (goodIn_of _ (by decide +kernel)) ggX12_stir_X12_isPan
theorem dX12_stir_0 : decode cX12_stir 0 = .ok (.aload_n 0, 1) := by decide +kernel
theorem dX12_stir_1 : decode cX12_stir 1 = .ok (.iload_n 1, 1) := by decide +kernel
theorem dX12_stir_2 : decode cX12_stir 2 = .ok (.invokevirtual 147, 3) := by decide +kernel
theorem dX12_stir_5 : decode cX12_stir 5 = .ok (.ifCond .ne 6, 3) := by decide +kernel
theorem dX12_stir_8 : decode cX12_stir 8 = .ok (.bipush (-101), 2) := by decide +kernel
theorem dX12_stir_10 : decode cX12_stir 10 = .ok (.ireturn, 1) := by decide +kernel
theorem dX12_stir_11 : decode cX12_stir 11 = .ok (.aload_n 0, 1) := by decide +kernel
theorem dX12_stir_12 : decode cX12_stir 12 = .ok (.getfield 13, 3) := by decide +kernel
theorem dX12_stir_15 : decode cX12_stir 15 = .ok (.iload_n 1, 1) := by decide +kernel
theorem dX12_stir_16 : decode cX12_stir 16 = .ok (.dup2, 1) := by decide +kernel
theorem dX12_stir_17 : decode cX12_stir 17 = .ok (.iaload, 1) := by decide +kernel
theorem dX12_stir_18 : decode cX12_stir 18 = .ok (.aload_n 0, 1) := by decide +kernel
theorem dX12_stir_19 : decode cX12_stir 19 = .ok (.getfield 16, 3) := by decide +kernel
theorem dX12_stir_22 : decode cX12_stir 22 = .ok (.iload_n 1, 1) := by decide +kernel
theorem dX12_stir_23 : decode cX12_stir 23 = .ok (.iaload, 1) := by decide +kernel
theorem dX12_stir_24 : decode cX12_stir 24 = .ok (.aload_n 0, 1) := by decide +kernel
theorem dX12_stir_25 : decode cX12_stir 25 = .ok (.getfield 19, 3) := by decide +kernel
theorem dX12_stir_28 : decode cX12_stir 28 = .ok (.iload_n 1, 1) := by decide +kernel
theorem dX12_stir_29 : decode cX12_stir 29 = .ok (.iaload, 1) := by decide +kernel
theorem dX12_stir_30 : decode cX12_stir 30 = .ok (.iadd, 1) := by decide +kernel
theorem dX12_stir_31 : decode cX12_stir 31 = .ok (.iadd, 1) := by decide +kernel
theorem dX12_stir_32 : decode cX12_stir 32 = .ok (.iastore, 1) := by decide +kernel
theorem dX12_stir_33 : decode cX12_stir 33 = .ok (.aload_n 0, 1) := by decide +kernel
theorem dX12_stir_34 : decode cX12_stir 34 = .ok (.getfield 16, 3) := by decide +kernel
theorem dX12_stir_37 : decode cX12_stir 37 = .ok (.iload_n 1, 1) := by decide +kernel
theorem dX12_stir_38 : decode cX12_stir 38 = .ok (.iconst 0, 1) := by decide +kernel
theorem dX12_stir_39 : decode cX12_stir 39 = .ok (.iastore, 1) := by decide +kernel
theorem dX12_stir_40 : decode cX12_stir 40 = .ok (.aload_n 0, 1) := by decide +kernel
theorem dX12_stir_41 : decode cX12_stir 41 = .ok (.getfield 19, 3) := by decide +kernel
theorem dX12_stir_44 : decode cX12_stir 44 = .ok (.iload_n 1, 1) := by decide +kernel
theorem dX12_stir_45 : decode cX12_stir 45 = .ok (.iconst 0, 1) := by decide +kernel
theorem dX12_stir_46 : decode cX12_stir 46 = .ok (.iastore, 1) := by decide +kernel
theorem dX12_stir_47 : decode cX12_stir 47 = .ok (.aload_n 0, 1) := by decide +kernel
theorem dX12_stir_48 : decode cX12_stir 48 = .ok (.getfield 25, 3) := by decide +kernel
theorem dX12_stir_51 : decode cX12_stir 51 = .ok (.iload_n 1, 1) := by decide +kernel
theorem dX12_stir_52 : decode cX12_stir 52 = .ok (.iconst 0, 1) := by decide +kernel
theorem dX12_stir_53 : decode cX12_stir 53 = .ok (.iastore, 1) := by decide +kernel
theorem dX12_stir_54 : decode cX12_stir 54 = .ok (.aload_n 0, 1) := by decide +kernel
theorem dX12_stir_55 : decode cX12_stir 55 = .ok (.getfield 13, 3) := by decide +kernel
theorem dX12_stir_58 : decode cX12_stir 58 = .ok (.iload_n 1, 1) := by decide +kernel
theorem dX12_stir_59 : decode cX12_stir 59 = .ok (.iaload, 1) := by decide +kernel
theorem dX12_stir_60 : decode cX12_stir 60 = .ok (.ireturn, 1) := by decide +kernel
set_option maxRecDepth 20000 in
theorem ggX12_pour_X12_isPan : GoodIn wsX12_pour wsX12_isPan := goodIn_r _ [10, 11, 12, 13, 9, 14, 15, 16, 17, 18, 19, 20, 21, 22, 23, 24, 25, 26, 27, 28, 29, 30, 31, 32, 33, 34, 35, 36, 37, 38, 39, 40, 41, 42, 43, 44, 45, 46, 47, 48, 49, 50, 51, 52] (by decide +kernel) (by decide +kernel)
set_option maxRecDepth 20000 in
theorem gX12_pour_X12_isPan : GoodIn wsX12_pour (wsV RX12 147 RX12 yX12_isPan wsX12_isPan) := goodIn_app (goodIn_of _ (by decide +kernel)) ggX12_pour_X12_isPan
set_option maxRecDepth 20000 in
theorem ggX12_pour_X12_within : GoodIn wsX12_pour wsX12_within := goodIn_r _ [14] (by decide +kernel) (by decide +kernel)
set_option maxRecDepth 20000 in
theorem gX12_pour_X12_within : GoodIn wsX12_pour (va_wsS RX12 77 yX12_within wsX12_within) := goodIn_app (goodIn_of _ (by decide +kernel)) ggX12_pour_X12_within
theorem dX12_pour_0 : decode cX12_pour 0 = .ok (.aload_n 0, 1) := by decide +kernel
theorem dX12_pour_1 : decode cX12_pour 1 = .ok (.iload_n 1, 1) := by decide +kernel
theorem dX12_pour_2 : decode cX12_pour 2 = .ok (.invokevirtual 147, 3) := by decide +kernel
theorem dX12_pour_5 : decode cX12_pour 5 = .ok (.ifCond .ne 6, 3) := by decide +kernel
theorem dX12_pour_8 : decode cX12_pour 8 = .ok (.bipush (-101), 2) := by decide +kernel
theorem dX12_pour_10 : decode cX12_pour 10 = .ok (.ireturn, 1) := by decide +kernel
theorem dX12_pour_11 : decode cX12_pour 11 = .ok (.iload_n 2, 1) := by decide +kernel
theorem dX12_pour_12 : decode cX12_pour 12 = .ok (.iconst 0, 1) := by decide +kernel
theorem dX12_pour_13 : decode cX12_pour 13 = .ok (.bipush 9, 2) := by decide +kernel
theorem dX12_pour_15 : decode cX12_pour 15 = .ok (.invokestatic 77, 3) := by decide +kernel
theorem dX12_pour_18 : decode cX12_pour 18 = .ok (.ifCond .eq 13, 3) := by decide +kernel
theorem dX12_pour_21 : decode cX12_pour 21 = .ok (.iload_n 3, 1) := by decide +kernel
theorem dX12_pour_22 : decode cX12_pour 22 = .ok (.iconst 0, 1) := by decide +kernel
theorem dX12_pour_23 : decode cX12_pour 23 = .ok (.bipush 9, 2) := by decide +kernel
theorem dX12_pour_25 : decode cX12_pour 25 = .ok (.invokestatic 77, 3) := by decide +kernel
theorem dX12_pour_28 : decode cX12_pour 28 = .ok (.ifCond .ne 6, 3) := by decide +kernel
theorem dX12_pour_31 : decode cX12_pour 31 = .ok (.bipush (-102), 2) := by decide +kernel
theorem dX12_pour_33 : decode cX12_pour 33 = .ok (.ireturn, 1) := by decide +kernel
theorem dX12_pour_34 : decode cX12_pour 34 = .ok (.aload_n 0, 1) := by decide +kernel
theorem dX12_pour_35 : decode cX12_pour 35 = .ok (.getfield 13, 3) := by decide +kernel
theorem dX12_pour_38 : decode cX12_pour 38 = .ok (.iload_n 1, 1) := by decide +kernel
theorem dX12_pour_39 : decode cX12_pour 39 = .ok (.iaload, 1) := by decide +kernel
theorem dX12_pour_40 : decode cX12_pour 40 = .ok (.aload_n 0, 1) := by decide +kernel
theorem dX12_pour_41 : decode cX12_pour 41 = .ok (.getfield 16, 3) := by decide +kernel
theorem dX12_pour_44 : decode cX12_pour 44 = .ok (.iload_n 1, 1) := by decide +kernel
theorem dX12_pour_45 : decode cX12_pour 45 = .ok (.iaload, 1) := by decide +kernel
theorem dX12_pour_46 : decode cX12_pour 46 = .ok (.iadd, 1) := by decide +kernel
theorem dX12_pour_47 : decode cX12_pour 47 = .ok (.aload_n 0, 1) := by decide +kernel
theorem dX12_pour_48 : decode cX12_pour 48 = .ok (.getfield 19, 3) := by decide +kernel
theorem dX12_pour_51 : decode cX12_pour 51 = .ok (.iload_n 1, 1) := by decide +kernel
theorem dX12_pour_52 : decode cX12_pour 52 = .ok (.iaload, 1) := by decide +kernel
theorem dX12_pour_53 : decode cX12_pour 53 = .ok (.iadd, 1) := by decide +kernel
theorem dX12_pour_54 : decode cX12_pour 54 = .ok (.aload_n 0, 1) := by decide +kernel
theorem dX12_pour_55 : decode cX12_pour 55 = .ok (.getfield 22, 3) := by decide +kernel
theorem dX12_pour_58 : decode cX12_pour 58 = .ok (.iload_n 1, 1) := by decide +kernel
theorem dX12_pour_59 : decode cX12_pour 59 = .ok (.iaload, 1) := by decide +kernel
theorem dX12_pour_60 : decode cX12_pour 60 = .ok (.iadd, 1) := by decide +kernel
theorem dX12_pour_61 : decode cX12_pour 61 = .ok (.iload_n 2, 1) := by decide +kernel
theorem dX12_pour_62 : decode cX12_pour 62 = .ok (.iadd, 1) := by decide +kernel
theorem dX12_pour_63 : decode cX12_pour 63 = .ok (.iload_n 3, 1) := by decide +kernel
theorem dX12_pour_64 : decode cX12_pour 64 = .ok (.iadd, 1) := by decide +kernel
theorem dX12_pour_65 : decode cX12_pour 65 = .ok (.istore 4, 2) := by decide +kernel
theorem dX12_pour_67 : decode cX12_pour 67 = .ok (.iload 4, 2) := by decide +kernel
theorem dX12_pour_69 : decode cX12_pour 69 = .ok (.bipush 20, 2) := by decide +kernel
theorem dX12_pour_71 : decode cX12_pour 71 = .ok (.if_icmp .le 6, 3) := by decide +kernel
theorem dX12_pour_74 : decode cX12_pour 74 = .ok (.bipush (-104), 2) := by decide +kernel
theorem dX12_pour_76 : decode cX12_pour 76 = .ok (.ireturn, 1) := by decide +kernel
theorem dX12_pour_77 : decode cX12_pour 77 = .ok (.aload_n 0, 1) := by decide +kernel
theorem dX12_pour_78 : decode cX12_pour 78 = .ok (.getfield 13, 3) := by decide +kernel
theorem dX12_pour_81 : decode cX12_pour 81 = .ok (.iload_n 1, 1) := by decide +kernel
theorem dX12_pour_82 : decode cX12_pour 82 = .ok (.dup2, 1) := by decide +kernel
theorem dX12_pour_83 : decode cX12_pour 83 = .ok (.iaload, 1) := by decide +kernel
theorem dX12_pour_84 : decode cX12_pour 84 = .ok (.iload_n 2, 1) := by decide +kernel
theorem dX12_pour_85 : decode cX12_pour 85 = .ok (.iadd, 1) := by decide +kernel
theorem dX12_pour_86 : decode cX12_pour 86 = .ok (.iastore, 1) := by decide +kernel
theorem dX12_pour_87 : decode cX12_pour 87 = .ok (.aload_n 0, 1) := by decide +kernel
theorem dX12_pour_88 : decode cX12_pour 88 = .ok (.getfield 22, 3) := by decide +kernel
theorem dX12_pour_91 : decode cX12_pour 91 = .ok (.iload_n 1, 1) := by decide +kernel
theorem dX12_pour_92 : decode cX12_pour 92 = .ok (.dup2, 1) := by decide +kernel
theorem dX12_pour_93 : decode cX12_pour 93 = .ok (.iaload, 1) := by decide +kernel
theorem dX12_pour_94 : decode cX12_pour 94 = .ok (.iload_n 3, 1) := by decide +kernel
theorem dX12_pour_95 : decode cX12_pour 95 = .ok (.iadd, 1) := by decide +kernel
theorem dX12_pour_96 : decode cX12_pour 96 = .ok (.iastore, 1) := by decide +kernel
theorem dX12_pour_97 : decode cX12_pour 97 = .ok (.aload_n 0, 1) := by decide +kernel
theorem dX12_pour_98 : decode cX12_pour 98 = .ok (.getfield 25, 3) := by decide +kernel
theorem dX12_pour_101 : decode cX12_pour 101 = .ok (.iload_n 1, 1) := by decide +kernel
theorem dX12_pour_102 : decode cX12_pour 102 = .ok (.iconst 0, 1) := by decide +kernel
theorem dX12_pour_103 : decode cX12_pour 103 = .ok (.iastore, 1) := by decide +kernel
theorem dX12_pour_104 : decode cX12_pour 104 = .ok (.iload 4, 2) := by decide +kernel
theorem dX12_pour_106 : decode cX12_pour 106 = .ok (.ireturn, 1) := by decide +kernel
theorem dX12_save_0 : decode cX12_save 0 = .ok (.iconst 0, 1) := by decide +kernel
theorem dX12_save_1 : decode cX12_save 1 = .ok (.istore_n 2, 1) := by decide +kernel
theorem dX12_save_2 : decode cX12_save 2 = .ok (.iload_n 2, 1) := by decide +kernel
theorem dX12_save_3 : decode cX12_save 3 = .ok (.iconst 3, 1) := by decide +kernel
theorem dX12_save_4 : decode cX12_save 4 = .ok (.if_icmp .ge 86, 3) := by decide +kernel
theorem dX12_save_7 : decode cX12_save 7 = .ok (.bipush 15, 2) := by decide +kernel
theorem dX12_save_9 : decode cX12_save 9 = .ok (.iload_n 1, 1) := by decide +kernel
theorem dX12_save_10 : decode cX12_save 10 = .ok (.imul, 1) := by decide +kernel
theorem dX12_save_11 : decode cX12_save 11 = .ok (.iconst 5, 1) := by decide +kernel
theorem dX12_save_12 : decode cX12_save 12 = .ok (.iload_n 2, 1) := by decide +kernel
theorem dX12_save_13 : decode cX12_save 13 = .ok (.imul, 1) := by decide +kernel
theorem dX12_save_14 : decode cX12_save 14 = .ok (.iadd, 1) := by decide +kernel
theorem dX12_save_15 : decode cX12_save 15 = .ok (.istore_n 3, 1) := by decide +kernel
theorem dX12_save_16 : decode cX12_save 16 = .ok (.aload_n 0, 1) := by decide +kernel
theorem dX12_save_17 : decode cX12_save 17 = .ok (.getfield 47, 3) := by decide +kernel
theorem dX12_save_20 : decode cX12_save 20 = .ok (.iload_n 3, 1) := by decide +kernel
theorem dX12_save_21 : decode cX12_save 21 = .ok (.aload_n 0, 1) := by decide +kernel
theorem dX12_save_22 : decode cX12_save 22 = .ok (.getfield 13, 3) := by decide +kernel
theorem dX12_save_25 : decode cX12_save 25 = .ok (.iload_n 2, 1) := by decide +kernel
theorem dX12_save_26 : decode cX12_save 26 = .ok (.iaload, 1) := by decide +kernel
theorem dX12_save_27 : decode cX12_save 27 = .ok (.iastore, 1) := by decide +kernel
theorem dX12_save_28 : decode cX12_save 28 = .ok (.aload_n 0, 1) := by decide +kernel
theorem dX12_save_29 : decode cX12_save 29 = .ok (.getfield 47, 3) := by decide +kernel
theorem dX12_save_32 : decode cX12_save 32 = .ok (.iload_n 3, 1) := by decide +kernel
theorem dX12_save_33 : decode cX12_save 33 = .ok (.iconst 1, 1) := by decide +kernel
theorem dX12_save_34 : decode cX12_save 34 = .ok (.iadd, 1) := by decide +kernel
theorem dX12_save_35 : decode cX12_save 35 = .ok (.aload_n 0, 1) := by decide +kernel
theorem dX12_save_36 : decode cX12_save 36 = .ok (.getfield 16, 3) := by decide +kernel
theorem dX12_save_39 : decode cX12_save 39 = .ok (.iload_n 2, 1) := by decide +kernel
theorem dX12_save_40 : decode cX12_save 40 = .ok (.iaload, 1) := by decide +kernel
theorem dX12_save_41 : decode cX12_save 41 = .ok (.iastore, 1) := by decide +kernel
theorem dX12_save_42 : decode cX12_save 42 = .ok (.aload_n 0, 1) := by decide +kernel
theorem dX12_save_43 : decode cX12_save 43 = .ok (.getfield 47, 3) := by decide +kernel
theorem dX12_save_46 : decode cX12_save 46 = .ok (.iload_n 3, 1) := by decide +kernel
theorem dX12_save_47 : decode cX12_save 47 = .ok (.iconst 2, 1) := by decide +kernel
theorem dX12_save_48 : decode cX12_save 48 = .ok (.iadd, 1) := by decide +kernel
theorem dX12_save_49 : decode cX12_save 49 = .ok (.aload_n 0, 1) := by decide +kernel
theorem dX12_save_50 : decode cX12_save 50 = .ok (.getfield 19, 3) := by decide +kernel
theorem dX12_save_53 : decode cX12_save 53 = .ok (.iload_n 2, 1) := by decide +kernel
theorem dX12_save_54 : decode cX12_save 54 = .ok (.iaload, 1) := by decide +kernel
theorem dX12_save_55 : decode cX12_save 55 = .ok (.iastore, 1) := by decide +kernel
theorem dX12_save_56 : decode cX12_save 56 = .ok (.aload_n 0, 1) := by decide +kernel
theorem dX12_save_57 : decode cX12_save 57 = .ok (.getfield 47, 3) := by decide +kernel
theorem dX12_save_60 : decode cX12_save 60 = .ok (.iload_n 3, 1) := by decide +kernel
theorem dX12_save_61 : decode cX12_save 61 = .ok (.iconst 3, 1) := by decide +kernel
theorem dX12_save_62 : decode cX12_save 62 = .ok (.iadd, 1) := by decide +kernel
theorem dX12_save_63 : decode cX12_save 63 = .ok (.aload_n 0, 1) := by decide +kernel
theorem dX12_save_64 : decode cX12_save 64 = .ok (.getfield 22, 3) := by decide +kernel
theorem dX12_save_67 : decode cX12_save 67 = .ok (.iload_n 2, 1) := by decide +kernel
theorem dX12_save_68 : decode cX12_save 68 = .ok (.iaload, 1) := by decide +kernel
theorem dX12_save_69 : decode cX12_save 69 = .ok (.iastore, 1) := by decide +kernel
theorem dX12_save_70 : decode cX12_save 70 = .ok (.aload_n 0, 1) := by decide +kernel
theorem dX12_save_71 : decode cX12_save 71 = .ok (.getfield 47, 3) := by decide +kernel
theorem dX12_save_74 : decode cX12_save 74 = .ok (.iload_n 3, 1) := by decide +kernel
theorem dX12_save_75 : decode cX12_save 75 = .ok (.iconst 4, 1) := by decide +kernel
theorem dX12_save_76 : decode cX12_save 76 = .ok (.iadd, 1) := by decide +kernel
theorem dX12_save_77 : decode cX12_save 77 = .ok (.aload_n 0, 1) := by decide +kernel
theorem dX12_save_78 : decode cX12_save 78 = .ok (.getfield 25, 3) := by decide +kernel
theorem dX12_save_81 : decode cX12_save 81 = .ok (.iload_n 2, 1) := by decide +kernel
theorem dX12_save_82 : decode cX12_save 82 = .ok (.iaload, 1) := by decide +kernel
theorem dX12_save_83 : decode cX12_save 83 = .ok (.iastore, 1) := by decide +kernel
theorem dX12_save_84 : decode cX12_save 84 = .ok (.iinc 2 1, 3) := by decide +kernel
theorem dX12_save_87 : decode cX12_save 87 = .ok (.goto (-85), 3) := by decide +kernel
theorem dX12_save_90 : decode cX12_save 90 = .ok (.return_, 1) := by decide +kernel
theorem dX12_load_0 : decode cX12_load 0 = .ok (.iconst 0, 1) := by decide +kernel
theorem dX12_load_1 : decode cX12_load 1 = .ok (.istore_n 2, 1) := by decide +kernel
theorem dX12_load_2 : decode cX12_load 2 = .ok (.iload_n 2, 1) := by decide +kernel
theorem dX12_load_3 : decode cX12_load 3 = .ok (.iconst 3, 1) := by decide +kernel
theorem dX12_load_4 : decode cX12_load 4 = .ok (.if_icmp .ge 86, 3) := by decide +kernel
theorem dX12_load_7 : decode cX12_load 7 = .ok (.bipush 15, 2) := by decide +kernel
theorem dX12_load_9 : decode cX12_load 9 = .ok (.iload_n 1, 1) := by decide +kernel
theorem dX12_load_10 : decode cX12_load 10 = .ok (.imul, 1) := by decide +kernel
theorem dX12_load_11 : decode cX12_load 11 = .ok (.iconst 5, 1) := by decide +kernel
theorem dX12_load_12 : decode cX12_load 12 = .ok (.iload_n 2, 1) := by decide +kernel
theorem dX12_load_13 : decode cX12_load 13 = .ok (.imul, 1) := by decide +kernel
theorem dX12_load_14 : decode cX12_load 14 = .ok (.iadd, 1) := by decide +kernel
theorem dX12_load_15 : decode cX12_load 15 = .ok (.istore_n 3, 1) := by decide +kernel
theorem dX12_load_16 : decode cX12_load 16 = .ok (.aload_n 0, 1) := by decide +kernel
theorem dX12_load_17 : decode cX12_load 17 = .ok (.getfield 13, 3) := by decide +kernel
theorem dX12_load_20 : decode cX12_load 20 = .ok (.iload_n 2, 1) := by decide +kernel
theorem dX12_load_21 : decode cX12_load 21 = .ok (.aload_n 0, 1) := by decide +kernel
theorem dX12_load_22 : decode cX12_load 22 = .ok (.getfield 47, 3) := by decide +kernel
theorem dX12_load_25 : decode cX12_load 25 = .ok (.iload_n 3, 1) := by decide +kernel
theorem dX12_load_26 : decode cX12_load 26 = .ok (.iaload, 1) := by decide +kernel
theorem dX12_load_27 : decode cX12_load 27 = .ok (.iastore, 1) := by decide +kernel
theorem dX12_load_28 : decode cX12_load 28 = .ok (.aload_n 0, 1) := by decide +kernel
theorem dX12_load_29 : decode cX12_load 29 = .ok (.getfield 16, 3) := by decide +kernel
theorem dX12_load_32 : decode cX12_load 32 = .ok (.iload_n 2, 1) := by decide +kernel
theorem dX12_load_33 : decode cX12_load 33 = .ok (.aload_n 0, 1) := by decide +kernel
theorem dX12_load_34 : decode cX12_load 34 = .ok (.getfield 47, 3) := by decide +kernel
theorem dX12_load_37 : decode cX12_load 37 = .ok (.iload_n 3, 1) := by decide +kernel
theorem dX12_load_38 : decode cX12_load 38 = .ok (.iconst 1, 1) := by decide +kernel
theorem dX12_load_39 : decode cX12_load 39 = .ok (.iadd, 1) := by decide +kernel
theorem dX12_load_40 : decode cX12_load 40 = .ok (.iaload, 1) := by decide +kernel
theorem dX12_load_41 : decode cX12_load 41 = .ok (.iastore, 1) := by decide +kernel
theorem dX12_load_42 : decode cX12_load 42 = .ok (.aload_n 0, 1) := by decide +kernel
theorem dX12_load_43 : decode cX12_load 43 = .ok (.getfield 19, 3) := by decide +kernel
theorem dX12_load_46 : decode cX12_load 46 = .ok (.iload_n 2, 1) := by decide +kernel
theorem dX12_load_47 : decode cX12_load 47 = .ok (.aload_n 0, 1) := by decide +kernel
theorem dX12_load_48 : decode cX12_load 48 = .ok (.getfield 47, 3) := by decide +kernel
theorem dX12_load_51 : decode cX12_load 51 = .ok (.iload_n 3, 1) := by decide +kernel
theorem dX12_load_52 : decode cX12_load 52 = .ok (.iconst 2, 1) := by decide +kernel
theorem dX12_load_53 : decode cX12_load 53 = .ok (.iadd, 1) := by decide +kernel
theorem dX12_load_54 : decode cX12_load 54 = .ok (.iaload, 1) := by decide +kernel
theorem dX12_load_55 : decode cX12_load 55 = .ok (.iastore, 1) := by decide +kernel
theorem dX12_load_56 : decode cX12_load 56 = .ok (.aload_n 0, 1) := by decide +kernel
theorem dX12_load_57 : decode cX12_load 57 = .ok (.getfield 22, 3) := by decide +kernel
theorem dX12_load_60 : decode cX12_load 60 = .ok (.iload_n 2, 1) := by decide +kernel
theorem dX12_load_61 : decode cX12_load 61 = .ok (.aload_n 0, 1) := by decide +kernel
theorem dX12_load_62 : decode cX12_load 62 = .ok (.getfield 47, 3) := by decide +kernel
theorem dX12_load_65 : decode cX12_load 65 = .ok (.iload_n 3, 1) := by decide +kernel
theorem dX12_load_66 : decode cX12_load 66 = .ok (.iconst 3, 1) := by decide +kernel
theorem dX12_load_67 : decode cX12_load 67 = .ok (.iadd, 1) := by decide +kernel
theorem dX12_load_68 : decode cX12_load 68 = .ok (.iaload, 1) := by decide +kernel
theorem dX12_load_69 : decode cX12_load 69 = .ok (.iastore, 1) := by decide +kernel
theorem dX12_load_70 : decode cX12_load 70 = .ok (.aload_n 0, 1) := by decide +kernel
theorem dX12_load_71 : decode cX12_load 71 = .ok (.getfield 25, 3) := by decide +kernel
theorem dX12_load_74 : decode cX12_load 74 = .ok (.iload_n 2, 1) := by decide +kernel
theorem dX12_load_75 : decode cX12_load 75 = .ok (.aload_n 0, 1) := by decide +kernel
theorem dX12_load_76 : decode cX12_load 76 = .ok (.getfield 47, 3) := by decide +kernel
theorem dX12_load_79 : decode cX12_load 79 = .ok (.iload_n 3, 1) := by decide +kernel
theorem dX12_load_80 : decode cX12_load 80 = .ok (.iconst 4, 1) := by decide +kernel
theorem dX12_load_81 : decode cX12_load 81 = .ok (.iadd, 1) := by decide +kernel
theorem dX12_load_82 : decode cX12_load 82 = .ok (.iaload, 1) := by decide +kernel
theorem dX12_load_83 : decode cX12_load 83 = .ok (.iastore, 1) := by decide +kernel
theorem dX12_load_84 : decode cX12_load 84 = .ok (.iinc 2 1, 3) := by decide +kernel
theorem dX12_load_87 : decode cX12_load 87 = .ok (.goto (-85), 3) := by decide +kernel
theorem dX12_load_90 : decode cX12_load 90 = .ok (.return_, 1) := by decide +kernel
set_option maxRecDepth 20000 in
theorem ggX12_laterNow_X12_save : GoodIn wsX12_laterNow wsX12_save := goodIn_r _ [5, 6, 7, 8, 9, 10, 11, 57, 58, 59, 60, 61, 62, 63, 64, 65, 66, 67, 68, 69, 70, 71, 72, 73, 74, 75, 76, 77, 78, 79, 80, 81, 82, 83, 84, 85, 86, 87, 88, 89, 90, 91, 92, 93, 94] (by decide +kernel) (by decide +kernel)
set_option maxRecDepth 20000 in
theorem gX12_laterNow_X12_save : GoodIn wsX12_laterNow (wsV RX12 176 RX12 yX12_save wsX12_save) := goodIn_app (goodIn_of _ (by decide +kernel)) ggX12_laterNow_X12_save
set_option maxRecDepth 20000 in
theorem ggX12_laterNow_X12_goBy : GoodIn wsX12_laterNow wsX12_goBy := goodIn_r _ [15, 11, 8, 9, 16, 17, 18, 4, 19, 7, 20, 57, 58, 59, 60, 61, 62, 63, 64, 65, 66, 67, 68, 69, 70, 71, 72, 73, 74, 75, 76, 77, 78, 79, 80, 81, 82, 83, 84, 85, 86, 87, 88, 89, 90, 91, 92, 93, 94] (by decide +kernel) (by decide +kernel)
set_option maxRecDepth 20000 in
theorem gX12_laterNow_X12_goBy : GoodIn wsX12_laterNow (wsV RX12 166 RX12 yX12_goBy wsX12_goBy) := goodIn_app (goodIn_of _ (by decide +kernel)) ggX12_laterNow_X12_goBy
set_option maxRecDepth 20000 in
theorem ggX12_laterNow_X12_panNow : GoodIn wsX12_laterNow wsX12_panNow := goodIn_r _ [24, 7, 8, 9, 10, 20, 11, 25, 26, 27, 4, 28, 29, 30, 31, 32, 33, 34, 35, 36, 37, 38, 39, 40, 41, 42, 43, 44, 45, 46, 47, 48, 49, 50, 51, 52, 57, 58, 59, 60, 61, 62, 63, 64, 65, 66, 67, 68, 69, 70, 71, 72, 73, 74, 75, 76, 77, 78, 79, 80, 81, 82, 83, 84, 85, 86, 87, 88, 89, 90, 91, 92, 93, 94] (by decide +kernel) (by decide +kernel)
set_option maxRecDepth 20000 in
theorem gX12_laterNow_X12_panNow : GoodIn wsX12_laterNow (wsV RX12 150 RX12 yX12_panNow wsX12_panNow) := goodIn_app (goodIn_of _ (by decide +kernel)) ggX12_laterNow_X12_panNow
set_option maxRecDepth 20000 in
theorem ggX12_laterNow_X12_load : GoodIn wsX12_laterNow wsX12_load := goodIn_r _ [56, 7, 6, 8, 9, 10, 11, 57, 58, 59, 60, 61, 62, 63, 64, 65, 66, 67, 68, 69, 70, 71, 72, 73, 74, 75, 76, 77, 78, 79, 80, 81, 82, 83, 84, 85, 86, 87, 88, 89, 90, 91, 92, 93, 94] (by decide +kernel) (by decide +kernel)
set_option maxRecDepth 20000 in
theorem gX12_laterNow_X12_load : GoodIn wsX12_laterNow (wsV RX12 179 RX12 yX12_load wsX12_load) := goodIn_app (goodIn_of _ (by decide +kernel)) ggX12_laterNow_X12_load
theorem dX12_laterNow_0 : decode cX12_laterNow 0 = .ok (.aload_n 0, 1) := by decide +kernel
theorem dX12_laterNow_1 : decode cX12_laterNow 1 = .ok (.iconst 1, 1) := by decide +kernel
theorem dX12_laterNow_2 : decode cX12_laterNow 2 = .ok (.invokevirtual 176, 3) := by decide +kernel
theorem dX12_laterNow_5 : decode cX12_laterNow 5 = .ok (.iconst 0, 1) := by decide +kernel
theorem dX12_laterNow_6 : decode cX12_laterNow 6 = .ok (.istore 4, 2) := by decide +kernel
theorem dX12_laterNow_8 : decode cX12_laterNow 8 = .ok (.iload 4, 2) := by decide +kernel
theorem dX12_laterNow_10 : decode cX12_laterNow 10 = .ok (.iload_n 2, 1) := by decide +kernel
theorem dX12_laterNow_11 : decode cX12_laterNow 11 = .ok (.if_icmp .ge 14, 3) := by decide +kernel
theorem dX12_laterNow_14 : decode cX12_laterNow 14 = .ok (.aload_n 0, 1) := by decide +kernel
theorem dX12_laterNow_15 : decode cX12_laterNow 15 = .ok (.iload_n 1, 1) := by decide +kernel
theorem dX12_laterNow_16 : decode cX12_laterNow 16 = .ok (.invokevirtual 166, 3) := by decide +kernel
theorem dX12_laterNow_19 : decode cX12_laterNow 19 = .ok (.iinc 4 1, 3) := by decide +kernel
theorem dX12_laterNow_22 : decode cX12_laterNow 22 = .ok (.goto (-14), 3) := by decide +kernel
theorem dX12_laterNow_25 : decode cX12_laterNow 25 = .ok (.aload_n 0, 1) := by decide +kernel
theorem dX12_laterNow_26 : decode cX12_laterNow 26 = .ok (.iload_n 1, 1) := by decide +kernel
theorem dX12_laterNow_27 : decode cX12_laterNow 27 = .ok (.iload_n 3, 1) := by decide +kernel
theorem dX12_laterNow_28 : decode cX12_laterNow 28 = .ok (.invokevirtual 150, 3) := by decide +kernel
theorem dX12_laterNow_31 : decode cX12_laterNow 31 = .ok (.istore 4, 2) := by decide +kernel
theorem dX12_laterNow_33 : decode cX12_laterNow 33 = .ok (.aload_n 0, 1) := by decide +kernel
theorem dX12_laterNow_34 : decode cX12_laterNow 34 = .ok (.iconst 1, 1) := by decide +kernel
theorem dX12_laterNow_35 : decode cX12_laterNow 35 = .ok (.invokevirtual 179, 3) := by decide +kernel
theorem dX12_laterNow_38 : decode cX12_laterNow 38 = .ok (.iload 4, 2) := by decide +kernel
theorem dX12_laterNow_40 : decode cX12_laterNow 40 = .ok (.ireturn, 1) := by decide +kernel
set_option maxRecDepth 20000 in
theorem ggX12_later_X12_isPan : GoodIn wsX12_later wsX12_isPan := goodIn_r _ [5, 6, 7, 8, 4, 9, 69, 70, 71, 72, 73, 74, 75, 76, 77, 78, 79, 80, 81, 82, 83, 84, 85, 86, 87, 88, 89, 90, 91, 92, 93, 94, 95, 96, 97, 98, 99, 100, 101, 102, 103, 104, 105, 106] (by decide +kernel) (by decide +kernel)
set_option maxRecDepth 20000 in
theorem gX12_later_X12_isPan : GoodIn wsX12_later (wsV RX12 147 RX12 yX12_isPan wsX12_isPan) := goodIn_app (goodIn_of _ (by decide +kernel)) ggX12_later_X12_isPan
set_option maxRecDepth 20000 in
theorem ggX12_later_X12_within : GoodIn wsX12_later wsX12_within := goodIn_r _ [9] (by decide +kernel) (by decide +kernel)
set_option maxRecDepth 20000 in
theorem gX12_later_X12_within : GoodIn wsX12_later (va_wsS RX12 77 yX12_within wsX12_within) := goodIn_app (goodIn_of _ (by decide +kernel)) ggX12_later_X12_within
set_option maxRecDepth 20000 in
theorem ggX12_later_X12_laterNow : GoodIn wsX12_later wsX12_laterNow := goodIn_r _ [13, 14, 15, 16, 4, 17, 18, 19, 20, 21, 22, 23, 24, 25, 26, 27, 28, 29, 30, 31, 32, 33, 34, 35, 36, 37, 38, 39, 40, 41, 42, 43, 44, 45, 46, 47, 48, 49, 50, 51, 52, 53, 54, 55, 56, 57, 58, 59, 60, 61, 62, 63, 64, 65, 66, 67, 68, 69, 70, 71, 72, 73, 74, 75, 76, 77, 78, 79, 80, 81, 82, 83, 84, 85, 86, 87, 88, 89, 90, 91, 92, 93, 94, 95, 96, 97, 98, 99, 100, 101, 102, 103, 104, 105, 106] (by decide +kernel) (by decide +kernel)
set_option maxRecDepth 20000 in
theorem gX12_later_X12_laterNow : GoodIn wsX12_later (wsV RX12 182 RX12 yX12_laterNow wsX12_laterNow) := goodIn_app (goodIn_of _ (by decide +kernel)) ggX12_later_X12_laterNow
theorem dX12_later_0 : decode cX12_later 0 = .ok (.aload_n 0, 1) := by decide +kernel
theorem dX12_later_1 : decode cX12_later 1 = .ok (.iload_n 1, 1) := by decide +kernel
theorem dX12_later_2 : decode cX12_later 2 = .ok (.invokevirtual 147, 3) := by decide +kernel
theorem dX12_later_5 : decode cX12_later 5 = .ok (.ifCond .ne 6, 3) := by decide +kernel
theorem dX12_later_8 : decode cX12_later 8 = .ok (.bipush (-101), 2) := by decide +kernel
theorem dX12_later_10 : decode cX12_later 10 = .ok (.ireturn, 1) := by decide +kernel
theorem dX12_later_11 : decode cX12_later 11 = .ok (.iload_n 2, 1) := by decide +kernel
theorem dX12_later_12 : decode cX12_later 12 = .ok (.iconst 0, 1) := by decide +kernel
theorem dX12_later_13 : decode cX12_later 13 = .ok (.bipush 40, 2) := by decide +kernel
theorem dX12_later_15 : decode cX12_later 15 = .ok (.invokestatic 77, 3) := by decide +kernel
theorem dX12_later_18 : decode cX12_later 18 = .ok (.ifCond .eq 22, 3) := by decide +kernel
theorem dX12_later_21 : decode cX12_later 21 = .ok (.iload_n 3, 1) := by decide +kernel
theorem dX12_later_22 : decode cX12_later 22 = .ok (.iconst 0, 1) := by decide +kernel
theorem dX12_later_23 : decode cX12_later 23 = .ok (.iconst 3, 1) := by decide +kernel
theorem dX12_later_24 : decode cX12_later 24 = .ok (.invokestatic 77, 3) := by decide +kernel
theorem dX12_later_27 : decode cX12_later 27 = .ok (.ifCond .eq 13, 3) := by decide +kernel
theorem dX12_later_30 : decode cX12_later 30 = .ok (.aload_n 0, 1) := by decide +kernel
theorem dX12_later_31 : decode cX12_later 31 = .ok (.iload_n 1, 1) := by decide +kernel
theorem dX12_later_32 : decode cX12_later 32 = .ok (.iload_n 2, 1) := by decide +kernel
theorem dX12_later_33 : decode cX12_later 33 = .ok (.iload_n 3, 1) := by decide +kernel
theorem dX12_later_34 : decode cX12_later 34 = .ok (.invokevirtual 182, 3) := by decide +kernel
theorem dX12_later_37 : decode cX12_later 37 = .ok (.goto 5, 3) := by decide +kernel
theorem dX12_later_40 : decode cX12_later 40 = .ok (.bipush (-102), 2) := by decide +kernel
theorem dX12_later_42 : decode cX12_later 42 = .ok (.ireturn, 1) := by decide +kernel
set_option maxRecDepth 20000 in
theorem ggX12_isAny_X12_topOf : GoodIn wsX12_isAny wsX12_topOf := goodIn_r _ [6, 7, 8, 9, 10, 11, 12, 13, 14, 15, 16, 17, 18, 19, 20, 21, 22, 23, 24, 25, 26, 27, 28, 29, 30, 31, 32, 33, 34, 35, 36, 37, 38, 39, 40, 41, 42, 43, 44, 45, 46, 47] (by decide +kernel) (by decide +kernel)
set_option maxRecDepth 20000 in
theorem gX12_isAny_X12_topOf : GoodIn wsX12_isAny (wsV RX12 138 RX12 yX12_topOf wsX12_topOf) := goodIn_app (goodIn_of _ (by decide +kernel)) ggX12_isAny_X12_topOf
theorem dX12_isAny_0 : decode cX12_isAny 0 = .ok (.iconst 0, 1) := by decide +kernel
theorem dX12_isAny_1 : decode cX12_isAny 1 = .ok (.istore_n 1, 1) := by decide +kernel
theorem dX12_isAny_2 : decode cX12_isAny 2 = .ok (.iconst 0, 1) := by decide +kernel
theorem dX12_isAny_3 : decode cX12_isAny 3 = .ok (.istore_n 2, 1) := by decide +kernel
theorem dX12_isAny_4 : decode cX12_isAny 4 = .ok (.iload_n 2, 1) := by decide +kernel
theorem dX12_isAny_5 : decode cX12_isAny 5 = .ok (.aload_n 0, 1) := by decide +kernel
theorem dX12_isAny_6 : decode cX12_isAny 6 = .ok (.getfield 119, 3) := by decide +kernel
theorem dX12_isAny_9 : decode cX12_isAny 9 = .ok (.if_icmp .ge 28, 3) := by decide +kernel
theorem dX12_isAny_12 : decode cX12_isAny 12 = .ok (.iload_n 1, 1) := by decide +kernel
theorem dX12_isAny_13 : decode cX12_isAny 13 = .ok (.ifCond .ne 12, 3) := by decide +kernel
theorem dX12_isAny_16 : decode cX12_isAny 16 = .ok (.aload_n 0, 1) := by decide +kernel
theorem dX12_isAny_17 : decode cX12_isAny 17 = .ok (.iload_n 2, 1) := by decide +kernel
theorem dX12_isAny_18 : decode cX12_isAny 18 = .ok (.invokevirtual 138, 3) := by decide +kernel
theorem dX12_isAny_21 : decode cX12_isAny 21 = .ok (.iconst (-1), 1) := by decide +kernel
theorem dX12_isAny_22 : decode cX12_isAny 22 = .ok (.if_icmp .eq 7, 3) := by decide +kernel
theorem dX12_isAny_25 : decode cX12_isAny 25 = .ok (.iconst 1, 1) := by decide +kernel
theorem dX12_isAny_26 : decode cX12_isAny 26 = .ok (.goto 4, 3) := by decide +kernel
theorem dX12_isAny_29 : decode cX12_isAny 29 = .ok (.iconst 0, 1) := by decide +kernel
theorem dX12_isAny_30 : decode cX12_isAny 30 = .ok (.istore_n 1, 1) := by decide +kernel
theorem dX12_isAny_31 : decode cX12_isAny 31 = .ok (.iinc 2 1, 3) := by decide +kernel
theorem dX12_isAny_34 : decode cX12_isAny 34 = .ok (.goto (-30), 3) := by decide +kernel
theorem dX12_isAny_37 : decode cX12_isAny 37 = .ok (.iload_n 1, 1) := by decide +kernel
theorem dX12_isAny_38 : decode cX12_isAny 38 = .ok (.ireturn, 1) := by decide +kernel
set_option maxRecDepth 20000 in
theorem ggX12_worthBy_X12_isAny : GoodIn wsX12_worthBy wsX12_isAny := goodIn_r _ [6, 7, 8, 9, 10, 5, 11, 12, 13, 14, 39, 40, 41, 42, 43, 44, 45, 46, 47, 48, 49, 50, 51, 52, 53, 54, 55, 56, 57, 58, 59, 60, 61, 62, 63, 64, 65, 66, 67, 68, 69, 70, 71, 72, 73, 74, 75, 76] (by decide +kernel) (by decide +kernel)
set_option maxRecDepth 20000 in
theorem gX12_worthBy_X12_isAny : GoodIn wsX12_worthBy (wsV RX12 186 RX12 yX12_isAny wsX12_isAny) := goodIn_app (goodIn_of _ (by decide +kernel)) ggX12_worthBy_X12_isAny
set_option maxRecDepth 20000 in
theorem ggX12_worthBy_X12_topOf : GoodIn wsX12_worthBy wsX12_topOf := goodIn_r _ [11, 12, 13, 14, 39, 40, 41, 42, 43, 44, 45, 46, 47, 48, 49, 50, 51, 52, 53, 54, 55, 56, 57, 58, 59, 60, 61, 62, 63, 64, 65, 66, 67, 68, 69, 70, 71, 72, 73, 74, 75, 76] (by decide +kernel) (by decide +kernel)
set_option maxRecDepth 20000 in
theorem gX12_worthBy_X12_topOf : GoodIn wsX12_worthBy (wsV RX12 138 RX12 yX12_topOf wsX12_topOf) := goodIn_app (goodIn_of _ (by decide +kernel)) ggX12_worthBy_X12_topOf
set_option maxRecDepth 20000 in
theorem ggX12_worthBy_X12_worthOf : GoodIn wsX12_worthBy wsX12_worthOf := goodIn_r _ [18, 19, 39, 40, 41, 42, 43, 44, 45, 46, 47, 48, 49, 50, 51, 52, 53, 54, 55, 56, 57, 58, 59, 60, 61, 62, 63, 64, 65, 66, 67, 68, 69, 70, 71, 72, 73, 74, 75, 76] (by decide +kernel) (by decide +kernel)
set_option maxRecDepth 20000 in
theorem gX12_worthBy_X12_worthOf : GoodIn wsX12_worthBy (wsV RX12 134 RX12 yX12_worthOf wsX12_worthOf) := goodIn_app (goodIn_of _ (by decide +kernel)) ggX12_worthBy_X12_worthOf
set_option maxRecDepth 20000 in
theorem ggX12_worthBy_X12_take : GoodIn wsX12_worthBy wsX12_take := goodIn_r _ [23, 12, 13, 14, 24, 39, 40, 41, 42, 43, 44, 45, 46, 47, 48, 49, 50, 51, 52, 53, 54, 55, 56, 57, 58, 59, 60, 61, 62, 63, 64, 65, 66, 67, 68, 69, 70, 71, 72, 73, 74, 75, 76] (by decide +kernel) (by decide +kernel)
set_option maxRecDepth 20000 in
theorem gX12_worthBy_X12_take : GoodIn wsX12_worthBy (wsV RX12 172 RX12 yX12_take wsX12_take) := goodIn_app (goodIn_of _ (by decide +kernel)) ggX12_worthBy_X12_take
set_option maxRecDepth 20000 in
theorem ggX12_worthBy_X12_goByAll : GoodIn wsX12_worthBy wsX12_goByAll := goodIn_r _ [28, 7, 29, 30, 31, 5, 32, 24, 13, 12, 33, 34, 35, 36, 37, 38, 39, 40, 41, 42, 43, 44, 45, 46, 47, 48, 49, 50, 51, 52, 53, 54, 55, 56, 57, 58, 59, 60, 61, 62, 63, 64, 65, 66, 67, 68, 69, 70, 71, 72, 73, 74, 75, 76] (by decide +kernel) (by decide +kernel)
set_option maxRecDepth 20000 in
theorem gX12_worthBy_X12_goByAll : GoodIn wsX12_worthBy (wsV RX12 169 RX12 yX12_goByAll wsX12_goByAll) := goodIn_app (goodIn_of _ (by decide +kernel)) ggX12_worthBy_X12_goByAll
theorem dX12_worthBy_0 : decode cX12_worthBy 0 = .ok (.iconst 0, 1) := by decide +kernel
theorem dX12_worthBy_1 : decode cX12_worthBy 1 = .ok (.istore_n 3, 1) := by decide +kernel
theorem dX12_worthBy_2 : decode cX12_worthBy 2 = .ok (.iconst 0, 1) := by decide +kernel
theorem dX12_worthBy_3 : decode cX12_worthBy 3 = .ok (.istore 4, 2) := by decide +kernel
theorem dX12_worthBy_5 : decode cX12_worthBy 5 = .ok (.iload 4, 2) := by decide +kernel
theorem dX12_worthBy_7 : decode cX12_worthBy 7 = .ok (.iload_n 2, 1) := by decide +kernel
theorem dX12_worthBy_8 : decode cX12_worthBy 8 = .ok (.if_icmp .ge 99, 3) := by decide +kernel
theorem dX12_worthBy_11 : decode cX12_worthBy 11 = .ok (.aload_n 0, 1) := by decide +kernel
theorem dX12_worthBy_12 : decode cX12_worthBy 12 = .ok (.getfield 50, 3) := by decide +kernel
theorem dX12_worthBy_15 : decode cX12_worthBy 15 = .ok (.iload 4, 2) := by decide +kernel
theorem dX12_worthBy_17 : decode cX12_worthBy 17 = .ok (.iaload, 1) := by decide +kernel
theorem dX12_worthBy_18 : decode cX12_worthBy 18 = .ok (.iconst 1, 1) := by decide +kernel
theorem dX12_worthBy_19 : decode cX12_worthBy 19 = .ok (.isub, 1) := by decide +kernel
theorem dX12_worthBy_20 : decode cX12_worthBy 20 = .ok (.istore 5, 2) := by decide +kernel
theorem dX12_worthBy_22 : decode cX12_worthBy 22 = .ok (.iload 5, 2) := by decide +kernel
theorem dX12_worthBy_24 : decode cX12_worthBy 24 = .ok (.ifCond .ge 18, 3) := by decide +kernel
theorem dX12_worthBy_27 : decode cX12_worthBy 27 = .ok (.aload_n 0, 1) := by decide +kernel
theorem dX12_worthBy_28 : decode cX12_worthBy 28 = .ok (.invokevirtual 186, 3) := by decide +kernel
theorem dX12_worthBy_31 : decode cX12_worthBy 31 = .ok (.ifCond .ne 7, 3) := by decide +kernel
theorem dX12_worthBy_34 : decode cX12_worthBy 34 = .ok (.iconst 1, 1) := by decide +kernel
theorem dX12_worthBy_35 : decode cX12_worthBy 35 = .ok (.goto 22, 3) := by decide +kernel
theorem dX12_worthBy_38 : decode cX12_worthBy 38 = .ok (.iconst 0, 1) := by decide +kernel
theorem dX12_worthBy_39 : decode cX12_worthBy 39 = .ok (.goto 18, 3) := by decide +kernel
theorem dX12_worthBy_42 : decode cX12_worthBy 42 = .ok (.aload_n 0, 1) := by decide +kernel
theorem dX12_worthBy_43 : decode cX12_worthBy 43 = .ok (.iload 5, 2) := by decide +kernel
theorem dX12_worthBy_45 : decode cX12_worthBy 45 = .ok (.invokevirtual 138, 3) := by decide +kernel
theorem dX12_worthBy_48 : decode cX12_worthBy 48 = .ok (.iconst (-1), 1) := by decide +kernel
theorem dX12_worthBy_49 : decode cX12_worthBy 49 = .ok (.if_icmp .eq 7, 3) := by decide +kernel
theorem dX12_worthBy_52 : decode cX12_worthBy 52 = .ok (.iconst 1, 1) := by decide +kernel
theorem dX12_worthBy_53 : decode cX12_worthBy 53 = .ok (.goto 4, 3) := by decide +kernel
theorem dX12_worthBy_56 : decode cX12_worthBy 56 = .ok (.iconst 0, 1) := by decide +kernel
theorem dX12_worthBy_57 : decode cX12_worthBy 57 = .ok (.istore 6, 2) := by decide +kernel
theorem dX12_worthBy_59 : decode cX12_worthBy 59 = .ok (.iload 6, 2) := by decide +kernel
theorem dX12_worthBy_61 : decode cX12_worthBy 61 = .ok (.ifCond .ne 5, 3) := by decide +kernel
theorem dX12_worthBy_64 : decode cX12_worthBy 64 = .ok (.iconst (-1), 1) := by decide +kernel
theorem dX12_worthBy_65 : decode cX12_worthBy 65 = .ok (.ireturn, 1) := by decide +kernel
theorem dX12_worthBy_66 : decode cX12_worthBy 66 = .ok (.iload 5, 2) := by decide +kernel
theorem dX12_worthBy_68 : decode cX12_worthBy 68 = .ok (.ifCond .lt 29, 3) := by decide +kernel
theorem dX12_worthBy_71 : decode cX12_worthBy 71 = .ok (.iload_n 3, 1) := by decide +kernel
theorem dX12_worthBy_72 : decode cX12_worthBy 72 = .ok (.aload_n 0, 1) := by decide +kernel
theorem dX12_worthBy_73 : decode cX12_worthBy 73 = .ok (.iload_n 1, 1) := by decide +kernel
theorem dX12_worthBy_74 : decode cX12_worthBy 74 = .ok (.aload_n 0, 1) := by decide +kernel
theorem dX12_worthBy_75 : decode cX12_worthBy 75 = .ok (.iload 5, 2) := by decide +kernel
theorem dX12_worthBy_77 : decode cX12_worthBy 77 = .ok (.invokevirtual 138, 3) := by decide +kernel
theorem dX12_worthBy_80 : decode cX12_worthBy 80 = .ok (.invokevirtual 134, 3) := by decide +kernel
theorem dX12_worthBy_83 : decode cX12_worthBy 83 = .ok (.iadd, 1) := by decide +kernel
theorem dX12_worthBy_84 : decode cX12_worthBy 84 = .ok (.istore_n 3, 1) := by decide +kernel
theorem dX12_worthBy_85 : decode cX12_worthBy 85 = .ok (.aload_n 0, 1) := by decide +kernel
theorem dX12_worthBy_86 : decode cX12_worthBy 86 = .ok (.iload 5, 2) := by decide +kernel
theorem dX12_worthBy_88 : decode cX12_worthBy 88 = .ok (.aload_n 0, 1) := by decide +kernel
theorem dX12_worthBy_89 : decode cX12_worthBy 89 = .ok (.iload 5, 2) := by decide +kernel
theorem dX12_worthBy_91 : decode cX12_worthBy 91 = .ok (.invokevirtual 138, 3) := by decide +kernel
theorem dX12_worthBy_94 : decode cX12_worthBy 94 = .ok (.invokevirtual 172, 3) := by decide +kernel
theorem dX12_worthBy_97 : decode cX12_worthBy 97 = .ok (.aload_n 0, 1) := by decide +kernel
theorem dX12_worthBy_98 : decode cX12_worthBy 98 = .ok (.invokevirtual 169, 3) := by decide +kernel
theorem dX12_worthBy_101 : decode cX12_worthBy 101 = .ok (.iinc 4 1, 3) := by decide +kernel
theorem dX12_worthBy_104 : decode cX12_worthBy 104 = .ok (.goto (-99), 3) := by decide +kernel
theorem dX12_worthBy_107 : decode cX12_worthBy 107 = .ok (.iload_n 3, 1) := by decide +kernel
theorem dX12_worthBy_108 : decode cX12_worthBy 108 = .ok (.ireturn, 1) := by decide +kernel
theorem dX12_nextRow_0 : decode cX12_nextRow 0 = .ok (.iload_n 1, 1) := by decide +kernel
theorem dX12_nextRow_1 : decode cX12_nextRow 1 = .ok (.iconst 1, 1) := by decide +kernel
theorem dX12_nextRow_2 : decode cX12_nextRow 2 = .ok (.isub, 1) := by decide +kernel
theorem dX12_nextRow_3 : decode cX12_nextRow 3 = .ok (.istore_n 2, 1) := by decide +kernel
theorem dX12_nextRow_4 : decode cX12_nextRow 4 = .ok (.iload_n 2, 1) := by decide +kernel
theorem dX12_nextRow_5 : decode cX12_nextRow 5 = .ok (.ifCond .lt 29, 3) := by decide +kernel
theorem dX12_nextRow_8 : decode cX12_nextRow 8 = .ok (.aload_n 0, 1) := by decide +kernel
theorem dX12_nextRow_9 : decode cX12_nextRow 9 = .ok (.getfield 50, 3) := by decide +kernel
theorem dX12_nextRow_12 : decode cX12_nextRow 12 = .ok (.iload_n 2, 1) := by decide +kernel
theorem dX12_nextRow_13 : decode cX12_nextRow 13 = .ok (.iaload, 1) := by decide +kernel
theorem dX12_nextRow_14 : decode cX12_nextRow 14 = .ok (.aload_n 0, 1) := by decide +kernel
theorem dX12_nextRow_15 : decode cX12_nextRow 15 = .ok (.getfield 119, 3) := by decide +kernel
theorem dX12_nextRow_18 : decode cX12_nextRow 18 = .ok (.if_icmp .ne 16, 3) := by decide +kernel
theorem dX12_nextRow_21 : decode cX12_nextRow 21 = .ok (.aload_n 0, 1) := by decide +kernel
theorem dX12_nextRow_22 : decode cX12_nextRow 22 = .ok (.getfield 50, 3) := by decide +kernel
theorem dX12_nextRow_25 : decode cX12_nextRow 25 = .ok (.iload_n 2, 1) := by decide +kernel
theorem dX12_nextRow_26 : decode cX12_nextRow 26 = .ok (.iconst 0, 1) := by decide +kernel
theorem dX12_nextRow_27 : decode cX12_nextRow 27 = .ok (.iastore, 1) := by decide +kernel
theorem dX12_nextRow_28 : decode cX12_nextRow 28 = .ok (.iinc 2 (-1), 3) := by decide +kernel
theorem dX12_nextRow_31 : decode cX12_nextRow 31 = .ok (.goto (-27), 3) := by decide +kernel
theorem dX12_nextRow_34 : decode cX12_nextRow 34 = .ok (.iload_n 2, 1) := by decide +kernel
theorem dX12_nextRow_35 : decode cX12_nextRow 35 = .ok (.ifCond .ge 5, 3) := by decide +kernel
theorem dX12_nextRow_38 : decode cX12_nextRow 38 = .ok (.iconst 0, 1) := by decide +kernel
theorem dX12_nextRow_39 : decode cX12_nextRow 39 = .ok (.ireturn, 1) := by decide +kernel
theorem dX12_nextRow_40 : decode cX12_nextRow 40 = .ok (.aload_n 0, 1) := by decide +kernel
theorem dX12_nextRow_41 : decode cX12_nextRow 41 = .ok (.getfield 50, 3) := by decide +kernel
theorem dX12_nextRow_44 : decode cX12_nextRow 44 = .ok (.iload_n 2, 1) := by decide +kernel
theorem dX12_nextRow_45 : decode cX12_nextRow 45 = .ok (.dup2, 1) := by decide +kernel
theorem dX12_nextRow_46 : decode cX12_nextRow 46 = .ok (.iaload, 1) := by decide +kernel
theorem dX12_nextRow_47 : decode cX12_nextRow 47 = .ok (.iconst 1, 1) := by decide +kernel
theorem dX12_nextRow_48 : decode cX12_nextRow 48 = .ok (.iadd, 1) := by decide +kernel
theorem dX12_nextRow_49 : decode cX12_nextRow 49 = .ok (.iastore, 1) := by decide +kernel
theorem dX12_nextRow_50 : decode cX12_nextRow 50 = .ok (.iconst 1, 1) := by decide +kernel
theorem dX12_nextRow_51 : decode cX12_nextRow 51 = .ok (.ireturn, 1) := by decide +kernel
set_option maxRecDepth 20000 in
theorem ggX12_planNow_X12_save : GoodIn wsX12_planNow wsX12_save := goodIn_r _ [7, 8, 9, 10, 11, 12, 13, 57, 58, 59, 60, 61, 62, 63, 64, 65, 66, 67, 68, 69, 70, 71, 72, 73, 74, 75, 76, 77, 78, 79, 80, 81, 82, 83, 84, 85, 86, 87, 88, 89, 90, 91, 92, 93, 94] (by decide +kernel) (by decide +kernel)
set_option maxRecDepth 20000 in
theorem gX12_planNow_X12_save : GoodIn wsX12_planNow (wsV RX12 176 RX12 yX12_save wsX12_save) := goodIn_app (goodIn_of _ (by decide +kernel)) ggX12_planNow_X12_save
set_option maxRecDepth 20000 in
theorem ggX12_planNow_X12_worthBy : GoodIn wsX12_planNow wsX12_worthBy := goodIn_r _ [17, 1, 18, 19, 20, 6, 21, 22, 23, 24, 25, 26, 11, 10, 12, 27, 28, 29, 30, 31, 32, 33, 34, 35, 13, 36, 37, 38, 39, 40, 41, 42, 43, 44, 45, 46, 47, 9, 48, 57, 58, 59, 60, 61, 62, 63, 64, 65, 66, 67, 68, 69, 70, 71, 72, 73, 74, 75, 76, 77, 78, 79, 80, 81, 82, 83, 84, 85, 86, 87, 88, 89, 90, 91, 92, 93, 94] (by decide +kernel) (by decide +kernel)
set_option maxRecDepth 20000 in
theorem gX12_planNow_X12_worthBy : GoodIn wsX12_planNow (wsV RX12 190 RX12 yX12_worthBy wsX12_worthBy) := goodIn_app (goodIn_of _ (by decide +kernel)) ggX12_planNow_X12_worthBy
set_option maxRecDepth 20000 in
theorem ggX12_planNow_X12_load : GoodIn wsX12_planNow wsX12_load := goodIn_r _ [52, 9, 8, 10, 11, 12, 13, 57, 58, 59, 60, 61, 62, 63, 64, 65, 66, 67, 68, 69, 70, 71, 72, 73, 74, 75, 76, 77, 78, 79, 80, 81, 82, 83, 84, 85, 86, 87, 88, 89, 90, 91, 92, 93, 94] (by decide +kernel) (by decide +kernel)
set_option maxRecDepth 20000 in
theorem gX12_planNow_X12_load : GoodIn wsX12_planNow (wsV RX12 179 RX12 yX12_load wsX12_load) := goodIn_app (goodIn_of _ (by decide +kernel)) ggX12_planNow_X12_load
set_option maxRecDepth 20000 in
theorem ggX12_planNow_X12_nextRow : GoodIn wsX12_planNow wsX12_nextRow := goodIn_r _ [56, 1, 22, 57, 58, 59, 60, 61, 62, 63, 64, 65, 66, 67, 68, 69, 70, 71, 72, 73, 74, 75, 76, 77, 78, 79, 80, 81, 82, 83, 84, 85, 86, 87, 88, 89, 90, 91, 92, 93, 94] (by decide +kernel) (by decide +kernel)
set_option maxRecDepth 20000 in
theorem gX12_planNow_X12_nextRow : GoodIn wsX12_planNow (wsV RX12 193 RX12 yX12_nextRow wsX12_nextRow) := goodIn_app (goodIn_of _ (by decide +kernel)) ggX12_planNow_X12_nextRow
theorem dX12_planNow_0 : decode cX12_planNow 0 = .ok (.iconst 0, 1) := by decide +kernel
theorem dX12_planNow_1 : decode cX12_planNow 1 = .ok (.istore 4, 2) := by decide +kernel
theorem dX12_planNow_3 : decode cX12_planNow 3 = .ok (.iload 4, 2) := by decide +kernel
theorem dX12_planNow_5 : decode cX12_planNow 5 = .ok (.iconst 4, 1) := by decide +kernel
theorem dX12_planNow_6 : decode cX12_planNow 6 = .ok (.if_icmp .ge 25, 3) := by decide +kernel
theorem dX12_planNow_9 : decode cX12_planNow 9 = .ok (.aload_n 0, 1) := by decide +kernel
theorem dX12_planNow_10 : decode cX12_planNow 10 = .ok (.getfield 50, 3) := by decide +kernel
theorem dX12_planNow_13 : decode cX12_planNow 13 = .ok (.iload 4, 2) := by decide +kernel
theorem dX12_planNow_15 : decode cX12_planNow 15 = .ok (.iconst 0, 1) := by decide +kernel
theorem dX12_planNow_16 : decode cX12_planNow 16 = .ok (.iastore, 1) := by decide +kernel
theorem dX12_planNow_17 : decode cX12_planNow 17 = .ok (.aload_n 0, 1) := by decide +kernel
theorem dX12_planNow_18 : decode cX12_planNow 18 = .ok (.getfield 53, 3) := by decide +kernel
theorem dX12_planNow_21 : decode cX12_planNow 21 = .ok (.iload 4, 2) := by decide +kernel
theorem dX12_planNow_23 : decode cX12_planNow 23 = .ok (.iconst 0, 1) := by decide +kernel
theorem dX12_planNow_24 : decode cX12_planNow 24 = .ok (.iastore, 1) := by decide +kernel
theorem dX12_planNow_25 : decode cX12_planNow 25 = .ok (.iinc 4 1, 3) := by decide +kernel
theorem dX12_planNow_28 : decode cX12_planNow 28 = .ok (.goto (-25), 3) := by decide +kernel
theorem dX12_planNow_31 : decode cX12_planNow 31 = .ok (.aload_n 0, 1) := by decide +kernel
theorem dX12_planNow_32 : decode cX12_planNow 32 = .ok (.iconst 1, 1) := by decide +kernel
theorem dX12_planNow_33 : decode cX12_planNow 33 = .ok (.invokevirtual 176, 3) := by decide +kernel
theorem dX12_planNow_36 : decode cX12_planNow 36 = .ok (.iconst (-1), 1) := by decide +kernel
theorem dX12_planNow_37 : decode cX12_planNow 37 = .ok (.istore 4, 2) := by decide +kernel
theorem dX12_planNow_39 : decode cX12_planNow 39 = .ok (.iconst 1, 1) := by decide +kernel
theorem dX12_planNow_40 : decode cX12_planNow 40 = .ok (.istore 5, 2) := by decide +kernel
theorem dX12_planNow_42 : decode cX12_planNow 42 = .ok (.iload 5, 2) := by decide +kernel
theorem dX12_planNow_44 : decode cX12_planNow 44 = .ok (.ifCond .eq 66, 3) := by decide +kernel
theorem dX12_planNow_47 : decode cX12_planNow 47 = .ok (.aload_n 0, 1) := by decide +kernel
theorem dX12_planNow_48 : decode cX12_planNow 48 = .ok (.iload_n 1, 1) := by decide +kernel
theorem dX12_planNow_49 : decode cX12_planNow 49 = .ok (.iload_n 2, 1) := by decide +kernel
theorem dX12_planNow_50 : decode cX12_planNow 50 = .ok (.invokevirtual 190, 3) := by decide +kernel
theorem dX12_planNow_53 : decode cX12_planNow 53 = .ok (.istore 6, 2) := by decide +kernel
theorem dX12_planNow_55 : decode cX12_planNow 55 = .ok (.aload_n 0, 1) := by decide +kernel
theorem dX12_planNow_56 : decode cX12_planNow 56 = .ok (.iconst 1, 1) := by decide +kernel
theorem dX12_planNow_57 : decode cX12_planNow 57 = .ok (.invokevirtual 179, 3) := by decide +kernel
theorem dX12_planNow_60 : decode cX12_planNow 60 = .ok (.iload 6, 2) := by decide +kernel
theorem dX12_planNow_62 : decode cX12_planNow 62 = .ok (.iload 4, 2) := by decide +kernel
theorem dX12_planNow_64 : decode cX12_planNow 64 = .ok (.if_icmp .le 36, 3) := by decide +kernel
theorem dX12_planNow_67 : decode cX12_planNow 67 = .ok (.iload 6, 2) := by decide +kernel
theorem dX12_planNow_69 : decode cX12_planNow 69 = .ok (.istore 4, 2) := by decide +kernel
theorem dX12_planNow_71 : decode cX12_planNow 71 = .ok (.iconst 0, 1) := by decide +kernel
theorem dX12_planNow_72 : decode cX12_planNow 72 = .ok (.istore 7, 2) := by decide +kernel
theorem dX12_planNow_74 : decode cX12_planNow 74 = .ok (.iload 7, 2) := by decide +kernel
theorem dX12_planNow_76 : decode cX12_planNow 76 = .ok (.iload_n 2, 1) := by decide +kernel
theorem dX12_planNow_77 : decode cX12_planNow 77 = .ok (.if_icmp .ge 23, 3) := by decide +kernel
theorem dX12_planNow_80 : decode cX12_planNow 80 = .ok (.aload_n 0, 1) := by decide +kernel
theorem dX12_planNow_81 : decode cX12_planNow 81 = .ok (.getfield 53, 3) := by decide +kernel
theorem dX12_planNow_84 : decode cX12_planNow 84 = .ok (.iload 7, 2) := by decide +kernel
theorem dX12_planNow_86 : decode cX12_planNow 86 = .ok (.aload_n 0, 1) := by decide +kernel
theorem dX12_planNow_87 : decode cX12_planNow 87 = .ok (.getfield 50, 3) := by decide +kernel
theorem dX12_planNow_90 : decode cX12_planNow 90 = .ok (.iload 7, 2) := by decide +kernel
theorem dX12_planNow_92 : decode cX12_planNow 92 = .ok (.iaload, 1) := by decide +kernel
theorem dX12_planNow_93 : decode cX12_planNow 93 = .ok (.iastore, 1) := by decide +kernel
theorem dX12_planNow_94 : decode cX12_planNow 94 = .ok (.iinc 7 1, 3) := by decide +kernel
theorem dX12_planNow_97 : decode cX12_planNow 97 = .ok (.goto (-23), 3) := by decide +kernel
theorem dX12_planNow_100 : decode cX12_planNow 100 = .ok (.aload_n 0, 1) := by decide +kernel
theorem dX12_planNow_101 : decode cX12_planNow 101 = .ok (.iload_n 2, 1) := by decide +kernel
theorem dX12_planNow_102 : decode cX12_planNow 102 = .ok (.invokevirtual 193, 3) := by decide +kernel
theorem dX12_planNow_105 : decode cX12_planNow 105 = .ok (.istore 5, 2) := by decide +kernel
theorem dX12_planNow_107 : decode cX12_planNow 107 = .ok (.goto (-65), 3) := by decide +kernel
theorem dX12_planNow_110 : decode cX12_planNow 110 = .ok (.iload_n 3, 1) := by decide +kernel
theorem dX12_planNow_111 : decode cX12_planNow 111 = .ok (.ifCond .ne 8, 3) := by decide +kernel
theorem dX12_planNow_114 : decode cX12_planNow 114 = .ok (.iload 4, 2) := by decide +kernel
theorem dX12_planNow_116 : decode cX12_planNow 116 = .ok (.goto 14, 3) := by decide +kernel
theorem dX12_planNow_119 : decode cX12_planNow 119 = .ok (.aload_n 0, 1) := by decide +kernel
theorem dX12_planNow_120 : decode cX12_planNow 120 = .ok (.getfield 53, 3) := by decide +kernel
theorem dX12_planNow_123 : decode cX12_planNow 123 = .ok (.iload_n 3, 1) := by decide +kernel
theorem dX12_planNow_124 : decode cX12_planNow 124 = .ok (.bipush 10, 2) := by decide +kernel
theorem dX12_planNow_126 : decode cX12_planNow 126 = .ok (.isub, 1) := by decide +kernel
theorem dX12_planNow_127 : decode cX12_planNow 127 = .ok (.iaload, 1) := by decide +kernel
theorem dX12_planNow_128 : decode cX12_planNow 128 = .ok (.iconst 1, 1) := by decide +kernel
theorem dX12_planNow_129 : decode cX12_planNow 129 = .ok (.isub, 1) := by decide +kernel
theorem dX12_planNow_130 : decode cX12_planNow 130 = .ok (.ireturn, 1) := by decide +kernel
set_option maxRecDepth 20000 in
theorem ggX12_plan_X12_isChild : GoodIn wsX12_plan wsX12_isChild := goodIn_r _ [5, 6, 7, 8, 4, 9, 69, 70, 71, 72, 73, 74, 75, 76, 77, 78, 79, 80, 81, 82, 83, 84, 85, 86, 87, 88, 89, 90, 91, 92, 93, 94, 95, 96, 97, 98, 99, 100, 101, 102, 103, 104, 105, 106] (by decide +kernel) (by decide +kernel)
set_option maxRecDepth 20000 in
theorem gX12_plan_X12_isChild : GoodIn wsX12_plan (wsV RX12 156 RX12 yX12_isChild wsX12_isChild) := goodIn_app (goodIn_of _ (by decide +kernel)) ggX12_plan_X12_isChild
set_option maxRecDepth 20000 in
theorem ggX12_plan_X12_within : GoodIn wsX12_plan wsX12_within := goodIn_r _ [9] (by decide +kernel) (by decide +kernel)
set_option maxRecDepth 20000 in
theorem gX12_plan_X12_within : GoodIn wsX12_plan (va_wsS RX12 77 yX12_within wsX12_within) := goodIn_app (goodIn_of _ (by decide +kernel)) ggX12_plan_X12_within
set_option maxRecDepth 20000 in
theorem ggX12_plan_X12_planNow : GoodIn wsX12_plan wsX12_planNow := goodIn_r _ [13, 14, 15, 16, 17, 18, 4, 19, 20, 21, 22, 23, 24, 25, 26, 27, 28, 29, 30, 31, 32, 33, 34, 35, 36, 37, 38, 39, 40, 41, 42, 43, 44, 45, 46, 47, 48, 49, 50, 51, 52, 53, 54, 55, 56, 57, 58, 59, 60, 61, 62, 63, 64, 65, 66, 67, 68, 69, 70, 71, 72, 73, 74, 75, 76, 77, 78, 79, 80, 81, 82, 83, 84, 85, 86, 87, 88, 89, 90, 91, 92, 93, 94, 95, 96, 97, 98, 99, 100, 101, 102, 103, 104, 105, 106] (by decide +kernel) (by decide +kernel)
set_option maxRecDepth 20000 in
theorem gX12_plan_X12_planNow : GoodIn wsX12_plan (wsV RX12 196 RX12 yX12_planNow wsX12_planNow) := goodIn_app (goodIn_of _ (by decide +kernel)) ggX12_plan_X12_planNow
theorem dX12_plan_0 : decode cX12_plan 0 = .ok (.aload_n 0, 1) := by decide +kernel
theorem dX12_plan_1 : decode cX12_plan 1 = .ok (.iload_n 1, 1) := by decide +kernel
theorem dX12_plan_2 : decode cX12_plan 2 = .ok (.invokevirtual 156, 3) := by decide +kernel
theorem dX12_plan_5 : decode cX12_plan 5 = .ok (.ifCond .ne 6, 3) := by decide +kernel
theorem dX12_plan_8 : decode cX12_plan 8 = .ok (.bipush (-101), 2) := by decide +kernel
theorem dX12_plan_10 : decode cX12_plan 10 = .ok (.ireturn, 1) := by decide +kernel
theorem dX12_plan_11 : decode cX12_plan 11 = .ok (.iload_n 2, 1) := by decide +kernel
theorem dX12_plan_12 : decode cX12_plan 12 = .ok (.iconst 1, 1) := by decide +kernel
theorem dX12_plan_13 : decode cX12_plan 13 = .ok (.iconst 4, 1) := by decide +kernel
theorem dX12_plan_14 : decode cX12_plan 14 = .ok (.invokestatic 77, 3) := by decide +kernel
theorem dX12_plan_17 : decode cX12_plan 17 = .ok (.ifCond .eq 28, 3) := by decide +kernel
theorem dX12_plan_20 : decode cX12_plan 20 = .ok (.iload_n 3, 1) := by decide +kernel
theorem dX12_plan_21 : decode cX12_plan 21 = .ok (.ifCond .eq 14, 3) := by decide +kernel
theorem dX12_plan_24 : decode cX12_plan 24 = .ok (.iload_n 3, 1) := by decide +kernel
theorem dX12_plan_25 : decode cX12_plan 25 = .ok (.bipush 10, 2) := by decide +kernel
theorem dX12_plan_27 : decode cX12_plan 27 = .ok (.bipush 13, 2) := by decide +kernel
theorem dX12_plan_29 : decode cX12_plan 29 = .ok (.invokestatic 77, 3) := by decide +kernel
theorem dX12_plan_32 : decode cX12_plan 32 = .ok (.ifCond .eq 13, 3) := by decide +kernel
theorem dX12_plan_35 : decode cX12_plan 35 = .ok (.aload_n 0, 1) := by decide +kernel
theorem dX12_plan_36 : decode cX12_plan 36 = .ok (.iload_n 1, 1) := by decide +kernel
theorem dX12_plan_37 : decode cX12_plan 37 = .ok (.iload_n 2, 1) := by decide +kernel
theorem dX12_plan_38 : decode cX12_plan 38 = .ok (.iload_n 3, 1) := by decide +kernel
theorem dX12_plan_39 : decode cX12_plan 39 = .ok (.invokevirtual 196, 3) := by decide +kernel
theorem dX12_plan_42 : decode cX12_plan 42 = .ok (.goto 5, 3) := by decide +kernel
theorem dX12_plan_45 : decode cX12_plan 45 = .ok (.bipush (-102), 2) := by decide +kernel
theorem dX12_plan_47 : decode cX12_plan 47 = .ok (.ireturn, 1) := by decide +kernel
theorem dX12_things_0 : decode cX12_things 0 = .ok (.iload_n 1, 1) := by decide +kernel
theorem dX12_things_1 : decode cX12_things 1 = .ok (.aload_n 0, 1) := by decide +kernel
theorem dX12_things_2 : decode cX12_things 2 = .ok (.getfield 119, 3) := by decide +kernel
theorem dX12_things_5 : decode cX12_things 5 = .ok (.if_icmp .ge 26, 3) := by decide +kernel
theorem dX12_things_8 : decode cX12_things 8 = .ok (.aload_n 0, 1) := by decide +kernel
theorem dX12_things_9 : decode cX12_things 9 = .ok (.getfield 19, 3) := by decide +kernel
theorem dX12_things_12 : decode cX12_things 12 = .ok (.iload_n 1, 1) := by decide +kernel
theorem dX12_things_13 : decode cX12_things 13 = .ok (.iaload, 1) := by decide +kernel
theorem dX12_things_14 : decode cX12_things 14 = .ok (.aload_n 0, 1) := by decide +kernel
theorem dX12_things_15 : decode cX12_things 15 = .ok (.getfield 16, 3) := by decide +kernel
theorem dX12_things_18 : decode cX12_things 18 = .ok (.iload_n 1, 1) := by decide +kernel
theorem dX12_things_19 : decode cX12_things 19 = .ok (.iaload, 1) := by decide +kernel
theorem dX12_things_20 : decode cX12_things 20 = .ok (.iadd, 1) := by decide +kernel
theorem dX12_things_21 : decode cX12_things 21 = .ok (.aload_n 0, 1) := by decide +kernel
theorem dX12_things_22 : decode cX12_things 22 = .ok (.getfield 22, 3) := by decide +kernel
theorem dX12_things_25 : decode cX12_things 25 = .ok (.iload_n 1, 1) := by decide +kernel
theorem dX12_things_26 : decode cX12_things 26 = .ok (.iaload, 1) := by decide +kernel
theorem dX12_things_27 : decode cX12_things 27 = .ok (.iadd, 1) := by decide +kernel
theorem dX12_things_28 : decode cX12_things 28 = .ok (.goto 4, 3) := by decide +kernel
theorem dX12_things_31 : decode cX12_things 31 = .ok (.iconst 0, 1) := by decide +kernel
theorem dX12_things_32 : decode cX12_things 32 = .ok (.ireturn, 1) := by decide +kernel
theorem dX12_topBehind_0 : decode cX12_topBehind 0 = .ok (.iload_n 2, 1) := by decide +kernel
theorem dX12_topBehind_1 : decode cX12_topBehind 1 = .ok (.aload_n 0, 1) := by decide +kernel
theorem dX12_topBehind_2 : decode cX12_topBehind 2 = .ok (.getfield 19, 3) := by decide +kernel
theorem dX12_topBehind_5 : decode cX12_topBehind 5 = .ok (.iload_n 1, 1) := by decide +kernel
theorem dX12_topBehind_6 : decode cX12_topBehind 6 = .ok (.iaload, 1) := by decide +kernel
theorem dX12_topBehind_7 : decode cX12_topBehind 7 = .ok (.if_icmp .ge 7, 3) := by decide +kernel
theorem dX12_topBehind_10 : decode cX12_topBehind 10 = .ok (.iconst 2, 1) := by decide +kernel
theorem dX12_topBehind_11 : decode cX12_topBehind 11 = .ok (.goto 25, 3) := by decide +kernel
theorem dX12_topBehind_14 : decode cX12_topBehind 14 = .ok (.iload_n 2, 1) := by decide +kernel
theorem dX12_topBehind_15 : decode cX12_topBehind 15 = .ok (.aload_n 0, 1) := by decide +kernel
theorem dX12_topBehind_16 : decode cX12_topBehind 16 = .ok (.getfield 19, 3) := by decide +kernel
theorem dX12_topBehind_19 : decode cX12_topBehind 19 = .ok (.iload_n 1, 1) := by decide +kernel
theorem dX12_topBehind_20 : decode cX12_topBehind 20 = .ok (.iaload, 1) := by decide +kernel
theorem dX12_topBehind_21 : decode cX12_topBehind 21 = .ok (.aload_n 0, 1) := by decide +kernel
theorem dX12_topBehind_22 : decode cX12_topBehind 22 = .ok (.getfield 16, 3) := by decide +kernel
theorem dX12_topBehind_25 : decode cX12_topBehind 25 = .ok (.iload_n 1, 1) := by decide +kernel
theorem dX12_topBehind_26 : decode cX12_topBehind 26 = .ok (.iaload, 1) := by decide +kernel
theorem dX12_topBehind_27 : decode cX12_topBehind 27 = .ok (.iadd, 1) := by decide +kernel
theorem dX12_topBehind_28 : decode cX12_topBehind 28 = .ok (.if_icmp .ge 7, 3) := by decide +kernel
theorem dX12_topBehind_31 : decode cX12_topBehind 31 = .ok (.iconst 1, 1) := by decide +kernel
theorem dX12_topBehind_32 : decode cX12_topBehind 32 = .ok (.goto 4, 3) := by decide +kernel
theorem dX12_topBehind_35 : decode cX12_topBehind 35 = .ok (.iconst 3, 1) := by decide +kernel
theorem dX12_topBehind_36 : decode cX12_topBehind 36 = .ok (.ireturn, 1) := by decide +kernel
theorem dX12_slot_0 : decode cX12_slot 0 = .ok (.sipush 441, 3) := by decide +kernel
theorem dX12_slot_3 : decode cX12_slot 3 = .ok (.iload_n 0, 1) := by decide +kernel
theorem dX12_slot_4 : decode cX12_slot 4 = .ok (.imul, 1) := by decide +kernel
theorem dX12_slot_5 : decode cX12_slot 5 = .ok (.bipush 21, 2) := by decide +kernel
theorem dX12_slot_7 : decode cX12_slot 7 = .ok (.iload_n 1, 1) := by decide +kernel
theorem dX12_slot_8 : decode cX12_slot 8 = .ok (.imul, 1) := by decide +kernel
theorem dX12_slot_9 : decode cX12_slot 9 = .ok (.iadd, 1) := by decide +kernel
theorem dX12_slot_10 : decode cX12_slot 10 = .ok (.iload_n 2, 1) := by decide +kernel
theorem dX12_slot_11 : decode cX12_slot 11 = .ok (.iadd, 1) := by decide +kernel
theorem dX12_slot_12 : decode cX12_slot 12 = .ok (.ireturn, 1) := by decide +kernel
set_option maxRecDepth 20000 in
theorem ggX12_moreFrom_X12_topBehind : GoodIn wsX12_moreFrom wsX12_topBehind := goodIn_r _ [6, 7, 8, 17, 18, 19, 20, 21, 22, 23, 24, 25, 26, 27, 28, 29, 30, 31, 32, 33, 34, 35, 36, 37, 38, 39, 40, 41, 42, 43, 44, 45, 46, 47, 48, 49, 50, 51, 52, 53, 54] (by decide +kernel) (by decide +kernel)
set_option maxRecDepth 20000 in
theorem gX12_moreFrom_X12_topBehind : GoodIn wsX12_moreFrom (wsV RX12 199 RX12 yX12_topBehind wsX12_topBehind) := goodIn_app (goodIn_of _ (by decide +kernel)) ggX12_moreFrom_X12_topBehind
set_option maxRecDepth 20000 in
theorem ggX12_moreFrom_X12_slot : GoodIn wsX12_moreFrom wsX12_slot := goodIn_r _ [11] (by decide +kernel) (by decide +kernel)
set_option maxRecDepth 20000 in
theorem gX12_moreFrom_X12_slot : GoodIn wsX12_moreFrom (va_wsS RX12 202 yX12_slot wsX12_slot) := goodIn_app (goodIn_of _ (by decide +kernel)) ggX12_moreFrom_X12_slot
set_option maxRecDepth 20000 in
theorem ggX12_moreFrom_X12_worthOf : GoodIn wsX12_moreFrom wsX12_worthOf := goodIn_r _ [15, 16, 17, 18, 19, 20, 21, 22, 23, 24, 25, 26, 27, 28, 29, 30, 31, 32, 33, 34, 35, 36, 37, 38, 39, 40, 41, 42, 43, 44, 45, 46, 47, 48, 49, 50, 51, 52, 53, 54] (by decide +kernel) (by decide +kernel)
set_option maxRecDepth 20000 in
theorem gX12_moreFrom_X12_worthOf : GoodIn wsX12_moreFrom (wsV RX12 134 RX12 yX12_worthOf wsX12_worthOf) := goodIn_app (goodIn_of _ (by decide +kernel)) ggX12_moreFrom_X12_worthOf
theorem dX12_moreFrom_0 : decode cX12_moreFrom 0 = .ok (.iload 4, 2) := by decide +kernel
theorem dX12_moreFrom_2 : decode cX12_moreFrom 2 = .ok (.iload 5, 2) := by decide +kernel
theorem dX12_moreFrom_4 : decode cX12_moreFrom 4 = .ok (.iadd, 1) := by decide +kernel
theorem dX12_moreFrom_5 : decode cX12_moreFrom 5 = .ok (.iload 6, 2) := by decide +kernel
theorem dX12_moreFrom_7 : decode cX12_moreFrom 7 = .ok (.iadd, 1) := by decide +kernel
theorem dX12_moreFrom_8 : decode cX12_moreFrom 8 = .ok (.iconst 2, 1) := by decide +kernel
theorem dX12_moreFrom_9 : decode cX12_moreFrom 9 = .ok (.irem, 1) := by decide +kernel
theorem dX12_moreFrom_10 : decode cX12_moreFrom 10 = .ok (.ifCond .ne 7, 3) := by decide +kernel
theorem dX12_moreFrom_13 : decode cX12_moreFrom 13 = .ok (.iconst 1, 1) := by decide +kernel
theorem dX12_moreFrom_14 : decode cX12_moreFrom 14 = .ok (.goto 4, 3) := by decide +kernel
theorem dX12_moreFrom_17 : decode cX12_moreFrom 17 = .ok (.iconst 0, 1) := by decide +kernel
theorem dX12_moreFrom_18 : decode cX12_moreFrom 18 = .ok (.istore 7, 2) := by decide +kernel
theorem dX12_moreFrom_20 : decode cX12_moreFrom 20 = .ok (.aload_n 0, 1) := by decide +kernel
theorem dX12_moreFrom_21 : decode cX12_moreFrom 21 = .ok (.iload_n 3, 1) := by decide +kernel
theorem dX12_moreFrom_22 : decode cX12_moreFrom 22 = .ok (.iload_n 3, 1) := by decide +kernel
theorem dX12_moreFrom_23 : decode cX12_moreFrom 23 = .ok (.ifCond .ne 8, 3) := by decide +kernel
theorem dX12_moreFrom_26 : decode cX12_moreFrom 26 = .ok (.iload 4, 2) := by decide +kernel
theorem dX12_moreFrom_28 : decode cX12_moreFrom 28 = .ok (.goto 15, 3) := by decide +kernel
theorem dX12_moreFrom_31 : decode cX12_moreFrom 31 = .ok (.iload_n 3, 1) := by decide +kernel
theorem dX12_moreFrom_32 : decode cX12_moreFrom 32 = .ok (.iconst 1, 1) := by decide +kernel
theorem dX12_moreFrom_33 : decode cX12_moreFrom 33 = .ok (.if_icmp .ne 8, 3) := by decide +kernel
theorem dX12_moreFrom_36 : decode cX12_moreFrom 36 = .ok (.iload 5, 2) := by decide +kernel
theorem dX12_moreFrom_38 : decode cX12_moreFrom 38 = .ok (.goto 5, 3) := by decide +kernel
theorem dX12_moreFrom_41 : decode cX12_moreFrom 41 = .ok (.iload 6, 2) := by decide +kernel
theorem dX12_moreFrom_43 : decode cX12_moreFrom 43 = .ok (.invokevirtual 199, 3) := by decide +kernel
theorem dX12_moreFrom_46 : decode cX12_moreFrom 46 = .ok (.istore 8, 2) := by decide +kernel
theorem dX12_moreFrom_48 : decode cX12_moreFrom 48 = .ok (.aload_n 0, 1) := by decide +kernel
theorem dX12_moreFrom_49 : decode cX12_moreFrom 49 = .ok (.getfield 56, 3) := by decide +kernel
theorem dX12_moreFrom_52 : decode cX12_moreFrom 52 = .ok (.iload_n 3, 1) := by decide +kernel
theorem dX12_moreFrom_53 : decode cX12_moreFrom 53 = .ok (.ifCond .ne 10, 3) := by decide +kernel
theorem dX12_moreFrom_56 : decode cX12_moreFrom 56 = .ok (.iload 4, 2) := by decide +kernel
theorem dX12_moreFrom_58 : decode cX12_moreFrom 58 = .ok (.iconst 1, 1) := by decide +kernel
theorem dX12_moreFrom_59 : decode cX12_moreFrom 59 = .ok (.iadd, 1) := by decide +kernel
theorem dX12_moreFrom_60 : decode cX12_moreFrom 60 = .ok (.goto 5, 3) := by decide +kernel
theorem dX12_moreFrom_63 : decode cX12_moreFrom 63 = .ok (.iload 4, 2) := by decide +kernel
theorem dX12_moreFrom_65 : decode cX12_moreFrom 65 = .ok (.iload_n 3, 1) := by decide +kernel
theorem dX12_moreFrom_66 : decode cX12_moreFrom 66 = .ok (.iconst 1, 1) := by decide +kernel
theorem dX12_moreFrom_67 : decode cX12_moreFrom 67 = .ok (.if_icmp .ne 10, 3) := by decide +kernel
theorem dX12_moreFrom_70 : decode cX12_moreFrom 70 = .ok (.iload 5, 2) := by decide +kernel
theorem dX12_moreFrom_72 : decode cX12_moreFrom 72 = .ok (.iconst 1, 1) := by decide +kernel
theorem dX12_moreFrom_73 : decode cX12_moreFrom 73 = .ok (.iadd, 1) := by decide +kernel
theorem dX12_moreFrom_74 : decode cX12_moreFrom 74 = .ok (.goto 5, 3) := by decide +kernel
theorem dX12_moreFrom_77 : decode cX12_moreFrom 77 = .ok (.iload 5, 2) := by decide +kernel
theorem dX12_moreFrom_79 : decode cX12_moreFrom 79 = .ok (.iload_n 3, 1) := by decide +kernel
theorem dX12_moreFrom_80 : decode cX12_moreFrom 80 = .ok (.iconst 2, 1) := by decide +kernel
theorem dX12_moreFrom_81 : decode cX12_moreFrom 81 = .ok (.if_icmp .ne 10, 3) := by decide +kernel
theorem dX12_moreFrom_84 : decode cX12_moreFrom 84 = .ok (.iload 6, 2) := by decide +kernel
theorem dX12_moreFrom_86 : decode cX12_moreFrom 86 = .ok (.iconst 1, 1) := by decide +kernel
theorem dX12_moreFrom_87 : decode cX12_moreFrom 87 = .ok (.iadd, 1) := by decide +kernel
theorem dX12_moreFrom_88 : decode cX12_moreFrom 88 = .ok (.goto 5, 3) := by decide +kernel
theorem dX12_moreFrom_91 : decode cX12_moreFrom 91 = .ok (.iload 6, 2) := by decide +kernel
theorem dX12_moreFrom_93 : decode cX12_moreFrom 93 = .ok (.invokestatic 202, 3) := by decide +kernel
theorem dX12_moreFrom_96 : decode cX12_moreFrom 96 = .ok (.iaload, 1) := by decide +kernel
theorem dX12_moreFrom_97 : decode cX12_moreFrom 97 = .ok (.istore 9, 2) := by decide +kernel
theorem dX12_moreFrom_99 : decode cX12_moreFrom 99 = .ok (.iload 9, 2) := by decide +kernel
theorem dX12_moreFrom_101 : decode cX12_moreFrom 101 = .ok (.iload 7, 2) := by decide +kernel
theorem dX12_moreFrom_103 : decode cX12_moreFrom 103 = .ok (.ifCond .eq 13, 3) := by decide +kernel
theorem dX12_moreFrom_106 : decode cX12_moreFrom 106 = .ok (.aload_n 0, 1) := by decide +kernel
theorem dX12_moreFrom_107 : decode cX12_moreFrom 107 = .ok (.iload_n 1, 1) := by decide +kernel
theorem dX12_moreFrom_108 : decode cX12_moreFrom 108 = .ok (.iload 8, 2) := by decide +kernel
theorem dX12_moreFrom_110 : decode cX12_moreFrom 110 = .ok (.invokevirtual 134, 3) := by decide +kernel
theorem dX12_moreFrom_113 : decode cX12_moreFrom 113 = .ok (.goto 11, 3) := by decide +kernel
theorem dX12_moreFrom_116 : decode cX12_moreFrom 116 = .ok (.aload_n 0, 1) := by decide +kernel
theorem dX12_moreFrom_117 : decode cX12_moreFrom 117 = .ok (.iload_n 2, 1) := by decide +kernel
theorem dX12_moreFrom_118 : decode cX12_moreFrom 118 = .ok (.iload 8, 2) := by decide +kernel
theorem dX12_moreFrom_120 : decode cX12_moreFrom 120 = .ok (.invokevirtual 134, 3) := by decide +kernel
theorem dX12_moreFrom_123 : decode cX12_moreFrom 123 = .ok (.ineg, 1) := by decide +kernel
theorem dX12_moreFrom_124 : decode cX12_moreFrom 124 = .ok (.iadd, 1) := by decide +kernel
theorem dX12_moreFrom_125 : decode cX12_moreFrom 125 = .ok (.ireturn, 1) := by decide +kernel
set_option maxRecDepth 20000 in
theorem ggX12_isLeft_X12_things : GoodIn wsX12_isLeft wsX12_things := goodIn_r _ [5, 6, 7, 8, 9, 10, 11, 12, 13, 14, 15, 16, 17, 18, 19, 20, 21, 22, 23, 24, 25, 26, 27, 28, 29, 30, 31, 32, 33, 34, 35, 36, 37, 38, 39, 40, 41, 42, 43, 44, 45, 46, 47] (by decide +kernel) (by decide +kernel)
set_option maxRecDepth 20000 in
theorem gX12_isLeft_X12_things : GoodIn wsX12_isLeft (wsV RX12 205 RX12 yX12_things wsX12_things) := goodIn_app (goodIn_of _ (by decide +kernel)) ggX12_isLeft_X12_things
theorem dX12_isLeft_0 : decode cX12_isLeft 0 = .ok (.iload_n 1, 1) := by decide +kernel
theorem dX12_isLeft_1 : decode cX12_isLeft 1 = .ok (.ifCond .ne 7, 3) := by decide +kernel
theorem dX12_isLeft_4 : decode cX12_isLeft 4 = .ok (.iload_n 2, 1) := by decide +kernel
theorem dX12_isLeft_5 : decode cX12_isLeft 5 = .ok (.goto 14, 3) := by decide +kernel
theorem dX12_isLeft_8 : decode cX12_isLeft 8 = .ok (.iload_n 1, 1) := by decide +kernel
theorem dX12_isLeft_9 : decode cX12_isLeft 9 = .ok (.iconst 1, 1) := by decide +kernel
theorem dX12_isLeft_10 : decode cX12_isLeft 10 = .ok (.if_icmp .ne 7, 3) := by decide +kernel
theorem dX12_isLeft_13 : decode cX12_isLeft 13 = .ok (.iload_n 3, 1) := by decide +kernel
theorem dX12_isLeft_14 : decode cX12_isLeft 14 = .ok (.goto 5, 3) := by decide +kernel
theorem dX12_isLeft_17 : decode cX12_isLeft 17 = .ok (.iload 4, 2) := by decide +kernel
theorem dX12_isLeft_19 : decode cX12_isLeft 19 = .ok (.aload_n 0, 1) := by decide +kernel
theorem dX12_isLeft_20 : decode cX12_isLeft 20 = .ok (.iload_n 1, 1) := by decide +kernel
theorem dX12_isLeft_21 : decode cX12_isLeft 21 = .ok (.invokevirtual 205, 3) := by decide +kernel
theorem dX12_isLeft_24 : decode cX12_isLeft 24 = .ok (.if_icmp .ge 7, 3) := by decide +kernel
theorem dX12_isLeft_27 : decode cX12_isLeft 27 = .ok (.iconst 1, 1) := by decide +kernel
theorem dX12_isLeft_28 : decode cX12_isLeft 28 = .ok (.goto 4, 3) := by decide +kernel
theorem dX12_isLeft_31 : decode cX12_isLeft 31 = .ok (.iconst 0, 1) := by decide +kernel
theorem dX12_isLeft_32 : decode cX12_isLeft 32 = .ok (.ireturn, 1) := by decide +kernel
set_option maxRecDepth 20000 in
theorem ggX12_bestFrom_X12_isLeft : GoodIn wsX12_bestFrom wsX12_isLeft := goodIn_r _ [8, 9, 10, 11, 7, 12, 3, 13, 14, 15, 33, 34, 35, 36, 37, 38, 39, 40, 41, 42, 43, 44, 45, 46, 47, 48, 49, 50, 51, 52, 53, 54, 55, 56, 57, 58, 59, 60, 61, 62, 63, 64, 65, 66, 67, 68, 69, 70] (by decide +kernel) (by decide +kernel)
set_option maxRecDepth 20000 in
theorem gX12_bestFrom_X12_isLeft : GoodIn wsX12_bestFrom (wsV RX12 210 RX12 yX12_isLeft wsX12_isLeft) := goodIn_app (goodIn_of _ (by decide +kernel)) ggX12_bestFrom_X12_isLeft
set_option maxRecDepth 20000 in
theorem ggX12_bestFrom_X12_moreFrom : GoodIn wsX12_bestFrom wsX12_moreFrom := goodIn_r _ [19, 20, 21, 22, 23, 7, 24, 13, 14, 25, 26, 27, 28, 29, 30, 31, 32, 33, 34, 35, 36, 37, 38, 39, 40, 41, 42, 43, 44, 45, 46, 47, 48, 49, 50, 51, 52, 53, 54, 55, 56, 57, 58, 59, 60, 61, 62, 63, 64, 65, 66, 67, 68, 69, 70] (by decide +kernel) (by decide +kernel)
set_option maxRecDepth 20000 in
theorem gX12_bestFrom_X12_moreFrom : GoodIn wsX12_bestFrom (wsV RX12 214 RX12 yX12_moreFrom wsX12_moreFrom) := goodIn_app (goodIn_of _ (by decide +kernel)) ggX12_bestFrom_X12_moreFrom
theorem dX12_bestFrom_0 : decode cX12_bestFrom 0 = .ok (.iload_n 3, 1) := by decide +kernel
theorem dX12_bestFrom_1 : decode cX12_bestFrom 1 = .ok (.iload 4, 2) := by decide +kernel
theorem dX12_bestFrom_3 : decode cX12_bestFrom 3 = .ok (.iadd, 1) := by decide +kernel
theorem dX12_bestFrom_4 : decode cX12_bestFrom 4 = .ok (.iload 5, 2) := by decide +kernel
theorem dX12_bestFrom_6 : decode cX12_bestFrom 6 = .ok (.iadd, 1) := by decide +kernel
theorem dX12_bestFrom_7 : decode cX12_bestFrom 7 = .ok (.iconst 2, 1) := by decide +kernel
theorem dX12_bestFrom_8 : decode cX12_bestFrom 8 = .ok (.irem, 1) := by decide +kernel
theorem dX12_bestFrom_9 : decode cX12_bestFrom 9 = .ok (.ifCond .ne 7, 3) := by decide +kernel
theorem dX12_bestFrom_12 : decode cX12_bestFrom 12 = .ok (.iconst 1, 1) := by decide +kernel
theorem dX12_bestFrom_13 : decode cX12_bestFrom 13 = .ok (.goto 4, 3) := by decide +kernel
theorem dX12_bestFrom_16 : decode cX12_bestFrom 16 = .ok (.iconst 0, 1) := by decide +kernel
theorem dX12_bestFrom_17 : decode cX12_bestFrom 17 = .ok (.istore 6, 2) := by decide +kernel
theorem dX12_bestFrom_19 : decode cX12_bestFrom 19 = .ok (.iload 6, 2) := by decide +kernel
theorem dX12_bestFrom_21 : decode cX12_bestFrom 21 = .ok (.ifCond .eq 8, 3) := by decide +kernel
theorem dX12_bestFrom_24 : decode cX12_bestFrom 24 = .ok (.ldc 208, 2) := by decide +kernel
theorem dX12_bestFrom_26 : decode cX12_bestFrom 26 = .ok (.goto 5, 3) := by decide +kernel
theorem dX12_bestFrom_29 : decode cX12_bestFrom 29 = .ok (.ldc 209, 2) := by decide +kernel
theorem dX12_bestFrom_31 : decode cX12_bestFrom 31 = .ok (.istore 7, 2) := by decide +kernel
theorem dX12_bestFrom_33 : decode cX12_bestFrom 33 = .ok (.iconst 0, 1) := by decide +kernel
theorem dX12_bestFrom_34 : decode cX12_bestFrom 34 = .ok (.istore 8, 2) := by decide +kernel
theorem dX12_bestFrom_36 : decode cX12_bestFrom 36 = .ok (.iconst 0, 1) := by decide +kernel
theorem dX12_bestFrom_37 : decode cX12_bestFrom 37 = .ok (.istore 9, 2) := by decide +kernel
theorem dX12_bestFrom_39 : decode cX12_bestFrom 39 = .ok (.iload 9, 2) := by decide +kernel
theorem dX12_bestFrom_41 : decode cX12_bestFrom 41 = .ok (.aload_n 0, 1) := by decide +kernel
theorem dX12_bestFrom_42 : decode cX12_bestFrom 42 = .ok (.getfield 119, 3) := by decide +kernel
theorem dX12_bestFrom_45 : decode cX12_bestFrom 45 = .ok (.if_icmp .ge 74, 3) := by decide +kernel
theorem dX12_bestFrom_48 : decode cX12_bestFrom 48 = .ok (.aload_n 0, 1) := by decide +kernel
theorem dX12_bestFrom_49 : decode cX12_bestFrom 49 = .ok (.iload 9, 2) := by decide +kernel
theorem dX12_bestFrom_51 : decode cX12_bestFrom 51 = .ok (.iload_n 3, 1) := by decide +kernel
theorem dX12_bestFrom_52 : decode cX12_bestFrom 52 = .ok (.iload 4, 2) := by decide +kernel
theorem dX12_bestFrom_54 : decode cX12_bestFrom 54 = .ok (.iload 5, 2) := by decide +kernel
theorem dX12_bestFrom_56 : decode cX12_bestFrom 56 = .ok (.invokevirtual 210, 3) := by decide +kernel
theorem dX12_bestFrom_59 : decode cX12_bestFrom 59 = .ok (.ifCond .eq 54, 3) := by decide +kernel
theorem dX12_bestFrom_62 : decode cX12_bestFrom 62 = .ok (.aload_n 0, 1) := by decide +kernel
theorem dX12_bestFrom_63 : decode cX12_bestFrom 63 = .ok (.iload_n 1, 1) := by decide +kernel
theorem dX12_bestFrom_64 : decode cX12_bestFrom 64 = .ok (.iload_n 2, 1) := by decide +kernel
theorem dX12_bestFrom_65 : decode cX12_bestFrom 65 = .ok (.iload 9, 2) := by decide +kernel
theorem dX12_bestFrom_67 : decode cX12_bestFrom 67 = .ok (.iload_n 3, 1) := by decide +kernel
theorem dX12_bestFrom_68 : decode cX12_bestFrom 68 = .ok (.iload 4, 2) := by decide +kernel
theorem dX12_bestFrom_70 : decode cX12_bestFrom 70 = .ok (.iload 5, 2) := by decide +kernel
theorem dX12_bestFrom_72 : decode cX12_bestFrom 72 = .ok (.invokevirtual 214, 3) := by decide +kernel
theorem dX12_bestFrom_75 : decode cX12_bestFrom 75 = .ok (.istore 10, 2) := by decide +kernel
theorem dX12_bestFrom_77 : decode cX12_bestFrom 77 = .ok (.iload 6, 2) := by decide +kernel
theorem dX12_bestFrom_79 : decode cX12_bestFrom 79 = .ok (.iload 10, 2) := by decide +kernel
theorem dX12_bestFrom_81 : decode cX12_bestFrom 81 = .ok (.iload 7, 2) := by decide +kernel
theorem dX12_bestFrom_83 : decode cX12_bestFrom 83 = .ok (.if_icmp .le 7, 3) := by decide +kernel
theorem dX12_bestFrom_86 : decode cX12_bestFrom 86 = .ok (.iconst 1, 1) := by decide +kernel
theorem dX12_bestFrom_87 : decode cX12_bestFrom 87 = .ok (.goto 4, 3) := by decide +kernel
theorem dX12_bestFrom_90 : decode cX12_bestFrom 90 = .ok (.iconst 0, 1) := by decide +kernel
theorem dX12_bestFrom_91 : decode cX12_bestFrom 91 = .ok (.if_icmp .ne 15, 3) := by decide +kernel
theorem dX12_bestFrom_94 : decode cX12_bestFrom 94 = .ok (.iload 10, 2) := by decide +kernel
theorem dX12_bestFrom_96 : decode cX12_bestFrom 96 = .ok (.iload 7, 2) := by decide +kernel
theorem dX12_bestFrom_98 : decode cX12_bestFrom 98 = .ok (.if_icmp .eq 8, 3) := by decide +kernel
theorem dX12_bestFrom_101 : decode cX12_bestFrom 101 = .ok (.iload 10, 2) := by decide +kernel
theorem dX12_bestFrom_103 : decode cX12_bestFrom 103 = .ok (.goto 5, 3) := by decide +kernel
theorem dX12_bestFrom_106 : decode cX12_bestFrom 106 = .ok (.iload 7, 2) := by decide +kernel
theorem dX12_bestFrom_108 : decode cX12_bestFrom 108 = .ok (.istore 7, 2) := by decide +kernel
theorem dX12_bestFrom_110 : decode cX12_bestFrom 110 = .ok (.iconst 1, 1) := by decide +kernel
theorem dX12_bestFrom_111 : decode cX12_bestFrom 111 = .ok (.istore 8, 2) := by decide +kernel
theorem dX12_bestFrom_113 : decode cX12_bestFrom 113 = .ok (.iinc 9 1, 3) := by decide +kernel
theorem dX12_bestFrom_116 : decode cX12_bestFrom 116 = .ok (.goto (-77), 3) := by decide +kernel
theorem dX12_bestFrom_119 : decode cX12_bestFrom 119 = .ok (.iload 8, 2) := by decide +kernel
theorem dX12_bestFrom_121 : decode cX12_bestFrom 121 = .ok (.ifCond .eq 8, 3) := by decide +kernel
theorem dX12_bestFrom_124 : decode cX12_bestFrom 124 = .ok (.iload 7, 2) := by decide +kernel
theorem dX12_bestFrom_126 : decode cX12_bestFrom 126 = .ok (.goto 4, 3) := by decide +kernel
theorem dX12_bestFrom_129 : decode cX12_bestFrom 129 = .ok (.iconst 0, 1) := by decide +kernel
theorem dX12_bestFrom_130 : decode cX12_bestFrom 130 = .ok (.ireturn, 1) := by decide +kernel
set_option maxRecDepth 20000 in
theorem ggX12_layTreaty_X12_things : GoodIn wsX12_layTreaty wsX12_things := goodIn_r _ [6, 7, 8, 9, 10, 37, 38, 39, 40, 41, 42, 43, 44, 45, 46, 47, 48, 49, 50, 51, 52, 53, 54, 55, 56, 57, 58, 59, 60, 61, 62, 63, 64, 65, 66, 67, 68, 69, 70, 71, 72, 73, 74] (by decide +kernel) (by decide +kernel)
set_option maxRecDepth 20000 in
theorem gX12_layTreaty_X12_things : GoodIn wsX12_layTreaty (wsV RX12 205 RX12 yX12_things wsX12_things) := goodIn_app (goodIn_of _ (by decide +kernel)) ggX12_layTreaty_X12_things
set_option maxRecDepth 20000 in
theorem ggX12_layTreaty_X12_slot : GoodIn wsX12_layTreaty wsX12_slot := goodIn_r _ [13] (by decide +kernel) (by decide +kernel)
set_option maxRecDepth 20000 in
theorem gX12_layTreaty_X12_slot : GoodIn wsX12_layTreaty (va_wsS RX12 202 yX12_slot wsX12_slot) := goodIn_app (goodIn_of _ (by decide +kernel)) ggX12_layTreaty_X12_slot
set_option maxRecDepth 20000 in
theorem ggX12_layTreaty_X12_bestFrom : GoodIn wsX12_layTreaty wsX12_bestFrom := goodIn_r _ [17, 18, 19, 7, 20, 21, 22, 5, 23, 2, 3, 4, 6, 8, 9, 10, 24, 25, 26, 27, 1, 28, 29, 30, 31, 11, 12, 13, 32, 33, 34, 35, 36, 37, 38, 39, 40, 41, 42, 43, 44, 45, 46, 47, 48, 49, 50, 51, 52, 53, 54, 55, 56, 57, 58, 59, 60, 61, 62, 63, 64, 65, 66, 67, 68, 69, 70, 71, 72, 73, 74] (by decide +kernel) (by decide +kernel)
set_option maxRecDepth 20000 in
theorem gX12_layTreaty_X12_bestFrom : GoodIn wsX12_layTreaty (wsV RX12 218 RX12 yX12_bestFrom wsX12_bestFrom) := goodIn_app (goodIn_of _ (by decide +kernel)) ggX12_layTreaty_X12_bestFrom
theorem dX12_layTreaty_0 : decode cX12_layTreaty 0 = .ok (.aload_n 0, 1) := by decide +kernel
theorem dX12_layTreaty_1 : decode cX12_layTreaty 1 = .ok (.iconst 0, 1) := by decide +kernel
theorem dX12_layTreaty_2 : decode cX12_layTreaty 2 = .ok (.invokevirtual 205, 3) := by decide +kernel
theorem dX12_layTreaty_5 : decode cX12_layTreaty 5 = .ok (.istore_n 3, 1) := by decide +kernel
theorem dX12_layTreaty_6 : decode cX12_layTreaty 6 = .ok (.iload_n 3, 1) := by decide +kernel
theorem dX12_layTreaty_7 : decode cX12_layTreaty 7 = .ok (.ifCond .lt 69, 3) := by decide +kernel
theorem dX12_layTreaty_10 : decode cX12_layTreaty 10 = .ok (.aload_n 0, 1) := by decide +kernel
theorem dX12_layTreaty_11 : decode cX12_layTreaty 11 = .ok (.iconst 1, 1) := by decide +kernel
theorem dX12_layTreaty_12 : decode cX12_layTreaty 12 = .ok (.invokevirtual 205, 3) := by decide +kernel
theorem dX12_layTreaty_15 : decode cX12_layTreaty 15 = .ok (.istore 4, 2) := by decide +kernel
theorem dX12_layTreaty_17 : decode cX12_layTreaty 17 = .ok (.iload 4, 2) := by decide +kernel
theorem dX12_layTreaty_19 : decode cX12_layTreaty 19 = .ok (.ifCond .lt 51, 3) := by decide +kernel
theorem dX12_layTreaty_22 : decode cX12_layTreaty 22 = .ok (.aload_n 0, 1) := by decide +kernel
theorem dX12_layTreaty_23 : decode cX12_layTreaty 23 = .ok (.iconst 2, 1) := by decide +kernel
theorem dX12_layTreaty_24 : decode cX12_layTreaty 24 = .ok (.invokevirtual 205, 3) := by decide +kernel
theorem dX12_layTreaty_27 : decode cX12_layTreaty 27 = .ok (.istore 5, 2) := by decide +kernel
theorem dX12_layTreaty_29 : decode cX12_layTreaty 29 = .ok (.iload 5, 2) := by decide +kernel
theorem dX12_layTreaty_31 : decode cX12_layTreaty 31 = .ok (.ifCond .lt 33, 3) := by decide +kernel
theorem dX12_layTreaty_34 : decode cX12_layTreaty 34 = .ok (.aload_n 0, 1) := by decide +kernel
theorem dX12_layTreaty_35 : decode cX12_layTreaty 35 = .ok (.getfield 56, 3) := by decide +kernel
theorem dX12_layTreaty_38 : decode cX12_layTreaty 38 = .ok (.iload_n 3, 1) := by decide +kernel
theorem dX12_layTreaty_39 : decode cX12_layTreaty 39 = .ok (.iload 4, 2) := by decide +kernel
theorem dX12_layTreaty_41 : decode cX12_layTreaty 41 = .ok (.iload 5, 2) := by decide +kernel
theorem dX12_layTreaty_43 : decode cX12_layTreaty 43 = .ok (.invokestatic 202, 3) := by decide +kernel
theorem dX12_layTreaty_46 : decode cX12_layTreaty 46 = .ok (.aload_n 0, 1) := by decide +kernel
theorem dX12_layTreaty_47 : decode cX12_layTreaty 47 = .ok (.iload_n 1, 1) := by decide +kernel
theorem dX12_layTreaty_48 : decode cX12_layTreaty 48 = .ok (.iload_n 2, 1) := by decide +kernel
theorem dX12_layTreaty_49 : decode cX12_layTreaty 49 = .ok (.iload_n 3, 1) := by decide +kernel
theorem dX12_layTreaty_50 : decode cX12_layTreaty 50 = .ok (.iload 4, 2) := by decide +kernel
theorem dX12_layTreaty_52 : decode cX12_layTreaty 52 = .ok (.iload 5, 2) := by decide +kernel
theorem dX12_layTreaty_54 : decode cX12_layTreaty 54 = .ok (.invokevirtual 218, 3) := by decide +kernel
theorem dX12_layTreaty_57 : decode cX12_layTreaty 57 = .ok (.iastore, 1) := by decide +kernel
theorem dX12_layTreaty_58 : decode cX12_layTreaty 58 = .ok (.iinc 5 (-1), 3) := by decide +kernel
theorem dX12_layTreaty_61 : decode cX12_layTreaty 61 = .ok (.goto (-32), 3) := by decide +kernel
theorem dX12_layTreaty_64 : decode cX12_layTreaty 64 = .ok (.iinc 4 (-1), 3) := by decide +kernel
theorem dX12_layTreaty_67 : decode cX12_layTreaty 67 = .ok (.goto (-50), 3) := by decide +kernel
theorem dX12_layTreaty_70 : decode cX12_layTreaty 70 = .ok (.iinc 3 (-1), 3) := by decide +kernel
theorem dX12_layTreaty_73 : decode cX12_layTreaty 73 = .ok (.goto (-67), 3) := by decide +kernel
theorem dX12_layTreaty_76 : decode cX12_layTreaty 76 = .ok (.return_, 1) := by decide +kernel
set_option maxRecDepth 20000 in
theorem ggX12_treatyNow_X12_layTreaty : GoodIn wsX12_treatyNow wsX12_layTreaty := goodIn_r _ [7, 1, 8, 9, 10, 6, 11, 2, 12, 13, 14, 15, 16, 17, 18, 19, 20, 21, 22, 23, 24, 25, 26, 27, 28, 29, 30, 31, 32, 33, 34, 35, 36, 37, 38, 39, 40, 41, 42, 43, 44, 45, 46, 47, 48, 49, 50, 51, 52, 53, 54, 55, 56, 57, 58, 59, 60, 61, 62, 63, 64, 65, 66, 67, 68, 69, 70, 71, 72, 73, 74, 75, 76, 77, 78] (by decide +kernel) (by decide +kernel)
set_option maxRecDepth 20000 in
theorem gX12_treatyNow_X12_layTreaty : GoodIn wsX12_treatyNow (wsV RX12 222 RX12 yX12_layTreaty wsX12_layTreaty) := goodIn_app (goodIn_of _ (by decide +kernel)) ggX12_treatyNow_X12_layTreaty
set_option maxRecDepth 20000 in
theorem ggX12_treatyNow_X12_isLeft : GoodIn wsX12_treatyNow wsX12_isLeft := goodIn_r _ [27, 8, 9, 10, 6, 11, 2, 12, 13, 14, 41, 42, 43, 44, 45, 46, 47, 48, 49, 50, 51, 52, 53, 54, 55, 56, 57, 58, 59, 60, 61, 62, 63, 64, 65, 66, 67, 68, 69, 70, 71, 72, 73, 74, 75, 76, 77, 78] (by decide +kernel) (by decide +kernel)
set_option maxRecDepth 20000 in
theorem gX12_treatyNow_X12_isLeft : GoodIn wsX12_treatyNow (wsV RX12 210 RX12 yX12_isLeft wsX12_isLeft) := goodIn_app (goodIn_of _ (by decide +kernel)) ggX12_treatyNow_X12_isLeft
set_option maxRecDepth 20000 in
theorem ggX12_treatyNow_X12_moreFrom : GoodIn wsX12_treatyNow wsX12_moreFrom := goodIn_r _ [31, 1, 32, 33, 34, 6, 35, 12, 13, 15, 16, 17, 36, 37, 38, 39, 40, 41, 42, 43, 44, 45, 46, 47, 48, 49, 50, 51, 52, 53, 54, 55, 56, 57, 58, 59, 60, 61, 62, 63, 64, 65, 66, 67, 68, 69, 70, 71, 72, 73, 74, 75, 76, 77, 78] (by decide +kernel) (by decide +kernel)
set_option maxRecDepth 20000 in
theorem gX12_treatyNow_X12_moreFrom : GoodIn wsX12_treatyNow (wsV RX12 214 RX12 yX12_moreFrom wsX12_moreFrom) := goodIn_app (goodIn_of _ (by decide +kernel)) ggX12_treatyNow_X12_moreFrom
theorem dX12_treatyNow_0 : decode cX12_treatyNow 0 = .ok (.aload_n 0, 1) := by decide +kernel
theorem dX12_treatyNow_1 : decode cX12_treatyNow 1 = .ok (.iload_n 1, 1) := by decide +kernel
theorem dX12_treatyNow_2 : decode cX12_treatyNow 2 = .ok (.iload_n 2, 1) := by decide +kernel
theorem dX12_treatyNow_3 : decode cX12_treatyNow 3 = .ok (.invokevirtual 222, 3) := by decide +kernel
theorem dX12_treatyNow_6 : decode cX12_treatyNow 6 = .ok (.iload_n 3, 1) := by decide +kernel
theorem dX12_treatyNow_7 : decode cX12_treatyNow 7 = .ok (.ifCond .ne 14, 3) := by decide +kernel
theorem dX12_treatyNow_10 : decode cX12_treatyNow 10 = .ok (.aload_n 0, 1) := by decide +kernel
theorem dX12_treatyNow_11 : decode cX12_treatyNow 11 = .ok (.getfield 56, 3) := by decide +kernel
theorem dX12_treatyNow_14 : decode cX12_treatyNow 14 = .ok (.iconst 0, 1) := by decide +kernel
theorem dX12_treatyNow_15 : decode cX12_treatyNow 15 = .ok (.iaload, 1) := by decide +kernel
theorem dX12_treatyNow_16 : decode cX12_treatyNow 16 = .ok (.sipush 1000, 3) := by decide +kernel
theorem dX12_treatyNow_19 : decode cX12_treatyNow 19 = .ok (.iadd, 1) := by decide +kernel
theorem dX12_treatyNow_20 : decode cX12_treatyNow 20 = .ok (.ireturn, 1) := by decide +kernel
theorem dX12_treatyNow_21 : decode cX12_treatyNow 21 = .ok (.iconst (-1), 1) := by decide +kernel
theorem dX12_treatyNow_22 : decode cX12_treatyNow 22 = .ok (.istore 4, 2) := by decide +kernel
theorem dX12_treatyNow_24 : decode cX12_treatyNow 24 = .ok (.aload_n 0, 1) := by decide +kernel
theorem dX12_treatyNow_25 : decode cX12_treatyNow 25 = .ok (.getfield 119, 3) := by decide +kernel
theorem dX12_treatyNow_28 : decode cX12_treatyNow 28 = .ok (.iconst 1, 1) := by decide +kernel
theorem dX12_treatyNow_29 : decode cX12_treatyNow 29 = .ok (.isub, 1) := by decide +kernel
theorem dX12_treatyNow_30 : decode cX12_treatyNow 30 = .ok (.istore 5, 2) := by decide +kernel
theorem dX12_treatyNow_32 : decode cX12_treatyNow 32 = .ok (.iload 5, 2) := by decide +kernel
theorem dX12_treatyNow_34 : decode cX12_treatyNow 34 = .ok (.ifCond .lt 50, 3) := by decide +kernel
theorem dX12_treatyNow_37 : decode cX12_treatyNow 37 = .ok (.aload_n 0, 1) := by decide +kernel
theorem dX12_treatyNow_38 : decode cX12_treatyNow 38 = .ok (.iload 5, 2) := by decide +kernel
theorem dX12_treatyNow_40 : decode cX12_treatyNow 40 = .ok (.iconst 0, 1) := by decide +kernel
theorem dX12_treatyNow_41 : decode cX12_treatyNow 41 = .ok (.iconst 0, 1) := by decide +kernel
theorem dX12_treatyNow_42 : decode cX12_treatyNow 42 = .ok (.iconst 0, 1) := by decide +kernel
theorem dX12_treatyNow_43 : decode cX12_treatyNow 43 = .ok (.invokevirtual 210, 3) := by decide +kernel
theorem dX12_treatyNow_46 : decode cX12_treatyNow 46 = .ok (.ifCond .eq 28, 3) := by decide +kernel
theorem dX12_treatyNow_49 : decode cX12_treatyNow 49 = .ok (.aload_n 0, 1) := by decide +kernel
theorem dX12_treatyNow_50 : decode cX12_treatyNow 50 = .ok (.iload_n 1, 1) := by decide +kernel
theorem dX12_treatyNow_51 : decode cX12_treatyNow 51 = .ok (.iload_n 2, 1) := by decide +kernel
theorem dX12_treatyNow_52 : decode cX12_treatyNow 52 = .ok (.iload 5, 2) := by decide +kernel
theorem dX12_treatyNow_54 : decode cX12_treatyNow 54 = .ok (.iconst 0, 1) := by decide +kernel
theorem dX12_treatyNow_55 : decode cX12_treatyNow 55 = .ok (.iconst 0, 1) := by decide +kernel
theorem dX12_treatyNow_56 : decode cX12_treatyNow 56 = .ok (.iconst 0, 1) := by decide +kernel
theorem dX12_treatyNow_57 : decode cX12_treatyNow 57 = .ok (.invokevirtual 214, 3) := by decide +kernel
theorem dX12_treatyNow_60 : decode cX12_treatyNow 60 = .ok (.aload_n 0, 1) := by decide +kernel
theorem dX12_treatyNow_61 : decode cX12_treatyNow 61 = .ok (.getfield 56, 3) := by decide +kernel
theorem dX12_treatyNow_64 : decode cX12_treatyNow 64 = .ok (.iconst 0, 1) := by decide +kernel
theorem dX12_treatyNow_65 : decode cX12_treatyNow 65 = .ok (.iaload, 1) := by decide +kernel
theorem dX12_treatyNow_66 : decode cX12_treatyNow 66 = .ok (.if_icmp .ne 8, 3) := by decide +kernel
theorem dX12_treatyNow_69 : decode cX12_treatyNow 69 = .ok (.iload 5, 2) := by decide +kernel
theorem dX12_treatyNow_71 : decode cX12_treatyNow 71 = .ok (.goto 5, 3) := by decide +kernel
theorem dX12_treatyNow_74 : decode cX12_treatyNow 74 = .ok (.iload 4, 2) := by decide +kernel
theorem dX12_treatyNow_76 : decode cX12_treatyNow 76 = .ok (.istore 4, 2) := by decide +kernel
theorem dX12_treatyNow_78 : decode cX12_treatyNow 78 = .ok (.iinc 5 (-1), 3) := by decide +kernel
theorem dX12_treatyNow_81 : decode cX12_treatyNow 81 = .ok (.goto (-49), 3) := by decide +kernel
theorem dX12_treatyNow_84 : decode cX12_treatyNow 84 = .ok (.iload 4, 2) := by decide +kernel
theorem dX12_treatyNow_86 : decode cX12_treatyNow 86 = .ok (.ireturn, 1) := by decide +kernel
set_option maxRecDepth 20000 in
theorem ggX12_treaty_X12_isChild : GoodIn wsX12_treaty wsX12_isChild := goodIn_r _ [6, 7, 8, 9, 5, 10, 54, 55, 56, 57, 58, 59, 60, 61, 62, 63, 64, 65, 66, 67, 68, 69, 70, 71, 72, 73, 74, 75, 76, 77, 78, 79, 80, 81, 82, 83, 84, 85, 86, 87, 88, 89, 90, 91] (by decide +kernel) (by decide +kernel)
set_option maxRecDepth 20000 in
theorem gX12_treaty_X12_isChild : GoodIn wsX12_treaty (wsV RX12 156 RX12 yX12_isChild wsX12_isChild) := goodIn_app (goodIn_of _ (by decide +kernel)) ggX12_treaty_X12_isChild
set_option maxRecDepth 20000 in
theorem ggX12_treaty_X12_within : GoodIn wsX12_treaty wsX12_within := goodIn_r _ [10] (by decide +kernel) (by decide +kernel)
set_option maxRecDepth 20000 in
theorem gX12_treaty_X12_within : GoodIn wsX12_treaty (va_wsS RX12 77 yX12_within wsX12_within) := goodIn_app (goodIn_of _ (by decide +kernel)) ggX12_treaty_X12_within
set_option maxRecDepth 20000 in
theorem ggX12_treaty_X12_treatyNow : GoodIn wsX12_treaty wsX12_treatyNow := goodIn_r _ [14, 15, 16, 17, 18, 19, 5, 20, 21, 22, 23, 24, 25, 26, 27, 28, 29, 30, 31, 32, 33, 34, 35, 36, 37, 38, 39, 40, 41, 42, 43, 44, 45, 46, 47, 48, 49, 50, 51, 52, 53, 54, 55, 56, 57, 58, 59, 60, 61, 62, 63, 64, 65, 66, 67, 68, 69, 70, 71, 72, 73, 74, 75, 76, 77, 78, 79, 80, 81, 82, 83, 84, 85, 86, 87, 88, 89, 90, 91] (by decide +kernel) (by decide +kernel)
set_option maxRecDepth 20000 in
theorem gX12_treaty_X12_treatyNow : GoodIn wsX12_treaty (wsV RX12 228 RX12 yX12_treatyNow wsX12_treatyNow) := goodIn_app (goodIn_of _ (by decide +kernel)) ggX12_treaty_X12_treatyNow
theorem dX12_treaty_0 : decode cX12_treaty 0 = .ok (.aload_n 0, 1) := by decide +kernel
theorem dX12_treaty_1 : decode cX12_treaty 1 = .ok (.iload_n 1, 1) := by decide +kernel
theorem dX12_treaty_2 : decode cX12_treaty 2 = .ok (.invokevirtual 156, 3) := by decide +kernel
theorem dX12_treaty_5 : decode cX12_treaty 5 = .ok (.ifCond .eq 16, 3) := by decide +kernel
theorem dX12_treaty_8 : decode cX12_treaty 8 = .ok (.aload_n 0, 1) := by decide +kernel
theorem dX12_treaty_9 : decode cX12_treaty 9 = .ok (.iload_n 2, 1) := by decide +kernel
theorem dX12_treaty_10 : decode cX12_treaty 10 = .ok (.invokevirtual 156, 3) := by decide +kernel
theorem dX12_treaty_13 : decode cX12_treaty 13 = .ok (.ifCond .eq 8, 3) := by decide +kernel
theorem dX12_treaty_16 : decode cX12_treaty 16 = .ok (.iload_n 1, 1) := by decide +kernel
theorem dX12_treaty_17 : decode cX12_treaty 17 = .ok (.iload_n 2, 1) := by decide +kernel
theorem dX12_treaty_18 : decode cX12_treaty 18 = .ok (.if_icmp .ne 6, 3) := by decide +kernel
theorem dX12_treaty_21 : decode cX12_treaty 21 = .ok (.bipush (-101), 2) := by decide +kernel
theorem dX12_treaty_23 : decode cX12_treaty 23 = .ok (.ireturn, 1) := by decide +kernel
theorem dX12_treaty_24 : decode cX12_treaty 24 = .ok (.iload_n 3, 1) := by decide +kernel
theorem dX12_treaty_25 : decode cX12_treaty 25 = .ok (.iconst 0, 1) := by decide +kernel
theorem dX12_treaty_26 : decode cX12_treaty 26 = .ok (.iconst 1, 1) := by decide +kernel
theorem dX12_treaty_27 : decode cX12_treaty 27 = .ok (.invokestatic 77, 3) := by decide +kernel
theorem dX12_treaty_30 : decode cX12_treaty 30 = .ok (.ifCond .ne 6, 3) := by decide +kernel
theorem dX12_treaty_33 : decode cX12_treaty 33 = .ok (.bipush (-102), 2) := by decide +kernel
theorem dX12_treaty_35 : decode cX12_treaty 35 = .ok (.ireturn, 1) := by decide +kernel
theorem dX12_treaty_36 : decode cX12_treaty 36 = .ok (.aload_n 0, 1) := by decide +kernel
theorem dX12_treaty_37 : decode cX12_treaty 37 = .ok (.getfield 225, 3) := by decide +kernel
theorem dX12_treaty_40 : decode cX12_treaty 40 = .ok (.bipush 40, 2) := by decide +kernel
theorem dX12_treaty_42 : decode cX12_treaty 42 = .ok (.if_icmp .ne 6, 3) := by decide +kernel
theorem dX12_treaty_45 : decode cX12_treaty 45 = .ok (.bipush (-103), 2) := by decide +kernel
theorem dX12_treaty_47 : decode cX12_treaty 47 = .ok (.ireturn, 1) := by decide +kernel
theorem dX12_treaty_48 : decode cX12_treaty 48 = .ok (.aload_n 0, 1) := by decide +kernel
theorem dX12_treaty_49 : decode cX12_treaty 49 = .ok (.dup, 1) := by decide +kernel
theorem dX12_treaty_50 : decode cX12_treaty 50 = .ok (.getfield 225, 3) := by decide +kernel
theorem dX12_treaty_53 : decode cX12_treaty 53 = .ok (.iconst 1, 1) := by decide +kernel
theorem dX12_treaty_54 : decode cX12_treaty 54 = .ok (.iadd, 1) := by decide +kernel
theorem dX12_treaty_55 : decode cX12_treaty 55 = .ok (.putfield 225, 3) := by decide +kernel
theorem dX12_treaty_58 : decode cX12_treaty 58 = .ok (.aload_n 0, 1) := by decide +kernel
theorem dX12_treaty_59 : decode cX12_treaty 59 = .ok (.iload_n 1, 1) := by decide +kernel
theorem dX12_treaty_60 : decode cX12_treaty 60 = .ok (.iload_n 2, 1) := by decide +kernel
theorem dX12_treaty_61 : decode cX12_treaty 61 = .ok (.iload_n 3, 1) := by decide +kernel
theorem dX12_treaty_62 : decode cX12_treaty 62 = .ok (.invokevirtual 228, 3) := by decide +kernel
theorem dX12_treaty_65 : decode cX12_treaty 65 = .ok (.ireturn, 1) := by decide +kernel
set_option maxRecDepth 20000 in
theorem ggX12_oddsNow_X12_save : GoodIn wsX12_oddsNow wsX12_save := goodIn_r _ [9, 10, 11, 3, 12, 13, 2, 26, 27, 28, 29, 30, 31, 32, 33, 34, 35, 36, 37, 38, 39, 40, 41, 42, 43, 44, 45, 46, 47, 48, 49, 50, 51, 52, 53, 54, 55, 56, 57, 58, 59, 60, 61, 62, 63] (by decide +kernel) (by decide +kernel)
set_option maxRecDepth 20000 in
theorem gX12_oddsNow_X12_save : GoodIn wsX12_oddsNow (wsV RX12 176 RX12 yX12_save wsX12_save) := goodIn_app (goodIn_of _ (by decide +kernel)) ggX12_oddsNow_X12_save
set_option maxRecDepth 20000 in
theorem ggX12_oddsNow_X12_rise : GoodIn wsX12_oddsNow wsX12_rise := goodIn_r _ [17, 11, 18, 3, 26, 27, 28, 29, 30, 31, 32, 33, 34, 35, 36, 37, 38, 39, 40, 41, 42, 43, 44, 45, 46, 47, 48, 49, 50, 51, 52, 53, 54, 55, 56, 57, 58, 59, 60, 61, 62, 63] (by decide +kernel) (by decide +kernel)
set_option maxRecDepth 20000 in
theorem gX12_oddsNow_X12_rise : GoodIn wsX12_oddsNow (wsV RX12 162 RX12 yX12_rise wsX12_rise) := goodIn_app (goodIn_of _ (by decide +kernel)) ggX12_oddsNow_X12_rise
set_option maxRecDepth 20000 in
theorem ggX12_oddsNow_X12_load : GoodIn wsX12_oddsNow wsX12_load := goodIn_r _ [22, 11, 10, 3, 12, 13, 2, 26, 27, 28, 29, 30, 31, 32, 33, 34, 35, 36, 37, 38, 39, 40, 41, 42, 43, 44, 45, 46, 47, 48, 49, 50, 51, 52, 53, 54, 55, 56, 57, 58, 59, 60, 61, 62, 63] (by decide +kernel) (by decide +kernel)
set_option maxRecDepth 20000 in
theorem gX12_oddsNow_X12_load : GoodIn wsX12_oddsNow (wsV RX12 179 RX12 yX12_load wsX12_load) := goodIn_app (goodIn_of _ (by decide +kernel)) ggX12_oddsNow_X12_load
set_option maxRecDepth 20000 in
theorem ggX12_oddsNow_X12_divisor : GoodIn wsX12_oddsNow wsX12_divisor := goodIn_r _ [25] (by decide +kernel) (by decide +kernel)
set_option maxRecDepth 20000 in
theorem gX12_oddsNow_X12_divisor : GoodIn wsX12_oddsNow (va_wsS RX12 231 yX12_divisor wsX12_divisor) := goodIn_app (goodIn_of _ (by decide +kernel)) ggX12_oddsNow_X12_divisor
theorem dX12_oddsNow_0 : decode cX12_oddsNow 0 = .ok (.aload_n 0, 1) := by decide +kernel
theorem dX12_oddsNow_1 : decode cX12_oddsNow 1 = .ok (.iconst 1, 1) := by decide +kernel
theorem dX12_oddsNow_2 : decode cX12_oddsNow 2 = .ok (.invokevirtual 176, 3) := by decide +kernel
theorem dX12_oddsNow_5 : decode cX12_oddsNow 5 = .ok (.iconst 0, 1) := by decide +kernel
theorem dX12_oddsNow_6 : decode cX12_oddsNow 6 = .ok (.istore 5, 2) := by decide +kernel
theorem dX12_oddsNow_8 : decode cX12_oddsNow 8 = .ok (.iload 5, 2) := by decide +kernel
theorem dX12_oddsNow_10 : decode cX12_oddsNow 10 = .ok (.iconst 3, 1) := by decide +kernel
theorem dX12_oddsNow_11 : decode cX12_oddsNow 11 = .ok (.if_icmp .ge 34, 3) := by decide +kernel
theorem dX12_oddsNow_14 : decode cX12_oddsNow 14 = .ok (.aload_n 0, 1) := by decide +kernel
theorem dX12_oddsNow_15 : decode cX12_oddsNow 15 = .ok (.getfield 59, 3) := by decide +kernel
theorem dX12_oddsNow_18 : decode cX12_oddsNow 18 = .ok (.iload 5, 2) := by decide +kernel
theorem dX12_oddsNow_20 : decode cX12_oddsNow 20 = .ok (.aload_n 0, 1) := by decide +kernel
theorem dX12_oddsNow_21 : decode cX12_oddsNow 21 = .ok (.getfield 25, 3) := by decide +kernel
theorem dX12_oddsNow_24 : decode cX12_oddsNow 24 = .ok (.iload_n 1, 1) := by decide +kernel
theorem dX12_oddsNow_25 : decode cX12_oddsNow 25 = .ok (.iaload, 1) := by decide +kernel
theorem dX12_oddsNow_26 : decode cX12_oddsNow 26 = .ok (.iconst 3, 1) := by decide +kernel
theorem dX12_oddsNow_27 : decode cX12_oddsNow 27 = .ok (.irem, 1) := by decide +kernel
theorem dX12_oddsNow_28 : decode cX12_oddsNow 28 = .ok (.iload 5, 2) := by decide +kernel
theorem dX12_oddsNow_30 : decode cX12_oddsNow 30 = .ok (.if_icmp .ne 7, 3) := by decide +kernel
theorem dX12_oddsNow_33 : decode cX12_oddsNow 33 = .ok (.iconst 1, 1) := by decide +kernel
theorem dX12_oddsNow_34 : decode cX12_oddsNow 34 = .ok (.goto 4, 3) := by decide +kernel
theorem dX12_oddsNow_37 : decode cX12_oddsNow 37 = .ok (.iconst 0, 1) := by decide +kernel
theorem dX12_oddsNow_38 : decode cX12_oddsNow 38 = .ok (.iastore, 1) := by decide +kernel
theorem dX12_oddsNow_39 : decode cX12_oddsNow 39 = .ok (.iinc 5 1, 3) := by decide +kernel
theorem dX12_oddsNow_42 : decode cX12_oddsNow 42 = .ok (.goto (-34), 3) := by decide +kernel
theorem dX12_oddsNow_45 : decode cX12_oddsNow 45 = .ok (.iconst 0, 1) := by decide +kernel
theorem dX12_oddsNow_46 : decode cX12_oddsNow 46 = .ok (.istore 5, 2) := by decide +kernel
