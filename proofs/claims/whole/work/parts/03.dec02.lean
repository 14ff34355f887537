theorem dX11_as_10 : decode cX11_as 10 = .ok (.bipush (-101), 2) := by decide +kernel
theorem dX11_as_12 : decode cX11_as 12 = .ok (.ireturn, 1) := by decide +kernel
theorem dX11_as_13 : decode cX11_as 13 = .ok (.iload_n 2, 1) := by decide +kernel
theorem dX11_as_14 : decode cX11_as 14 = .ok (.iconst 0, 1) := by decide +kernel
theorem dX11_as_15 : decode cX11_as 15 = .ok (.iconst 4, 1) := by decide +kernel
theorem dX11_as_16 : decode cX11_as 16 = .ok (.invokestatic 201, 3) := by decide +kernel
theorem dX11_as_19 : decode cX11_as 19 = .ok (.ifCond .ne 6, 3) := by decide +kernel
theorem dX11_as_22 : decode cX11_as 22 = .ok (.bipush (-102), 2) := by decide +kernel
theorem dX11_as_24 : decode cX11_as 24 = .ok (.ireturn, 1) := by decide +kernel
theorem dX11_as_25 : decode cX11_as 25 = .ok (.aload_n 3, 1) := by decide +kernel
theorem dX11_as_26 : decode cX11_as 26 = .ok (.iload_n 2, 1) := by decide +kernel
theorem dX11_as_27 : decode cX11_as 27 = .ok (.invokestatic 220, 3) := by decide +kernel
theorem dX11_as_30 : decode cX11_as 30 = .ok (.ifCond .eq 7, 3) := by decide +kernel
theorem dX11_as_33 : decode cX11_as 33 = .ok (.iload_n 1, 1) := by decide +kernel
theorem dX11_as_34 : decode cX11_as 34 = .ok (.goto 4, 3) := by decide +kernel
theorem dX11_as_37 : decode cX11_as 37 = .ok (.iconst (-1), 1) := by decide +kernel
theorem dX11_as_38 : decode cX11_as 38 = .ok (.ireturn, 1) := by decide +kernel
theorem dX11_isOfKind_0 : decode cX11_isOfKind 0 = .ok (.iload_n 1, 1) := by decide +kernel
theorem dX11_isOfKind_1 : decode cX11_isOfKind 1 = .ok (.tableswitch 51 1 4 #[31, 36, 41, 46], 31) := by decide +kernel
theorem dX11_isOfKind_32 : decode cX11_isOfKind 32 = .ok (.aload_n 0, 1) := by decide +kernel
theorem dX11_isOfKind_33 : decode cX11_isOfKind 33 = .ok (.instanceof 152, 3) := by decide +kernel
theorem dX11_isOfKind_36 : decode cX11_isOfKind 36 = .ok (.ireturn, 1) := by decide +kernel
theorem dX11_isOfKind_37 : decode cX11_isOfKind 37 = .ok (.aload_n 0, 1) := by decide +kernel
theorem dX11_isOfKind_38 : decode cX11_isOfKind 38 = .ok (.instanceof 155, 3) := by decide +kernel
theorem dX11_isOfKind_41 : decode cX11_isOfKind 41 = .ok (.ireturn, 1) := by decide +kernel
theorem dX11_isOfKind_42 : decode cX11_isOfKind 42 = .ok (.aload_n 0, 1) := by decide +kernel
theorem dX11_isOfKind_43 : decode cX11_isOfKind 43 = .ok (.instanceof 158, 3) := by decide +kernel
theorem dX11_isOfKind_46 : decode cX11_isOfKind 46 = .ok (.ireturn, 1) := by decide +kernel
theorem dX11_isOfKind_47 : decode cX11_isOfKind 47 = .ok (.aload_n 0, 1) := by decide +kernel
theorem dX11_isOfKind_48 : decode cX11_isOfKind 48 = .ok (.instanceof 161, 3) := by decide +kernel
theorem dX11_isOfKind_51 : decode cX11_isOfKind 51 = .ok (.ireturn, 1) := by decide +kernel
theorem dX11_isOfKind_52 : decode cX11_isOfKind 52 = .ok (.iconst 1, 1) := by decide +kernel
theorem dX11_isOfKind_53 : decode cX11_isOfKind 53 = .ok (.ireturn, 1) := by decide +kernel
set_option maxRecDepth 20000 in
theorem ggX11_hour_X11_hasDairy : GoodIn wsX11_hour wsX11_hasDairy := goodIn_r _ [7, 8, 34, 35, 36, 37, 38, 39, 40, 41, 42, 43, 44, 45, 46, 47, 48, 49] (by decide +kernel) (by decide +kernel)
set_option maxRecDepth 20000 in
theorem gX11_hour_X11_hasDairy : GoodIn wsX11_hour (wsV RX11 224 RX11 yX11_hasDairy wsX11_hasDairy) := goodIn_app (goodIn_of _ (by decide +kernel)) ggX11_hour_X11_hasDairy
set_option maxRecDepth 20000 in
theorem ggX11_hour_X7_standHour : GoodIn wsX11_hour wsX7_standHour := goodIn_r _ [13, 14, 15, 16, 17, 18, 19, 20, 21, 22, 23, 24, 25, 26, 27, 28, 29, 30, 31, 32, 33, 50, 51, 52, 53, 54, 55, 56, 57] (by decide +kernel) (by decide +kernel)
set_option maxRecDepth 20000 in
theorem gX11_hour_X7_standHour : GoodIn wsX11_hour (wsV RX11 227 RX7 yX7_standHour wsX7_standHour) := goodIn_app (goodIn_of _ (by decide +kernel)) ggX11_hour_X7_standHour
theorem dX11_hour_0 : decode cX11_hour 0 = .ok (.aload_n 0, 1) := by decide +kernel
theorem dX11_hour_1 : decode cX11_hour 1 = .ok (.invokevirtual 224, 3) := by decide +kernel
theorem dX11_hour_4 : decode cX11_hour 4 = .ok (.ifCond .ne 6, 3) := by decide +kernel
theorem dX11_hour_7 : decode cX11_hour 7 = .ok (.bipush (-103), 2) := by decide +kernel
theorem dX11_hour_9 : decode cX11_hour 9 = .ok (.ireturn, 1) := by decide +kernel
theorem dX11_hour_10 : decode cX11_hour 10 = .ok (.aload_n 0, 1) := by decide +kernel
theorem dX11_hour_11 : decode cX11_hour 11 = .ok (.getfield 93, 3) := by decide +kernel
theorem dX11_hour_14 : decode cX11_hour 14 = .ok (.sipush 999, 3) := by decide +kernel
theorem dX11_hour_17 : decode cX11_hour 17 = .ok (.if_icmp .lt 6, 3) := by decide +kernel
theorem dX11_hour_20 : decode cX11_hour 20 = .ok (.bipush (-104), 2) := by decide +kernel
theorem dX11_hour_22 : decode cX11_hour 22 = .ok (.ireturn, 1) := by decide +kernel
theorem dX11_hour_23 : decode cX11_hour 23 = .ok (.aload_n 0, 1) := by decide +kernel
theorem dX11_hour_24 : decode cX11_hour 24 = .ok (.getfield 19, 3) := by decide +kernel
theorem dX11_hour_27 : decode cX11_hour 27 = .ok (.invokevirtual 227, 3) := by decide +kernel
theorem dX11_hour_30 : decode cX11_hour 30 = .ok (.aload_n 0, 1) := by decide +kernel
theorem dX11_hour_31 : decode cX11_hour 31 = .ok (.dup, 1) := by decide +kernel
theorem dX11_hour_32 : decode cX11_hour 32 = .ok (.getfield 93, 3) := by decide +kernel
theorem dX11_hour_35 : decode cX11_hour 35 = .ok (.iconst 1, 1) := by decide +kernel
theorem dX11_hour_36 : decode cX11_hour 36 = .ok (.iadd, 1) := by decide +kernel
theorem dX11_hour_37 : decode cX11_hour 37 = .ok (.putfield 93, 3) := by decide +kernel
theorem dX11_hour_40 : decode cX11_hour 40 = .ok (.aload_n 0, 1) := by decide +kernel
theorem dX11_hour_41 : decode cX11_hour 41 = .ok (.getfield 93, 3) := by decide +kernel
theorem dX11_hour_44 : decode cX11_hour 44 = .ok (.ireturn, 1) := by decide +kernel
set_option maxRecDepth 20000 in
theorem ggX11_skim_X11_childAt : GoodIn wsX11_skim wsX11_childAt := goodIn_r _ [6, 7, 8, 9, 10, 5, 11, 55, 56, 57, 58, 59, 60, 61, 62, 63, 64, 65, 66, 67, 68, 69, 70] (by decide +kernel) (by decide +kernel)
set_option maxRecDepth 20000 in
theorem gX11_skim_X11_childAt : GoodIn wsX11_skim (wsV RX11 205 RX11 yX11_childAt wsX11_childAt) := goodIn_app (goodIn_of _ (by decide +kernel)) ggX11_skim_X11_childAt
set_option maxRecDepth 20000 in
theorem ggX11_skim_X7_at : GoodIn wsX11_skim wsX7_at := goodIn_r _ [16, 17, 18, 71, 72] (by decide +kernel) (by decide +kernel)
set_option maxRecDepth 20000 in
theorem gX11_skim_X7_at : GoodIn wsX11_skim (wsV RX11 165 RX7 yX7_at wsX7_at) := goodIn_app (goodIn_of _ (by decide +kernel)) ggX11_skim_X7_at
set_option maxRecDepth 20000 in
theorem ggX11_skim_X4_top : GoodIn wsX11_skim wsX4_top := goodIn_r _ [23, 24, 25, 26, 73, 74, 75, 76, 77, 78] (by decide +kernel) (by decide +kernel)
set_option maxRecDepth 20000 in
theorem gX11_skim_X4_top : GoodIn wsX11_skim (wsV RX11 177 RX4 yX4_top wsX4_top) := goodIn_app (goodIn_of _ (by decide +kernel)) ggX11_skim_X4_top
set_option maxRecDepth 20000 in
theorem ggX11_skim_X0_hadOf : GoodIn wsX11_skim wsX0_hadOf := goodIn_r _ [31, 32, 79, 80, 81, 82, 83, 84, 85, 86, 87, 88] (by decide +kernel) (by decide +kernel)
set_option maxRecDepth 20000 in
theorem gX11_skim_X0_hadOf : GoodIn wsX11_skim (wsV RX11 211 RX0 yX0_hadOf wsX0_hadOf) := goodIn_app (goodIn_of _ (by decide +kernel)) ggX11_skim_X0_hadOf
set_option maxRecDepth 20000 in
theorem gX11_skim_X0_hadOf_u211X1 : GoodIn wsX11_skim (va_wsU RX11 211 RX1 "SkimmedSons$Child" ⟨"SkimmedSons$Child", "hadOf", "(I)I"⟩ yX0_hadOf wsX0_hadOf) := goodIn_app (goodIn_of _ (by decide +kernel)) ggX11_skim_X0_hadOf
set_option maxRecDepth 20000 in
theorem gX11_skim_X0_hadOf_u211X2 : GoodIn wsX11_skim (va_wsU RX11 211 RX2 "SkimmedSons$Child" ⟨"SkimmedSons$Child", "hadOf", "(I)I"⟩ yX0_hadOf wsX0_hadOf) := goodIn_app (goodIn_of _ (by decide +kernel)) ggX11_skim_X0_hadOf
set_option maxRecDepth 20000 in
theorem gX11_skim_X0_hadOf_u211X6 : GoodIn wsX11_skim (va_wsU RX11 211 RX6 "SkimmedSons$Child" ⟨"SkimmedSons$Child", "hadOf", "(I)I"⟩ yX0_hadOf wsX0_hadOf) := goodIn_app (goodIn_of _ (by decide +kernel)) ggX11_skim_X0_hadOf
set_option maxRecDepth 20000 in
theorem gX11_skim_X0_hadOf_u211X10 : GoodIn wsX11_skim (va_wsU RX11 211 RX10 "SkimmedSons$Child" ⟨"SkimmedSons$Child", "hadOf", "(I)I"⟩ yX0_hadOf wsX0_hadOf) := goodIn_app (goodIn_of _ (by decide +kernel)) ggX11_skim_X0_hadOf
set_option maxRecDepth 20000 in
theorem ggX11_skim_X4_takeTop : GoodIn wsX11_skim wsX4_takeTop := goodIn_r _ [42, 24, 25, 26, 43, 44, 20, 21, 22, 23, 73, 74, 75, 76, 77, 78] (by decide +kernel) (by decide +kernel)
set_option maxRecDepth 20000 in
theorem gX11_skim_X4_takeTop : GoodIn wsX11_skim (wsV RX11 230 RX4 yX4_takeTop wsX4_takeTop) := goodIn_app (goodIn_of _ (by decide +kernel)) ggX11_skim_X4_takeTop
set_option maxRecDepth 20000 in
theorem ggX11_skim_X0_have : GoodIn wsX11_skim wsX0_have := goodIn_r _ [48, 32, 79, 80, 81, 82, 83, 84, 85, 86, 87, 88] (by decide +kernel) (by decide +kernel)
set_option maxRecDepth 20000 in
theorem gX11_skim_X0_have : GoodIn wsX11_skim (wsV RX11 233 RX0 yX0_have wsX0_have) := goodIn_app (goodIn_of _ (by decide +kernel)) ggX11_skim_X0_have
set_option maxRecDepth 20000 in
theorem gX11_skim_X0_have_u233X1 : GoodIn wsX11_skim (va_wsU RX11 233 RX1 "SkimmedSons$Child" ⟨"SkimmedSons$Child", "have", "(I)V"⟩ yX0_have wsX0_have) := goodIn_app (goodIn_of _ (by decide +kernel)) ggX11_skim_X0_have
set_option maxRecDepth 20000 in
theorem gX11_skim_X0_have_u233X2 : GoodIn wsX11_skim (va_wsU RX11 233 RX2 "SkimmedSons$Child" ⟨"SkimmedSons$Child", "have", "(I)V"⟩ yX0_have wsX0_have) := goodIn_app (goodIn_of _ (by decide +kernel)) ggX11_skim_X0_have
set_option maxRecDepth 20000 in
theorem gX11_skim_X0_have_u233X6 : GoodIn wsX11_skim (va_wsU RX11 233 RX6 "SkimmedSons$Child" ⟨"SkimmedSons$Child", "have", "(I)V"⟩ yX0_have wsX0_have) := goodIn_app (goodIn_of _ (by decide +kernel)) ggX11_skim_X0_have
set_option maxRecDepth 20000 in
theorem gX11_skim_X0_have_u233X10 : GoodIn wsX11_skim (va_wsU RX11 233 RX10 "SkimmedSons$Child" ⟨"SkimmedSons$Child", "have", "(I)V"⟩ yX0_have wsX0_have) := goodIn_app (goodIn_of _ (by decide +kernel)) ggX11_skim_X0_have
theorem dX11_skim_0 : decode cX11_skim 0 = .ok (.aload_n 0, 1) := by decide +kernel
theorem dX11_skim_1 : decode cX11_skim 1 = .ok (.iload_n 1, 1) := by decide +kernel
theorem dX11_skim_2 : decode cX11_skim 2 = .ok (.invokevirtual 205, 3) := by decide +kernel
theorem dX11_skim_5 : decode cX11_skim 5 = .ok (.astore_n 3, 1) := by decide +kernel
theorem dX11_skim_6 : decode cX11_skim 6 = .ok (.aload_n 0, 1) := by decide +kernel
theorem dX11_skim_7 : decode cX11_skim 7 = .ok (.getfield 19, 3) := by decide +kernel
theorem dX11_skim_10 : decode cX11_skim 10 = .ok (.iload_n 2, 1) := by decide +kernel
theorem dX11_skim_11 : decode cX11_skim 11 = .ok (.invokevirtual 165, 3) := by decide +kernel
theorem dX11_skim_14 : decode cX11_skim 14 = .ok (.astore 4, 2) := by decide +kernel
theorem dX11_skim_16 : decode cX11_skim 16 = .ok (.aload_n 3, 1) := by decide +kernel
theorem dX11_skim_17 : decode cX11_skim 17 = .ok (.ifnull 8, 3) := by decide +kernel
theorem dX11_skim_20 : decode cX11_skim 20 = .ok (.aload 4, 2) := by decide +kernel
theorem dX11_skim_22 : decode cX11_skim 22 = .ok (.ifnonnull 6, 3) := by decide +kernel
theorem dX11_skim_25 : decode cX11_skim 25 = .ok (.bipush (-101), 2) := by decide +kernel
theorem dX11_skim_27 : decode cX11_skim 27 = .ok (.ireturn, 1) := by decide +kernel
theorem dX11_skim_28 : decode cX11_skim 28 = .ok (.aload 4, 2) := by decide +kernel
theorem dX11_skim_30 : decode cX11_skim 30 = .ok (.invokevirtual 177, 3) := by decide +kernel
theorem dX11_skim_33 : decode cX11_skim 33 = .ok (.istore 5, 2) := by decide +kernel
theorem dX11_skim_35 : decode cX11_skim 35 = .ok (.iload 5, 2) := by decide +kernel
theorem dX11_skim_37 : decode cX11_skim 37 = .ok (.iconst (-1), 1) := by decide +kernel
theorem dX11_skim_38 : decode cX11_skim 38 = .ok (.if_icmp .ne 6, 3) := by decide +kernel
theorem dX11_skim_41 : decode cX11_skim 41 = .ok (.bipush (-103), 2) := by decide +kernel
theorem dX11_skim_43 : decode cX11_skim 43 = .ok (.ireturn, 1) := by decide +kernel
theorem dX11_skim_44 : decode cX11_skim 44 = .ok (.aload_n 3, 1) := by decide +kernel
theorem dX11_skim_45 : decode cX11_skim 45 = .ok (.iload 5, 2) := by decide +kernel
theorem dX11_skim_47 : decode cX11_skim 47 = .ok (.invokevirtual 211, 3) := by decide +kernel
theorem dX11_skim_50 : decode cX11_skim 50 = .ok (.bipush 99, 2) := by decide +kernel
theorem dX11_skim_52 : decode cX11_skim 52 = .ok (.if_icmp .lt 6, 3) := by decide +kernel
theorem dX11_skim_55 : decode cX11_skim 55 = .ok (.bipush (-104), 2) := by decide +kernel
theorem dX11_skim_57 : decode cX11_skim 57 = .ok (.ireturn, 1) := by decide +kernel
theorem dX11_skim_58 : decode cX11_skim 58 = .ok (.aload 4, 2) := by decide +kernel
theorem dX11_skim_60 : decode cX11_skim 60 = .ok (.invokevirtual 230, 3) := by decide +kernel
theorem dX11_skim_63 : decode cX11_skim 63 = .ok (.aload_n 3, 1) := by decide +kernel
theorem dX11_skim_64 : decode cX11_skim 64 = .ok (.iload 5, 2) := by decide +kernel
theorem dX11_skim_66 : decode cX11_skim 66 = .ok (.invokevirtual 233, 3) := by decide +kernel
theorem dX11_skim_69 : decode cX11_skim 69 = .ok (.iload 5, 2) := by decide +kernel
theorem dX11_skim_71 : decode cX11_skim 71 = .ok (.ireturn, 1) := by decide +kernel
set_option maxRecDepth 20000 in
theorem ggX11_stir_X7_at : GoodIn wsX11_stir wsX7_at := goodIn_r _ [6, 7, 8, 40, 41] (by decide +kernel) (by decide +kernel)
set_option maxRecDepth 20000 in
theorem gX11_stir_X7_at : GoodIn wsX11_stir (wsV RX11 165 RX7 yX7_at wsX7_at) := goodIn_app (goodIn_of _ (by decide +kernel)) ggX11_stir_X7_at
set_option maxRecDepth 20000 in
theorem ggX11_stir_X4_mix : GoodIn wsX11_stir wsX4_mix := goodIn_r _ [13, 14, 15, 16, 17, 34, 35, 36, 37, 38, 39] (by decide +kernel) (by decide +kernel)
set_option maxRecDepth 20000 in
theorem gX11_stir_X4_mix : GoodIn wsX11_stir (wsV RX11 237 RX4 yX4_mix wsX4_mix) := goodIn_app (goodIn_of _ (by decide +kernel)) ggX11_stir_X4_mix
theorem dX11_stir_0 : decode cX11_stir 0 = .ok (.aload_n 0, 1) := by decide +kernel
theorem dX11_stir_1 : decode cX11_stir 1 = .ok (.getfield 19, 3) := by decide +kernel
theorem dX11_stir_4 : decode cX11_stir 4 = .ok (.iload_n 1, 1) := by decide +kernel
theorem dX11_stir_5 : decode cX11_stir 5 = .ok (.invokevirtual 165, 3) := by decide +kernel
theorem dX11_stir_8 : decode cX11_stir 8 = .ok (.astore_n 2, 1) := by decide +kernel
theorem dX11_stir_9 : decode cX11_stir 9 = .ok (.aload_n 2, 1) := by decide +kernel
theorem dX11_stir_10 : decode cX11_stir 10 = .ok (.ifnonnull 6, 3) := by decide +kernel
theorem dX11_stir_13 : decode cX11_stir 13 = .ok (.bipush (-101), 2) := by decide +kernel
theorem dX11_stir_15 : decode cX11_stir 15 = .ok (.ireturn, 1) := by decide +kernel
theorem dX11_stir_16 : decode cX11_stir 16 = .ok (.aload_n 2, 1) := by decide +kernel
theorem dX11_stir_17 : decode cX11_stir 17 = .ok (.invokevirtual 237, 3) := by decide +kernel
theorem dX11_stir_20 : decode cX11_stir 20 = .ok (.aload_n 2, 1) := by decide +kernel
theorem dX11_stir_21 : decode cX11_stir 21 = .ok (.getfield 240, 3) := by decide +kernel
theorem dX11_stir_24 : decode cX11_stir 24 = .ok (.ireturn, 1) := by decide +kernel
set_option maxRecDepth 20000 in
theorem ggX11_pour_X7_at : GoodIn wsX11_pour wsX7_at := goodIn_r _ [6, 7, 8, 47, 48] (by decide +kernel) (by decide +kernel)
set_option maxRecDepth 20000 in
theorem gX11_pour_X7_at : GoodIn wsX11_pour (wsV RX11 165 RX7 yX7_at wsX7_at) := goodIn_app (goodIn_of _ (by decide +kernel)) ggX11_pour_X7_at
set_option maxRecDepth 20000 in
theorem ggX11_pour_X11_isWithin : GoodIn wsX11_pour wsX11_isWithin := goodIn_r _ [12] (by decide +kernel) (by decide +kernel)
set_option maxRecDepth 20000 in
theorem gX11_pour_X11_isWithin : GoodIn wsX11_pour (va_wsS RX11 201 yX11_isWithin wsX11_isWithin) := goodIn_app (goodIn_of _ (by decide +kernel)) ggX11_pour_X11_isWithin
set_option maxRecDepth 20000 in
theorem ggX11_pour_X4_all : GoodIn wsX11_pour wsX4_all := goodIn_r _ [17, 18, 19, 20, 21, 16, 22, 23, 24, 25, 49, 50, 51, 52, 53, 54] (by decide +kernel) (by decide +kernel)
set_option maxRecDepth 20000 in
theorem gX11_pour_X4_all : GoodIn wsX11_pour (wsV RX11 243 RX4 yX4_all wsX4_all) := goodIn_app (goodIn_of _ (by decide +kernel)) ggX11_pour_X4_all
set_option maxRecDepth 20000 in
theorem ggX11_pour_X4_takeIn : GoodIn wsX11_pour wsX4_takeIn := goodIn_r _ [29, 18, 25, 30, 49, 50, 51, 52, 53, 54] (by decide +kernel) (by decide +kernel)
set_option maxRecDepth 20000 in
theorem gX11_pour_X4_takeIn : GoodIn wsX11_pour (wsV RX11 246 RX4 yX4_takeIn wsX4_takeIn) := goodIn_app (goodIn_of _ (by decide +kernel)) ggX11_pour_X4_takeIn
theorem dX11_pour_0 : decode cX11_pour 0 = .ok (.aload_n 0, 1) := by decide +kernel
theorem dX11_pour_1 : decode cX11_pour 1 = .ok (.getfield 19, 3) := by decide +kernel
theorem dX11_pour_4 : decode cX11_pour 4 = .ok (.iload_n 1, 1) := by decide +kernel
theorem dX11_pour_5 : decode cX11_pour 5 = .ok (.invokevirtual 165, 3) := by decide +kernel
theorem dX11_pour_8 : decode cX11_pour 8 = .ok (.astore 4, 2) := by decide +kernel
theorem dX11_pour_10 : decode cX11_pour 10 = .ok (.aload 4, 2) := by decide +kernel
theorem dX11_pour_12 : decode cX11_pour 12 = .ok (.ifnonnull 6, 3) := by decide +kernel
theorem dX11_pour_15 : decode cX11_pour 15 = .ok (.bipush (-101), 2) := by decide +kernel
theorem dX11_pour_17 : decode cX11_pour 17 = .ok (.ireturn, 1) := by decide +kernel
theorem dX11_pour_18 : decode cX11_pour 18 = .ok (.iload_n 2, 1) := by decide +kernel
theorem dX11_pour_19 : decode cX11_pour 19 = .ok (.iconst 0, 1) := by decide +kernel
theorem dX11_pour_20 : decode cX11_pour 20 = .ok (.bipush 9, 2) := by decide +kernel
theorem dX11_pour_22 : decode cX11_pour 22 = .ok (.invokestatic 201, 3) := by decide +kernel
theorem dX11_pour_25 : decode cX11_pour 25 = .ok (.ifCond .eq 13, 3) := by decide +kernel
theorem dX11_pour_28 : decode cX11_pour 28 = .ok (.iload_n 3, 1) := by decide +kernel
theorem dX11_pour_29 : decode cX11_pour 29 = .ok (.iconst 0, 1) := by decide +kernel
theorem dX11_pour_30 : decode cX11_pour 30 = .ok (.bipush 9, 2) := by decide +kernel
theorem dX11_pour_32 : decode cX11_pour 32 = .ok (.invokestatic 201, 3) := by decide +kernel
theorem dX11_pour_35 : decode cX11_pour 35 = .ok (.ifCond .ne 6, 3) := by decide +kernel
theorem dX11_pour_38 : decode cX11_pour 38 = .ok (.bipush (-102), 2) := by decide +kernel
theorem dX11_pour_40 : decode cX11_pour 40 = .ok (.ireturn, 1) := by decide +kernel
theorem dX11_pour_41 : decode cX11_pour 41 = .ok (.aload 4, 2) := by decide +kernel
theorem dX11_pour_43 : decode cX11_pour 43 = .ok (.invokevirtual 243, 3) := by decide +kernel
theorem dX11_pour_46 : decode cX11_pour 46 = .ok (.iload_n 2, 1) := by decide +kernel
theorem dX11_pour_47 : decode cX11_pour 47 = .ok (.iadd, 1) := by decide +kernel
theorem dX11_pour_48 : decode cX11_pour 48 = .ok (.iload_n 3, 1) := by decide +kernel
theorem dX11_pour_49 : decode cX11_pour 49 = .ok (.iadd, 1) := by decide +kernel
theorem dX11_pour_50 : decode cX11_pour 50 = .ok (.bipush 20, 2) := by decide +kernel
theorem dX11_pour_52 : decode cX11_pour 52 = .ok (.if_icmp .le 6, 3) := by decide +kernel
theorem dX11_pour_55 : decode cX11_pour 55 = .ok (.bipush (-104), 2) := by decide +kernel
theorem dX11_pour_57 : decode cX11_pour 57 = .ok (.ireturn, 1) := by decide +kernel
theorem dX11_pour_58 : decode cX11_pour 58 = .ok (.aload 4, 2) := by decide +kernel
theorem dX11_pour_60 : decode cX11_pour 60 = .ok (.iload_n 2, 1) := by decide +kernel
theorem dX11_pour_61 : decode cX11_pour 61 = .ok (.iload_n 3, 1) := by decide +kernel
theorem dX11_pour_62 : decode cX11_pour 62 = .ok (.invokevirtual 246, 3) := by decide +kernel
theorem dX11_pour_65 : decode cX11_pour 65 = .ok (.aload 4, 2) := by decide +kernel
theorem dX11_pour_67 : decode cX11_pour 67 = .ok (.invokevirtual 243, 3) := by decide +kernel
theorem dX11_pour_70 : decode cX11_pour 70 = .ok (.ireturn, 1) := by decide +kernel
set_option maxRecDepth 20000 in
theorem ggX11_later_X7_at : GoodIn wsX11_later wsX7_at := goodIn_r _ [7, 8, 9, 57, 58] (by decide +kernel) (by decide +kernel)
set_option maxRecDepth 20000 in
theorem gX11_later_X7_at : GoodIn wsX11_later (wsV RX11 165 RX7 yX7_at wsX7_at) := goodIn_app (goodIn_of _ (by decide +kernel)) ggX11_later_X7_at
set_option maxRecDepth 20000 in
theorem ggX11_later_X11_isWithin : GoodIn wsX11_later wsX11_isWithin := goodIn_r _ [13] (by decide +kernel) (by decide +kernel)
set_option maxRecDepth 20000 in
theorem gX11_later_X11_isWithin : GoodIn wsX11_later (va_wsS RX11 201 yX11_isWithin wsX11_isWithin) := goodIn_app (goodIn_of _ (by decide +kernel)) ggX11_later_X11_isWithin
set_option maxRecDepth 20000 in
theorem ggX11_later_X4_copyFrom : GoodIn wsX11_later wsX4_copyFrom := goodIn_r _ [18, 19, 20, 21, 22, 23, 24, 59, 60, 61, 62, 63, 64] (by decide +kernel) (by decide +kernel)
set_option maxRecDepth 20000 in
theorem gX11_later_X4_copyFrom : GoodIn wsX11_later (wsV RX11 250 RX4 yX4_copyFrom wsX4_copyFrom) := goodIn_app (goodIn_of _ (by decide +kernel)) ggX11_later_X4_copyFrom
set_option maxRecDepth 20000 in
theorem ggX11_later_X4_standHour : GoodIn wsX11_later wsX4_standHour := goodIn_r _ [28, 21, 29, 30, 31, 32, 22, 20, 23, 33, 34, 35, 17, 36, 19, 59, 60, 61, 62, 63, 64] (by decide +kernel) (by decide +kernel)
set_option maxRecDepth 20000 in
theorem gX11_later_X4_standHour : GoodIn wsX11_later (wsV RX11 254 RX4 yX4_standHour wsX4_standHour) := goodIn_app (goodIn_of _ (by decide +kernel)) ggX11_later_X4_standHour
set_option maxRecDepth 20000 in
theorem ggX11_later_X4_much : GoodIn wsX11_later wsX4_much := goodIn_r _ [40, 21, 22, 23, 24, 59, 60, 61, 62, 63, 64] (by decide +kernel) (by decide +kernel)
set_option maxRecDepth 20000 in
theorem gX11_later_X4_much : GoodIn wsX11_later (wsV RX11 168 RX4 yX4_much wsX4_much) := goodIn_app (goodIn_of _ (by decide +kernel)) ggX11_later_X4_much
theorem dX11_later_0 : decode cX11_later 0 = .ok (.aload_n 0, 1) := by decide +kernel
theorem dX11_later_1 : decode cX11_later 1 = .ok (.getfield 19, 3) := by decide +kernel
theorem dX11_later_4 : decode cX11_later 4 = .ok (.iload_n 1, 1) := by decide +kernel
theorem dX11_later_5 : decode cX11_later 5 = .ok (.invokevirtual 165, 3) := by decide +kernel
theorem dX11_later_8 : decode cX11_later 8 = .ok (.astore 4, 2) := by decide +kernel
theorem dX11_later_10 : decode cX11_later 10 = .ok (.aload 4, 2) := by decide +kernel
theorem dX11_later_12 : decode cX11_later 12 = .ok (.ifnonnull 6, 3) := by decide +kernel
theorem dX11_later_15 : decode cX11_later 15 = .ok (.bipush (-101), 2) := by decide +kernel
theorem dX11_later_17 : decode cX11_later 17 = .ok (.ireturn, 1) := by decide +kernel
theorem dX11_later_18 : decode cX11_later 18 = .ok (.iload_n 2, 1) := by decide +kernel
theorem dX11_later_19 : decode cX11_later 19 = .ok (.iconst 0, 1) := by decide +kernel
theorem dX11_later_20 : decode cX11_later 20 = .ok (.bipush 40, 2) := by decide +kernel
theorem dX11_later_22 : decode cX11_later 22 = .ok (.invokestatic 201, 3) := by decide +kernel
theorem dX11_later_25 : decode cX11_later 25 = .ok (.ifCond .eq 12, 3) := by decide +kernel
theorem dX11_later_28 : decode cX11_later 28 = .ok (.iload_n 3, 1) := by decide +kernel
theorem dX11_later_29 : decode cX11_later 29 = .ok (.iconst 0, 1) := by decide +kernel
theorem dX11_later_30 : decode cX11_later 30 = .ok (.iconst 3, 1) := by decide +kernel
theorem dX11_later_31 : decode cX11_later 31 = .ok (.invokestatic 201, 3) := by decide +kernel
theorem dX11_later_34 : decode cX11_later 34 = .ok (.ifCond .ne 6, 3) := by decide +kernel
theorem dX11_later_37 : decode cX11_later 37 = .ok (.bipush (-102), 2) := by decide +kernel
theorem dX11_later_39 : decode cX11_later 39 = .ok (.ireturn, 1) := by decide +kernel
theorem dX11_later_40 : decode cX11_later 40 = .ok (.aload_n 0, 1) := by decide +kernel
theorem dX11_later_41 : decode cX11_later 41 = .ok (.getfield 48, 3) := by decide +kernel
theorem dX11_later_44 : decode cX11_later 44 = .ok (.aload 4, 2) := by decide +kernel
theorem dX11_later_46 : decode cX11_later 46 = .ok (.invokevirtual 250, 3) := by decide +kernel
theorem dX11_later_49 : decode cX11_later 49 = .ok (.iconst 0, 1) := by decide +kernel
theorem dX11_later_50 : decode cX11_later 50 = .ok (.istore 5, 2) := by decide +kernel
theorem dX11_later_52 : decode cX11_later 52 = .ok (.iload 5, 2) := by decide +kernel
theorem dX11_later_54 : decode cX11_later 54 = .ok (.iload_n 2, 1) := by decide +kernel
theorem dX11_later_55 : decode cX11_later 55 = .ok (.if_icmp .ge 16, 3) := by decide +kernel
theorem dX11_later_58 : decode cX11_later 58 = .ok (.aload_n 0, 1) := by decide +kernel
theorem dX11_later_59 : decode cX11_later 59 = .ok (.getfield 48, 3) := by decide +kernel
theorem dX11_later_62 : decode cX11_later 62 = .ok (.invokevirtual 254, 3) := by decide +kernel
theorem dX11_later_65 : decode cX11_later 65 = .ok (.iinc 5 1, 3) := by decide +kernel
theorem dX11_later_68 : decode cX11_later 68 = .ok (.goto (-16), 3) := by decide +kernel
theorem dX11_later_71 : decode cX11_later 71 = .ok (.aload_n 0, 1) := by decide +kernel
theorem dX11_later_72 : decode cX11_later 72 = .ok (.getfield 48, 3) := by decide +kernel
theorem dX11_later_75 : decode cX11_later 75 = .ok (.iload_n 3, 1) := by decide +kernel
theorem dX11_later_76 : decode cX11_later 76 = .ok (.invokevirtual 168, 3) := by decide +kernel
theorem dX11_later_79 : decode cX11_later 79 = .ok (.ireturn, 1) := by decide +kernel
set_option maxRecDepth 20000 in
theorem ggX11_plan_X11_childAt : GoodIn wsX11_plan wsX11_childAt := goodIn_r _ [7, 8, 9, 10, 11, 6, 12, 174, 175, 176, 177, 178, 179, 180, 181, 182, 183, 184, 185, 186, 187, 188, 189] (by decide +kernel) (by decide +kernel)
set_option maxRecDepth 20000 in
theorem gX11_plan_X11_childAt : GoodIn wsX11_plan (wsV RX11 205 RX11 yX11_childAt wsX11_childAt) := goodIn_app (goodIn_of _ (by decide +kernel)) ggX11_plan_X11_childAt
set_option maxRecDepth 20000 in
theorem ggX11_plan_X11_isWithin : GoodIn wsX11_plan wsX11_isWithin := goodIn_r _ [12] (by decide +kernel) (by decide +kernel)
set_option maxRecDepth 20000 in
theorem gX11_plan_X11_isWithin : GoodIn wsX11_plan (va_wsS RX11 201 yX11_isWithin wsX11_isWithin) := goodIn_app (goodIn_of _ (by decide +kernel)) ggX11_plan_X11_isWithin
set_option maxRecDepth 20000 in
theorem ggX11_plan_X5_search : GoodIn wsX11_plan wsX5_search := goodIn_r _ [17, 18, 19, 20, 21, 22, 23, 24, 25, 26, 27, 28, 29, 30, 31, 32, 33, 34, 35, 36, 37, 38, 39, 40, 41, 42, 43, 44, 16, 45, 46, 47, 48, 49, 50, 51, 52, 53, 54, 55, 56, 57, 58, 59, 60, 61, 62, 63, 64, 65, 66, 67, 68, 69, 70, 71, 72, 73, 74, 75, 76, 77, 78, 79, 80, 81, 82, 83, 84, 85, 86, 87, 88, 89, 90, 91, 92, 93, 94, 95, 96, 97, 98, 99, 100, 101, 102, 103, 104, 105, 106, 107, 108, 109, 110, 111, 112, 113, 114, 115, 116, 117, 118, 119, 120, 121, 122, 123, 124, 125, 126, 127, 128, 129, 130, 131, 132, 133, 134, 135, 136, 137, 138, 139, 140, 141, 142, 143, 144, 145, 146, 147, 148, 149, 150, 151, 152, 153, 154, 155, 156, 157, 158, 159, 160, 161, 162, 163, 164, 165, 166, 167, 168, 169, 190, 191, 192, 193, 194, 195, 196, 197, 198, 199] (by decide +kernel) (by decide +kernel)
set_option maxRecDepth 20000 in
theorem gX11_plan_X5_search : GoodIn wsX11_plan (wsV RX11 255 RX5 yX5_search wsX5_search) := goodIn_app (goodIn_of _ (by decide +kernel)) ggX11_plan_X5_search
set_option maxRecDepth 20000 in
theorem ggX11_plan_X5_panOfHour : GoodIn wsX11_plan wsX5_panOfHour := goodIn_r _ [173, 19, 190, 191] (by decide +kernel) (by decide +kernel)
set_option maxRecDepth 20000 in
theorem gX11_plan_X5_panOfHour : GoodIn wsX11_plan (wsV RX11 259 RX5 yX5_panOfHour wsX5_panOfHour) := goodIn_app (goodIn_of _ (by decide +kernel)) ggX11_plan_X5_panOfHour
theorem dX11_plan_0 : decode cX11_plan 0 = .ok (.aload_n 0, 1) := by decide +kernel
theorem dX11_plan_1 : decode cX11_plan 1 = .ok (.iload_n 1, 1) := by decide +kernel
theorem dX11_plan_2 : decode cX11_plan 2 = .ok (.invokevirtual 205, 3) := by decide +kernel
theorem dX11_plan_5 : decode cX11_plan 5 = .ok (.astore 4, 2) := by decide +kernel
theorem dX11_plan_7 : decode cX11_plan 7 = .ok (.aload 4, 2) := by decide +kernel
theorem dX11_plan_9 : decode cX11_plan 9 = .ok (.ifnonnull 6, 3) := by decide +kernel
theorem dX11_plan_12 : decode cX11_plan 12 = .ok (.bipush (-101), 2) := by decide +kernel
theorem dX11_plan_14 : decode cX11_plan 14 = .ok (.ireturn, 1) := by decide +kernel
theorem dX11_plan_15 : decode cX11_plan 15 = .ok (.iload_n 3, 1) := by decide +kernel
theorem dX11_plan_16 : decode cX11_plan 16 = .ok (.bipush 10, 2) := by decide +kernel
theorem dX11_plan_18 : decode cX11_plan 18 = .ok (.bipush 13, 2) := by decide +kernel
theorem dX11_plan_20 : decode cX11_plan 20 = .ok (.invokestatic 201, 3) := by decide +kernel
theorem dX11_plan_23 : decode cX11_plan 23 = .ok (.istore 5, 2) := by decide +kernel
theorem dX11_plan_25 : decode cX11_plan 25 = .ok (.iload_n 2, 1) := by decide +kernel
theorem dX11_plan_26 : decode cX11_plan 26 = .ok (.iconst 1, 1) := by decide +kernel
theorem dX11_plan_27 : decode cX11_plan 27 = .ok (.iconst 4, 1) := by decide +kernel
theorem dX11_plan_28 : decode cX11_plan 28 = .ok (.invokestatic 201, 3) := by decide +kernel
theorem dX11_plan_31 : decode cX11_plan 31 = .ok (.ifCond .eq 12, 3) := by decide +kernel
theorem dX11_plan_34 : decode cX11_plan 34 = .ok (.iload_n 3, 1) := by decide +kernel
theorem dX11_plan_35 : decode cX11_plan 35 = .ok (.ifCond .eq 11, 3) := by decide +kernel
theorem dX11_plan_38 : decode cX11_plan 38 = .ok (.iload 5, 2) := by decide +kernel
theorem dX11_plan_40 : decode cX11_plan 40 = .ok (.ifCond .ne 6, 3) := by decide +kernel
theorem dX11_plan_43 : decode cX11_plan 43 = .ok (.bipush (-102), 2) := by decide +kernel
theorem dX11_plan_45 : decode cX11_plan 45 = .ok (.ireturn, 1) := by decide +kernel
theorem dX11_plan_46 : decode cX11_plan 46 = .ok (.aload_n 0, 1) := by decide +kernel
theorem dX11_plan_47 : decode cX11_plan 47 = .ok (.getfield 55, 3) := by decide +kernel
theorem dX11_plan_50 : decode cX11_plan 50 = .ok (.aload 4, 2) := by decide +kernel
theorem dX11_plan_52 : decode cX11_plan 52 = .ok (.aload_n 0, 1) := by decide +kernel
theorem dX11_plan_53 : decode cX11_plan 53 = .ok (.getfield 19, 3) := by decide +kernel
theorem dX11_plan_56 : decode cX11_plan 56 = .ok (.iload_n 2, 1) := by decide +kernel
theorem dX11_plan_57 : decode cX11_plan 57 = .ok (.invokevirtual 255, 3) := by decide +kernel
theorem dX11_plan_60 : decode cX11_plan 60 = .ok (.istore 6, 2) := by decide +kernel
theorem dX11_plan_62 : decode cX11_plan 62 = .ok (.iload 5, 2) := by decide +kernel
theorem dX11_plan_64 : decode cX11_plan 64 = .ok (.ifCond .eq 17, 3) := by decide +kernel
theorem dX11_plan_67 : decode cX11_plan 67 = .ok (.aload_n 0, 1) := by decide +kernel
theorem dX11_plan_68 : decode cX11_plan 68 = .ok (.getfield 55, 3) := by decide +kernel
theorem dX11_plan_71 : decode cX11_plan 71 = .ok (.iload_n 3, 1) := by decide +kernel
theorem dX11_plan_72 : decode cX11_plan 72 = .ok (.bipush 10, 2) := by decide +kernel
theorem dX11_plan_74 : decode cX11_plan 74 = .ok (.isub, 1) := by decide +kernel
theorem dX11_plan_75 : decode cX11_plan 75 = .ok (.invokevirtual 259, 3) := by decide +kernel
theorem dX11_plan_78 : decode cX11_plan 78 = .ok (.goto 5, 3) := by decide +kernel
theorem dX11_plan_81 : decode cX11_plan 81 = .ok (.iload 6, 2) := by decide +kernel
theorem dX11_plan_83 : decode cX11_plan 83 = .ok (.ireturn, 1) := by decide +kernel
set_option maxRecDepth 20000 in
theorem ggX11_treaty_X11_childAt : GoodIn wsX11_treaty wsX11_childAt := goodIn_r _ [8, 9, 10, 11, 12, 7, 13, 133, 134, 135, 136, 137, 138, 139, 140, 141, 142, 143, 144, 145, 146, 147, 148] (by decide +kernel) (by decide +kernel)
set_option maxRecDepth 20000 in
theorem gX11_treaty_X11_childAt : GoodIn wsX11_treaty (wsV RX11 205 RX11 yX11_childAt wsX11_childAt) := goodIn_app (goodIn_of _ (by decide +kernel)) ggX11_treaty_X11_childAt
set_option maxRecDepth 20000 in
theorem ggX11_treaty_X11_isWithin : GoodIn wsX11_treaty wsX11_isWithin := goodIn_r _ [13] (by decide +kernel) (by decide +kernel)
set_option maxRecDepth 20000 in
theorem gX11_treaty_X11_isWithin : GoodIn wsX11_treaty (va_wsS RX11 201 yX11_isWithin wsX11_isWithin) := goodIn_app (goodIn_of _ (by decide +kernel)) ggX11_treaty_X11_isWithin
set_option maxRecDepth 20000 in
theorem ggX11_treaty_X9_settle : GoodIn wsX11_treaty wsX9_settle := goodIn_r _ [18, 19, 20, 21, 22, 23, 24, 25, 26, 27, 28, 29, 17, 30, 31, 32, 33, 34, 35, 36, 37, 38, 39, 40, 41, 42, 43, 44, 45, 46, 47, 48, 49, 50, 51, 52, 53, 54, 55, 56, 57, 58, 59, 60, 61, 62, 63, 64, 65, 66, 67, 68, 69, 70, 71, 72, 73, 74, 75, 76, 77, 78, 79, 80, 81, 82, 83, 84, 85, 86, 87, 88, 89, 90, 91, 92, 93, 94, 95, 96, 97, 98, 99, 100, 101, 102, 103, 104, 105, 106, 107, 108, 109, 110, 111, 112, 113, 114, 115, 116, 117, 118, 119, 120, 121, 122, 123, 124, 125, 126, 127, 128, 149, 150, 151, 152, 153, 154, 155, 156, 157, 158, 159, 160, 161] (by decide +kernel) (by decide +kernel)
set_option maxRecDepth 20000 in
theorem gX11_treaty_X9_settle : GoodIn wsX11_treaty (wsV RX11 265 RX9 yX9_settle wsX9_settle) := goodIn_app (goodIn_of _ (by decide +kernel)) ggX11_treaty_X9_settle
set_option maxRecDepth 20000 in
theorem ggX11_treaty_X9_firstPan : GoodIn wsX11_treaty wsX9_firstPan := goodIn_r _ [132, 123, 149, 150, 151, 152, 153] (by decide +kernel) (by decide +kernel)
set_option maxRecDepth 20000 in
theorem gX11_treaty_X9_firstPan : GoodIn wsX11_treaty (wsV RX11 269 RX9 yX9_firstPan wsX9_firstPan) := goodIn_app (goodIn_of _ (by decide +kernel)) ggX11_treaty_X9_firstPan
theorem dX11_treaty_0 : decode cX11_treaty 0 = .ok (.aload_n 0, 1) := by decide +kernel
theorem dX11_treaty_1 : decode cX11_treaty 1 = .ok (.iload_n 1, 1) := by decide +kernel
theorem dX11_treaty_2 : decode cX11_treaty 2 = .ok (.invokevirtual 205, 3) := by decide +kernel
theorem dX11_treaty_5 : decode cX11_treaty 5 = .ok (.astore 4, 2) := by decide +kernel
theorem dX11_treaty_7 : decode cX11_treaty 7 = .ok (.aload_n 0, 1) := by decide +kernel
theorem dX11_treaty_8 : decode cX11_treaty 8 = .ok (.iload_n 2, 1) := by decide +kernel
theorem dX11_treaty_9 : decode cX11_treaty 9 = .ok (.invokevirtual 205, 3) := by decide +kernel
theorem dX11_treaty_12 : decode cX11_treaty 12 = .ok (.astore 5, 2) := by decide +kernel
theorem dX11_treaty_14 : decode cX11_treaty 14 = .ok (.aload 4, 2) := by decide +kernel
theorem dX11_treaty_16 : decode cX11_treaty 16 = .ok (.ifnull 13, 3) := by decide +kernel
theorem dX11_treaty_19 : decode cX11_treaty 19 = .ok (.aload 5, 2) := by decide +kernel
theorem dX11_treaty_21 : decode cX11_treaty 21 = .ok (.ifnull 8, 3) := by decide +kernel
theorem dX11_treaty_24 : decode cX11_treaty 24 = .ok (.iload_n 1, 1) := by decide +kernel
theorem dX11_treaty_25 : decode cX11_treaty 25 = .ok (.iload_n 2, 1) := by decide +kernel
theorem dX11_treaty_26 : decode cX11_treaty 26 = .ok (.if_icmp .ne 6, 3) := by decide +kernel
theorem dX11_treaty_29 : decode cX11_treaty 29 = .ok (.bipush (-101), 2) := by decide +kernel
theorem dX11_treaty_31 : decode cX11_treaty 31 = .ok (.ireturn, 1) := by decide +kernel
theorem dX11_treaty_32 : decode cX11_treaty 32 = .ok (.iload_n 3, 1) := by decide +kernel
theorem dX11_treaty_33 : decode cX11_treaty 33 = .ok (.iconst 0, 1) := by decide +kernel
theorem dX11_treaty_34 : decode cX11_treaty 34 = .ok (.iconst 1, 1) := by decide +kernel
theorem dX11_treaty_35 : decode cX11_treaty 35 = .ok (.invokestatic 201, 3) := by decide +kernel
theorem dX11_treaty_38 : decode cX11_treaty 38 = .ok (.ifCond .ne 6, 3) := by decide +kernel
theorem dX11_treaty_41 : decode cX11_treaty 41 = .ok (.bipush (-102), 2) := by decide +kernel
theorem dX11_treaty_43 : decode cX11_treaty 43 = .ok (.ireturn, 1) := by decide +kernel
theorem dX11_treaty_44 : decode cX11_treaty 44 = .ok (.aload_n 0, 1) := by decide +kernel
theorem dX11_treaty_45 : decode cX11_treaty 45 = .ok (.getfield 262, 3) := by decide +kernel
theorem dX11_treaty_48 : decode cX11_treaty 48 = .ok (.bipush 40, 2) := by decide +kernel
theorem dX11_treaty_50 : decode cX11_treaty 50 = .ok (.if_icmp .lt 6, 3) := by decide +kernel
theorem dX11_treaty_53 : decode cX11_treaty 53 = .ok (.bipush (-103), 2) := by decide +kernel
theorem dX11_treaty_55 : decode cX11_treaty 55 = .ok (.ireturn, 1) := by decide +kernel
theorem dX11_treaty_56 : decode cX11_treaty 56 = .ok (.aload_n 0, 1) := by decide +kernel
theorem dX11_treaty_57 : decode cX11_treaty 57 = .ok (.dup, 1) := by decide +kernel
theorem dX11_treaty_58 : decode cX11_treaty 58 = .ok (.getfield 262, 3) := by decide +kernel
theorem dX11_treaty_61 : decode cX11_treaty 61 = .ok (.iconst 1, 1) := by decide +kernel
theorem dX11_treaty_62 : decode cX11_treaty 62 = .ok (.iadd, 1) := by decide +kernel
theorem dX11_treaty_63 : decode cX11_treaty 63 = .ok (.putfield 262, 3) := by decide +kernel
theorem dX11_treaty_66 : decode cX11_treaty 66 = .ok (.aload_n 0, 1) := by decide +kernel
theorem dX11_treaty_67 : decode cX11_treaty 67 = .ok (.getfield 62, 3) := by decide +kernel
theorem dX11_treaty_70 : decode cX11_treaty 70 = .ok (.aload 4, 2) := by decide +kernel
theorem dX11_treaty_72 : decode cX11_treaty 72 = .ok (.aload 5, 2) := by decide +kernel
theorem dX11_treaty_74 : decode cX11_treaty 74 = .ok (.aload_n 0, 1) := by decide +kernel
theorem dX11_treaty_75 : decode cX11_treaty 75 = .ok (.getfield 19, 3) := by decide +kernel
theorem dX11_treaty_78 : decode cX11_treaty 78 = .ok (.invokevirtual 265, 3) := by decide +kernel
theorem dX11_treaty_81 : decode cX11_treaty 81 = .ok (.istore 6, 2) := by decide +kernel
theorem dX11_treaty_83 : decode cX11_treaty 83 = .ok (.iload_n 3, 1) := by decide +kernel
theorem dX11_treaty_84 : decode cX11_treaty 84 = .ok (.ifCond .ne 12, 3) := by decide +kernel
theorem dX11_treaty_87 : decode cX11_treaty 87 = .ok (.sipush 1000, 3) := by decide +kernel
theorem dX11_treaty_90 : decode cX11_treaty 90 = .ok (.iload 6, 2) := by decide +kernel
theorem dX11_treaty_92 : decode cX11_treaty 92 = .ok (.iadd, 1) := by decide +kernel
theorem dX11_treaty_93 : decode cX11_treaty 93 = .ok (.goto 10, 3) := by decide +kernel
theorem dX11_treaty_96 : decode cX11_treaty 96 = .ok (.aload_n 0, 1) := by decide +kernel
theorem dX11_treaty_97 : decode cX11_treaty 97 = .ok (.getfield 62, 3) := by decide +kernel
theorem dX11_treaty_100 : decode cX11_treaty 100 = .ok (.invokevirtual 269, 3) := by decide +kernel
theorem dX11_treaty_103 : decode cX11_treaty 103 = .ok (.ireturn, 1) := by decide +kernel
set_option maxRecDepth 20000 in
theorem ggX11_odds_X7_at : GoodIn wsX11_odds wsX7_at := goodIn_r _ [6, 7, 8, 35, 36] (by decide +kernel) (by decide +kernel)
set_option maxRecDepth 20000 in
theorem gX11_odds_X7_at : GoodIn wsX11_odds (wsV RX11 165 RX7 yX7_at wsX7_at) := goodIn_app (goodIn_of _ (by decide +kernel)) ggX11_odds_X7_at
set_option maxRecDepth 20000 in
theorem ggX11_odds_X11_isWithin : GoodIn wsX11_odds wsX11_isWithin := goodIn_r _ [12] (by decide +kernel) (by decide +kernel)
set_option maxRecDepth 20000 in
theorem gX11_odds_X11_isWithin : GoodIn wsX11_odds (va_wsS RX11 201 yX11_isWithin wsX11_isWithin) := goodIn_app (goodIn_of _ (by decide +kernel)) ggX11_odds_X11_isWithin
set_option maxRecDepth 20000 in
theorem ggX11_odds_X11_waysWithoutFilm : GoodIn wsX11_odds wsX11_waysWithoutFilm := goodIn_r _ [15, 37, 38, 39, 40, 41, 42] (by decide +kernel) (by decide +kernel)
set_option maxRecDepth 20000 in
theorem gX11_odds_X11_waysWithoutFilm : GoodIn wsX11_odds (va_wsS RX11 272 yX11_waysWithoutFilm wsX11_waysWithoutFilm) := goodIn_app (goodIn_of _ (by decide +kernel)) ggX11_odds_X11_waysWithoutFilm
set_option maxRecDepth 20000 in
theorem ggX11_odds_X11_commonDivisor : GoodIn wsX11_odds wsX11_commonDivisor := goodIn_r _ [18] (by decide +kernel) (by decide +kernel)
set_option maxRecDepth 20000 in
theorem gX11_odds_X11_commonDivisor : GoodIn wsX11_odds (va_wsS RX11 276 yX11_commonDivisor wsX11_commonDivisor) := goodIn_app (goodIn_of _ (by decide +kernel)) ggX11_odds_X11_commonDivisor
theorem dX11_odds_0 : decode cX11_odds 0 = .ok (.aload_n 0, 1) := by decide +kernel
theorem dX11_odds_1 : decode cX11_odds 1 = .ok (.getfield 19, 3) := by decide +kernel
theorem dX11_odds_4 : decode cX11_odds 4 = .ok (.iload_n 1, 1) := by decide +kernel
theorem dX11_odds_5 : decode cX11_odds 5 = .ok (.invokevirtual 165, 3) := by decide +kernel
theorem dX11_odds_8 : decode cX11_odds 8 = .ok (.astore 5, 2) := by decide +kernel
theorem dX11_odds_10 : decode cX11_odds 10 = .ok (.aload 5, 2) := by decide +kernel
theorem dX11_odds_12 : decode cX11_odds 12 = .ok (.ifnonnull 6, 3) := by decide +kernel
theorem dX11_odds_15 : decode cX11_odds 15 = .ok (.bipush (-101), 2) := by decide +kernel
theorem dX11_odds_17 : decode cX11_odds 17 = .ok (.ireturn, 1) := by decide +kernel
theorem dX11_odds_18 : decode cX11_odds 18 = .ok (.iload_n 2, 1) := by decide +kernel
theorem dX11_odds_19 : decode cX11_odds 19 = .ok (.iconst 1, 1) := by decide +kernel
theorem dX11_odds_20 : decode cX11_odds 20 = .ok (.bipush 8, 2) := by decide +kernel
theorem dX11_odds_22 : decode cX11_odds 22 = .ok (.invokestatic 201, 3) := by decide +kernel
theorem dX11_odds_25 : decode cX11_odds 25 = .ok (.ifCond .eq 23, 3) := by decide +kernel
theorem dX11_odds_28 : decode cX11_odds 28 = .ok (.iload_n 3, 1) := by decide +kernel
theorem dX11_odds_29 : decode cX11_odds 29 = .ok (.iconst 0, 1) := by decide +kernel
theorem dX11_odds_30 : decode cX11_odds 30 = .ok (.bipush 10, 2) := by decide +kernel
theorem dX11_odds_32 : decode cX11_odds 32 = .ok (.invokestatic 201, 3) := by decide +kernel
theorem dX11_odds_35 : decode cX11_odds 35 = .ok (.ifCond .eq 13, 3) := by decide +kernel
theorem dX11_odds_38 : decode cX11_odds 38 = .ok (.iload 4, 2) := by decide +kernel
theorem dX11_odds_40 : decode cX11_odds 40 = .ok (.iconst 0, 1) := by decide +kernel
theorem dX11_odds_41 : decode cX11_odds 41 = .ok (.iconst 1, 1) := by decide +kernel
theorem dX11_odds_42 : decode cX11_odds 42 = .ok (.invokestatic 201, 3) := by decide +kernel
theorem dX11_odds_45 : decode cX11_odds 45 = .ok (.ifCond .ne 6, 3) := by decide +kernel
theorem dX11_odds_48 : decode cX11_odds 48 = .ok (.bipush (-102), 2) := by decide +kernel
theorem dX11_odds_50 : decode cX11_odds 50 = .ok (.ireturn, 1) := by decide +kernel
theorem dX11_odds_51 : decode cX11_odds 51 = .ok (.iconst 1, 1) := by decide +kernel
theorem dX11_odds_52 : decode cX11_odds 52 = .ok (.istore 6, 2) := by decide +kernel
theorem dX11_odds_54 : decode cX11_odds 54 = .ok (.iconst 0, 1) := by decide +kernel
theorem dX11_odds_55 : decode cX11_odds 55 = .ok (.istore 7, 2) := by decide +kernel
theorem dX11_odds_57 : decode cX11_odds 57 = .ok (.iload 7, 2) := by decide +kernel
theorem dX11_odds_59 : decode cX11_odds 59 = .ok (.iload_n 2, 1) := by decide +kernel
theorem dX11_odds_60 : decode cX11_odds 60 = .ok (.if_icmp .ge 16, 3) := by decide +kernel
theorem dX11_odds_63 : decode cX11_odds 63 = .ok (.iload 6, 2) := by decide +kernel
theorem dX11_odds_65 : decode cX11_odds 65 = .ok (.bipush 10, 2) := by decide +kernel
theorem dX11_odds_67 : decode cX11_odds 67 = .ok (.imul, 1) := by decide +kernel
theorem dX11_odds_68 : decode cX11_odds 68 = .ok (.istore 6, 2) := by decide +kernel
theorem dX11_odds_70 : decode cX11_odds 70 = .ok (.iinc 7 1, 3) := by decide +kernel
theorem dX11_odds_73 : decode cX11_odds 73 = .ok (.goto (-16), 3) := by decide +kernel
theorem dX11_odds_76 : decode cX11_odds 76 = .ok (.iload 6, 2) := by decide +kernel
theorem dX11_odds_78 : decode cX11_odds 78 = .ok (.aload 5, 2) := by decide +kernel
theorem dX11_odds_80 : decode cX11_odds 80 = .ok (.iload_n 2, 1) := by decide +kernel
theorem dX11_odds_81 : decode cX11_odds 81 = .ok (.iload_n 3, 1) := by decide +kernel
theorem dX11_odds_82 : decode cX11_odds 82 = .ok (.iload 6, 2) := by decide +kernel
theorem dX11_odds_84 : decode cX11_odds 84 = .ok (.invokestatic 272, 3) := by decide +kernel
theorem dX11_odds_87 : decode cX11_odds 87 = .ok (.isub, 1) := by decide +kernel
theorem dX11_odds_88 : decode cX11_odds 88 = .ok (.istore 7, 2) := by decide +kernel
theorem dX11_odds_90 : decode cX11_odds 90 = .ok (.iload 6, 2) := by decide +kernel
theorem dX11_odds_92 : decode cX11_odds 92 = .ok (.iload 7, 2) := by decide +kernel
theorem dX11_odds_94 : decode cX11_odds 94 = .ok (.invokestatic 276, 3) := by decide +kernel
theorem dX11_odds_97 : decode cX11_odds 97 = .ok (.istore 8, 2) := by decide +kernel
theorem dX11_odds_99 : decode cX11_odds 99 = .ok (.iload 4, 2) := by decide +kernel
theorem dX11_odds_101 : decode cX11_odds 101 = .ok (.ifCond .ne 8, 3) := by decide +kernel
theorem dX11_odds_104 : decode cX11_odds 104 = .ok (.iload 7, 2) := by decide +kernel
theorem dX11_odds_106 : decode cX11_odds 106 = .ok (.goto 5, 3) := by decide +kernel
theorem dX11_odds_109 : decode cX11_odds 109 = .ok (.iload 6, 2) := by decide +kernel
theorem dX11_odds_111 : decode cX11_odds 111 = .ok (.istore 9, 2) := by decide +kernel
theorem dX11_odds_113 : decode cX11_odds 113 = .ok (.iload 8, 2) := by decide +kernel
theorem dX11_odds_115 : decode cX11_odds 115 = .ok (.ifCond .le 11, 3) := by decide +kernel
theorem dX11_odds_118 : decode cX11_odds 118 = .ok (.iload 9, 2) := by decide +kernel
theorem dX11_odds_120 : decode cX11_odds 120 = .ok (.iload 8, 2) := by decide +kernel
theorem dX11_odds_122 : decode cX11_odds 122 = .ok (.idiv, 1) := by decide +kernel
theorem dX11_odds_123 : decode cX11_odds 123 = .ok (.goto 5, 3) := by decide +kernel
theorem dX11_odds_126 : decode cX11_odds 126 = .ok (.iload 9, 2) := by decide +kernel
theorem dX11_odds_128 : decode cX11_odds 128 = .ok (.ireturn, 1) := by decide +kernel
theorem dX11_waysWithoutFilm_0 : decode cX11_waysWithoutFilm 0 = .ok (.aload_n 0, 1) := by decide +kernel
theorem dX11_waysWithoutFilm_1 : decode cX11_waysWithoutFilm 1 = .ok (.getfield 240, 3) := by decide +kernel
theorem dX11_waysWithoutFilm_4 : decode cX11_waysWithoutFilm 4 = .ok (.aload_n 0, 1) := by decide +kernel
theorem dX11_waysWithoutFilm_5 : decode cX11_waysWithoutFilm 5 = .ok (.getfield 279, 3) := by decide +kernel
theorem dX11_waysWithoutFilm_8 : decode cX11_waysWithoutFilm 8 = .ok (.iadd, 1) := by decide +kernel
theorem dX11_waysWithoutFilm_9 : decode cX11_waysWithoutFilm 9 = .ok (.ifCond .ne 5, 3) := by decide +kernel
theorem dX11_waysWithoutFilm_12 : decode cX11_waysWithoutFilm 12 = .ok (.iload_n 3, 1) := by decide +kernel
theorem dX11_waysWithoutFilm_13 : decode cX11_waysWithoutFilm 13 = .ok (.ireturn, 1) := by decide +kernel
theorem dX11_waysWithoutFilm_14 : decode cX11_waysWithoutFilm 14 = .ok (.aload_n 0, 1) := by decide +kernel
theorem dX11_waysWithoutFilm_15 : decode cX11_waysWithoutFilm 15 = .ok (.getfield 174, 3) := by decide +kernel
theorem dX11_waysWithoutFilm_18 : decode cX11_waysWithoutFilm 18 = .ok (.iconst 3, 1) := by decide +kernel
theorem dX11_waysWithoutFilm_19 : decode cX11_waysWithoutFilm 19 = .ok (.irem, 1) := by decide +kernel
theorem dX11_waysWithoutFilm_20 : decode cX11_waysWithoutFilm 20 = .ok (.istore 4, 2) := by decide +kernel
theorem dX11_waysWithoutFilm_22 : decode cX11_waysWithoutFilm 22 = .ok (.iload 4, 2) := by decide +kernel
theorem dX11_waysWithoutFilm_24 : decode cX11_waysWithoutFilm 24 = .ok (.ifCond .ne 7, 3) := by decide +kernel
theorem dX11_waysWithoutFilm_27 : decode cX11_waysWithoutFilm 27 = .ok (.iconst 1, 1) := by decide +kernel
theorem dX11_waysWithoutFilm_28 : decode cX11_waysWithoutFilm 28 = .ok (.goto 4, 3) := by decide +kernel
theorem dX11_waysWithoutFilm_31 : decode cX11_waysWithoutFilm 31 = .ok (.iconst 0, 1) := by decide +kernel
theorem dX11_waysWithoutFilm_32 : decode cX11_waysWithoutFilm 32 = .ok (.istore 5, 2) := by decide +kernel
theorem dX11_waysWithoutFilm_34 : decode cX11_waysWithoutFilm 34 = .ok (.iload 4, 2) := by decide +kernel
theorem dX11_waysWithoutFilm_36 : decode cX11_waysWithoutFilm 36 = .ok (.iconst 1, 1) := by decide +kernel
theorem dX11_waysWithoutFilm_37 : decode cX11_waysWithoutFilm 37 = .ok (.if_icmp .ne 7, 3) := by decide +kernel
theorem dX11_waysWithoutFilm_40 : decode cX11_waysWithoutFilm 40 = .ok (.iconst 1, 1) := by decide +kernel
theorem dX11_waysWithoutFilm_41 : decode cX11_waysWithoutFilm 41 = .ok (.goto 4, 3) := by decide +kernel
theorem dX11_waysWithoutFilm_44 : decode cX11_waysWithoutFilm 44 = .ok (.iconst 0, 1) := by decide +kernel
theorem dX11_waysWithoutFilm_45 : decode cX11_waysWithoutFilm 45 = .ok (.istore 6, 2) := by decide +kernel
theorem dX11_waysWithoutFilm_47 : decode cX11_waysWithoutFilm 47 = .ok (.iload 4, 2) := by decide +kernel
theorem dX11_waysWithoutFilm_49 : decode cX11_waysWithoutFilm 49 = .ok (.iconst 2, 1) := by decide +kernel
theorem dX11_waysWithoutFilm_50 : decode cX11_waysWithoutFilm 50 = .ok (.if_icmp .ne 7, 3) := by decide +kernel
theorem dX11_waysWithoutFilm_53 : decode cX11_waysWithoutFilm 53 = .ok (.iconst 1, 1) := by decide +kernel
theorem dX11_waysWithoutFilm_54 : decode cX11_waysWithoutFilm 54 = .ok (.goto 4, 3) := by decide +kernel
theorem dX11_waysWithoutFilm_57 : decode cX11_waysWithoutFilm 57 = .ok (.iconst 0, 1) := by decide +kernel
theorem dX11_waysWithoutFilm_58 : decode cX11_waysWithoutFilm 58 = .ok (.istore 7, 2) := by decide +kernel
theorem dX11_waysWithoutFilm_60 : decode cX11_waysWithoutFilm 60 = .ok (.iconst 0, 1) := by decide +kernel
theorem dX11_waysWithoutFilm_61 : decode cX11_waysWithoutFilm 61 = .ok (.istore 8, 2) := by decide +kernel
theorem dX11_waysWithoutFilm_63 : decode cX11_waysWithoutFilm 63 = .ok (.iload 8, 2) := by decide +kernel
theorem dX11_waysWithoutFilm_65 : decode cX11_waysWithoutFilm 65 = .ok (.iload_n 1, 1) := by decide +kernel
theorem dX11_waysWithoutFilm_66 : decode cX11_waysWithoutFilm 66 = .ok (.if_icmp .ge 40, 3) := by decide +kernel
theorem dX11_waysWithoutFilm_69 : decode cX11_waysWithoutFilm 69 = .ok (.iload 5, 2) := by decide +kernel
theorem dX11_waysWithoutFilm_71 : decode cX11_waysWithoutFilm 71 = .ok (.iload 6, 2) := by decide +kernel
theorem dX11_waysWithoutFilm_73 : decode cX11_waysWithoutFilm 73 = .ok (.iadd, 1) := by decide +kernel
theorem dX11_waysWithoutFilm_74 : decode cX11_waysWithoutFilm 74 = .ok (.iload 7, 2) := by decide +kernel
theorem dX11_waysWithoutFilm_76 : decode cX11_waysWithoutFilm 76 = .ok (.iadd, 1) := by decide +kernel
theorem dX11_waysWithoutFilm_77 : decode cX11_waysWithoutFilm 77 = .ok (.bipush 10, 2) := by decide +kernel
theorem dX11_waysWithoutFilm_79 : decode cX11_waysWithoutFilm 79 = .ok (.iload_n 2, 1) := by decide +kernel
theorem dX11_waysWithoutFilm_80 : decode cX11_waysWithoutFilm 80 = .ok (.isub, 1) := by decide +kernel
theorem dX11_waysWithoutFilm_81 : decode cX11_waysWithoutFilm 81 = .ok (.imul, 1) := by decide +kernel
theorem dX11_waysWithoutFilm_82 : decode cX11_waysWithoutFilm 82 = .ok (.istore 9, 2) := by decide +kernel
theorem dX11_waysWithoutFilm_84 : decode cX11_waysWithoutFilm 84 = .ok (.iload 6, 2) := by decide +kernel
theorem dX11_waysWithoutFilm_86 : decode cX11_waysWithoutFilm 86 = .ok (.iload_n 2, 1) := by decide +kernel
theorem dX11_waysWithoutFilm_87 : decode cX11_waysWithoutFilm 87 = .ok (.imul, 1) := by decide +kernel
theorem dX11_waysWithoutFilm_88 : decode cX11_waysWithoutFilm 88 = .ok (.istore 7, 2) := by decide +kernel
theorem dX11_waysWithoutFilm_90 : decode cX11_waysWithoutFilm 90 = .ok (.iload 5, 2) := by decide +kernel
theorem dX11_waysWithoutFilm_92 : decode cX11_waysWithoutFilm 92 = .ok (.iload_n 2, 1) := by decide +kernel
theorem dX11_waysWithoutFilm_93 : decode cX11_waysWithoutFilm 93 = .ok (.imul, 1) := by decide +kernel
theorem dX11_waysWithoutFilm_94 : decode cX11_waysWithoutFilm 94 = .ok (.istore 6, 2) := by decide +kernel
theorem dX11_waysWithoutFilm_96 : decode cX11_waysWithoutFilm 96 = .ok (.iload 9, 2) := by decide +kernel
theorem dX11_waysWithoutFilm_98 : decode cX11_waysWithoutFilm 98 = .ok (.istore 5, 2) := by decide +kernel
theorem dX11_waysWithoutFilm_100 : decode cX11_waysWithoutFilm 100 = .ok (.iinc 8 1, 3) := by decide +kernel
theorem dX11_waysWithoutFilm_103 : decode cX11_waysWithoutFilm 103 = .ok (.goto (-40), 3) := by decide +kernel
theorem dX11_waysWithoutFilm_106 : decode cX11_waysWithoutFilm 106 = .ok (.iload 5, 2) := by decide +kernel
theorem dX11_waysWithoutFilm_108 : decode cX11_waysWithoutFilm 108 = .ok (.iload 6, 2) := by decide +kernel
theorem dX11_waysWithoutFilm_110 : decode cX11_waysWithoutFilm 110 = .ok (.iadd, 1) := by decide +kernel
theorem dX11_waysWithoutFilm_111 : decode cX11_waysWithoutFilm 111 = .ok (.iload 7, 2) := by decide +kernel
theorem dX11_waysWithoutFilm_113 : decode cX11_waysWithoutFilm 113 = .ok (.iadd, 1) := by decide +kernel
theorem dX11_waysWithoutFilm_114 : decode cX11_waysWithoutFilm 114 = .ok (.ireturn, 1) := by decide +kernel
theorem dX11_commonDivisor_0 : decode cX11_commonDivisor 0 = .ok (.iload_n 0, 1) := by decide +kernel
theorem dX11_commonDivisor_1 : decode cX11_commonDivisor 1 = .ok (.istore_n 2, 1) := by decide +kernel
theorem dX11_commonDivisor_2 : decode cX11_commonDivisor 2 = .ok (.iload_n 1, 1) := by decide +kernel
theorem dX11_commonDivisor_3 : decode cX11_commonDivisor 3 = .ok (.istore_n 3, 1) := by decide +kernel
theorem dX11_commonDivisor_4 : decode cX11_commonDivisor 4 = .ok (.iconst 0, 1) := by decide +kernel
theorem dX11_commonDivisor_5 : decode cX11_commonDivisor 5 = .ok (.istore 4, 2) := by decide +kernel
theorem dX11_commonDivisor_7 : decode cX11_commonDivisor 7 = .ok (.iload 4, 2) := by decide +kernel
theorem dX11_commonDivisor_9 : decode cX11_commonDivisor 9 = .ok (.bipush 64, 2) := by decide +kernel
theorem dX11_commonDivisor_11 : decode cX11_commonDivisor 11 = .ok (.if_icmp .ge 23, 3) := by decide +kernel
theorem dX11_commonDivisor_14 : decode cX11_commonDivisor 14 = .ok (.iload_n 3, 1) := by decide +kernel
theorem dX11_commonDivisor_15 : decode cX11_commonDivisor 15 = .ok (.ifCond .eq 19, 3) := by decide +kernel
theorem dX11_commonDivisor_18 : decode cX11_commonDivisor 18 = .ok (.iload_n 2, 1) := by decide +kernel
theorem dX11_commonDivisor_19 : decode cX11_commonDivisor 19 = .ok (.iload_n 3, 1) := by decide +kernel
theorem dX11_commonDivisor_20 : decode cX11_commonDivisor 20 = .ok (.irem, 1) := by decide +kernel
theorem dX11_commonDivisor_21 : decode cX11_commonDivisor 21 = .ok (.istore 5, 2) := by decide +kernel
theorem dX11_commonDivisor_23 : decode cX11_commonDivisor 23 = .ok (.iload_n 3, 1) := by decide +kernel
theorem dX11_commonDivisor_24 : decode cX11_commonDivisor 24 = .ok (.istore_n 2, 1) := by decide +kernel
theorem dX11_commonDivisor_25 : decode cX11_commonDivisor 25 = .ok (.iload 5, 2) := by decide +kernel
theorem dX11_commonDivisor_27 : decode cX11_commonDivisor 27 = .ok (.istore_n 3, 1) := by decide +kernel
theorem dX11_commonDivisor_28 : decode cX11_commonDivisor 28 = .ok (.iinc 4 1, 3) := by decide +kernel
theorem dX11_commonDivisor_31 : decode cX11_commonDivisor 31 = .ok (.goto (-24), 3) := by decide +kernel
theorem dX11_commonDivisor_34 : decode cX11_commonDivisor 34 = .ok (.iload_n 2, 1) := by decide +kernel
theorem dX11_commonDivisor_35 : decode cX11_commonDivisor 35 = .ok (.ireturn, 1) := by decide +kernel
set_option maxRecDepth 20000 in
theorem ggX11_see_X7_at : GoodIn wsX11_see wsX7_at := goodIn_r _ [7, 8, 9, 48, 49] (by decide +kernel) (by decide +kernel)
set_option maxRecDepth 20000 in
theorem gX11_see_X7_at : GoodIn wsX11_see (wsV RX11 165 RX7 yX7_at wsX7_at) := goodIn_app (goodIn_of _ (by decide +kernel)) ggX11_see_X7_at
set_option maxRecDepth 20000 in
theorem ggX11_see_X11_isWithin : GoodIn wsX11_see wsX11_isWithin := goodIn_r _ [13] (by decide +kernel) (by decide +kernel)
set_option maxRecDepth 20000 in
theorem gX11_see_X11_isWithin : GoodIn wsX11_see (va_wsS RX11 201 yX11_isWithin wsX11_isWithin) := goodIn_app (goodIn_of _ (by decide +kernel)) ggX11_see_X11_isWithin
set_option maxRecDepth 20000 in
theorem ggX11_see_X8_isFull : GoodIn wsX11_see wsX8_isFull := goodIn_r _ [18, 19, 50, 51, 52, 53] (by decide +kernel) (by decide +kernel)
set_option maxRecDepth 20000 in
theorem gX11_see_X8_isFull : GoodIn wsX11_see (wsV RX11 282 RX8 yX8_isFull wsX8_isFull) := goodIn_app (goodIn_of _ (by decide +kernel)) ggX11_see_X8_isFull
set_option maxRecDepth 20000 in
theorem ggX11_see_X8_add : GoodIn wsX11_see wsX8_add := goodIn_r _ [23, 24, 19, 25, 26, 27, 15, 16, 17, 18, 50, 51, 52, 53] (by decide +kernel) (by decide +kernel)
set_option maxRecDepth 20000 in
theorem gX11_see_X8_add : GoodIn wsX11_see (wsV RX11 283 RX8 yX8_add wsX8_add) := goodIn_app (goodIn_of _ (by decide +kernel)) ggX11_see_X8_add
set_option maxRecDepth 20000 in
theorem ggX11_see_X8_size : GoodIn wsX11_see wsX8_size := goodIn_r _ [31, 19, 50, 51, 52, 53] (by decide +kernel) (by decide +kernel)
set_option maxRecDepth 20000 in
theorem gX11_see_X8_size : GoodIn wsX11_see (wsV RX11 284 RX8 yX8_size wsX8_size) := goodIn_app (goodIn_of _ (by decide +kernel)) ggX11_see_X8_size
theorem dX11_see_0 : decode cX11_see 0 = .ok (.aload_n 0, 1) := by decide +kernel
theorem dX11_see_1 : decode cX11_see 1 = .ok (.getfield 19, 3) := by decide +kernel
theorem dX11_see_4 : decode cX11_see 4 = .ok (.iload_n 1, 1) := by decide +kernel
theorem dX11_see_5 : decode cX11_see 5 = .ok (.invokevirtual 165, 3) := by decide +kernel
theorem dX11_see_8 : decode cX11_see 8 = .ok (.ifnonnull 6, 3) := by decide +kernel
theorem dX11_see_11 : decode cX11_see 11 = .ok (.bipush (-101), 2) := by decide +kernel
theorem dX11_see_13 : decode cX11_see 13 = .ok (.ireturn, 1) := by decide +kernel
theorem dX11_see_14 : decode cX11_see 14 = .ok (.iload_n 2, 1) := by decide +kernel
theorem dX11_see_15 : decode cX11_see 15 = .ok (.iconst 1, 1) := by decide +kernel
theorem dX11_see_16 : decode cX11_see 16 = .ok (.bipush 12, 2) := by decide +kernel
theorem dX11_see_18 : decode cX11_see 18 = .ok (.invokestatic 201, 3) := by decide +kernel
theorem dX11_see_21 : decode cX11_see 21 = .ok (.ifCond .eq 13, 3) := by decide +kernel
theorem dX11_see_24 : decode cX11_see 24 = .ok (.iload_n 3, 1) := by decide +kernel
theorem dX11_see_25 : decode cX11_see 25 = .ok (.iconst 0, 1) := by decide +kernel
theorem dX11_see_26 : decode cX11_see 26 = .ok (.bipush 40, 2) := by decide +kernel
theorem dX11_see_28 : decode cX11_see 28 = .ok (.invokestatic 201, 3) := by decide +kernel
theorem dX11_see_31 : decode cX11_see 31 = .ok (.ifCond .ne 6, 3) := by decide +kernel
theorem dX11_see_34 : decode cX11_see 34 = .ok (.bipush (-102), 2) := by decide +kernel
theorem dX11_see_36 : decode cX11_see 36 = .ok (.ireturn, 1) := by decide +kernel
theorem dX11_see_37 : decode cX11_see 37 = .ok (.aload_n 0, 1) := by decide +kernel
theorem dX11_see_38 : decode cX11_see 38 = .ok (.getfield 32, 3) := by decide +kernel
theorem dX11_see_41 : decode cX11_see 41 = .ok (.invokevirtual 282, 3) := by decide +kernel
theorem dX11_see_44 : decode cX11_see 44 = .ok (.ifCond .eq 6, 3) := by decide +kernel
theorem dX11_see_47 : decode cX11_see 47 = .ok (.bipush (-104), 2) := by decide +kernel
theorem dX11_see_49 : decode cX11_see 49 = .ok (.ireturn, 1) := by decide +kernel
theorem dX11_see_50 : decode cX11_see 50 = .ok (.aload_n 0, 1) := by decide +kernel
theorem dX11_see_51 : decode cX11_see 51 = .ok (.getfield 32, 3) := by decide +kernel
theorem dX11_see_54 : decode cX11_see 54 = .ok (.iload_n 1, 1) := by decide +kernel
theorem dX11_see_55 : decode cX11_see 55 = .ok (.iload_n 2, 1) := by decide +kernel
theorem dX11_see_56 : decode cX11_see 56 = .ok (.iload_n 3, 1) := by decide +kernel
theorem dX11_see_57 : decode cX11_see 57 = .ok (.invokevirtual 283, 3) := by decide +kernel
theorem dX11_see_60 : decode cX11_see 60 = .ok (.aload_n 0, 1) := by decide +kernel
theorem dX11_see_61 : decode cX11_see 61 = .ok (.getfield 32, 3) := by decide +kernel
theorem dX11_see_64 : decode cX11_see 64 = .ok (.invokevirtual 284, 3) := by decide +kernel
theorem dX11_see_67 : decode cX11_see 67 = .ok (.ireturn, 1) := by decide +kernel
set_option maxRecDepth 20000 in
theorem ggX11_forget_X8_clear : GoodIn wsX11_forget wsX8_clear := goodIn_r _ [6, 7, 24, 25, 26, 27] (by decide +kernel) (by decide +kernel)
set_option maxRecDepth 20000 in
theorem gX11_forget_X8_clear : GoodIn wsX11_forget (wsV RX11 97 RX8 yX8_clear wsX8_clear) := goodIn_app (goodIn_of _ (by decide +kernel)) ggX11_forget_X8_clear
theorem dX11_forget_0 : decode cX11_forget 0 = .ok (.aload_n 0, 1) := by decide +kernel
theorem dX11_forget_1 : decode cX11_forget 1 = .ok (.getfield 32, 3) := by decide +kernel
theorem dX11_forget_4 : decode cX11_forget 4 = .ok (.invokevirtual 97, 3) := by decide +kernel
theorem dX11_forget_7 : decode cX11_forget 7 = .ok (.ireturn, 1) := by decide +kernel
set_option maxRecDepth 20000 in
theorem ggX11_nights_X11_isWithin : GoodIn wsX11_nights wsX11_isWithin := goodIn_r _ [7] (by decide +kernel) (by decide +kernel)
set_option maxRecDepth 20000 in
theorem gX11_nights_X11_isWithin : GoodIn wsX11_nights (va_wsS RX11 201 yX11_isWithin wsX11_isWithin) := goodIn_app (goodIn_of _ (by decide +kernel)) ggX11_nights_X11_isWithin
set_option maxRecDepth 20000 in
theorem ggX11_nights_X11_hasDairy : GoodIn wsX11_nights wsX11_hasDairy := goodIn_r _ [11, 12, 158, 159, 160, 161, 162, 163, 164, 165, 166, 167, 168, 169, 170, 171, 172, 173] (by decide +kernel) (by decide +kernel)
set_option maxRecDepth 20000 in
theorem gX11_nights_X11_hasDairy : GoodIn wsX11_nights (wsV RX11 224 RX11 yX11_hasDairy wsX11_hasDairy) := goodIn_app (goodIn_of _ (by decide +kernel)) ggX11_nights_X11_hasDairy
set_option maxRecDepth 20000 in
theorem ggX11_nights_X7_copyFrom : GoodIn wsX11_nights wsX7_copyFrom := goodIn_r _ [17, 18, 19, 20, 21, 22, 23, 24, 25, 26, 27, 28, 29, 30, 31, 32, 33, 34, 174, 175, 176, 177, 178, 179, 180, 181] (by decide +kernel) (by decide +kernel)
set_option maxRecDepth 20000 in
theorem gX11_nights_X7_copyFrom : GoodIn wsX11_nights (wsV RX11 285 RX7 yX7_copyFrom wsX7_copyFrom) := goodIn_app (goodIn_of _ (by decide +kernel)) ggX11_nights_X7_copyFrom
set_option maxRecDepth 20000 in
theorem ggX11_nights_X11_nextSeed : GoodIn wsX11_nights wsX11_nextSeed := goodIn_r _ [37, 38, 39, 40] (by decide +kernel) (by decide +kernel)
set_option maxRecDepth 20000 in
theorem gX11_nights_X11_nextSeed : GoodIn wsX11_nights (va_wsS RX11 288 yX11_nextSeed wsX11_nextSeed) := goodIn_app (goodIn_of _ (by decide +kernel)) ggX11_nights_X11_nextSeed
set_option maxRecDepth 20000 in
theorem ggX11_nights_X11_draw : GoodIn wsX11_nights wsX11_draw := goodIn_r _ [43, 44] (by decide +kernel) (by decide +kernel)
set_option maxRecDepth 20000 in
theorem gX11_nights_X11_draw : GoodIn wsX11_nights (va_wsS RX11 291 yX11_draw wsX11_draw) := goodIn_app (goodIn_of _ (by decide +kernel)) ggX11_nights_X11_draw
set_option maxRecDepth 20000 in
theorem ggX11_nights_X7_standHour : GoodIn wsX11_nights wsX7_standHour := goodIn_r _ [48, 18, 19, 49, 50, 51, 27, 52, 31, 53, 21, 22, 23, 32, 30, 33, 54, 55, 56, 57, 29, 174, 175, 176, 177, 178, 179, 180, 181] (by decide +kernel) (by decide +kernel)
set_option maxRecDepth 20000 in
theorem gX11_nights_X7_standHour : GoodIn wsX11_nights (wsV RX11 227 RX7 yX7_standHour wsX7_standHour) := goodIn_app (goodIn_of _ (by decide +kernel)) ggX11_nights_X7_standHour
set_option maxRecDepth 20000 in
theorem ggX11_nights_X11_childAt : GoodIn wsX11_nights wsX11_childAt := goodIn_r _ [61, 3, 62, 4, 5, 6, 7, 158, 159, 160, 161, 162, 163, 164, 165, 166, 167, 168, 169, 170, 171, 172, 173] (by decide +kernel) (by decide +kernel)
set_option maxRecDepth 20000 in
theorem gX11_nights_X11_childAt : GoodIn wsX11_nights (wsV RX11 205 RX11 yX11_childAt wsX11_childAt) := goodIn_app (goodIn_of _ (by decide +kernel)) ggX11_nights_X11_childAt
set_option maxRecDepth 20000 in
theorem ggX11_nights_X7_size : GoodIn wsX11_nights wsX7_size := goodIn_r _ [66, 18, 174, 175] (by decide +kernel) (by decide +kernel)
set_option maxRecDepth 20000 in
theorem gX11_nights_X7_size : GoodIn wsX11_nights (wsV RX11 294 RX7 yX7_size wsX7_size) := goodIn_app (goodIn_of _ (by decide +kernel)) ggX11_nights_X7_size
set_option maxRecDepth 20000 in
theorem ggX11_nights_X7_takeFrom : GoodIn wsX11_nights wsX7_takeFrom := goodIn_r _ [70, 71, 72, 73, 16, 74, 18, 19, 75, 76, 77, 27, 78, 33, 32, 34, 79, 80, 81, 82, 30, 83, 174, 175, 176, 177, 178, 179, 180, 181] (by decide +kernel) (by decide +kernel)
set_option maxRecDepth 20000 in
theorem gX11_nights_X7_takeFrom : GoodIn wsX11_nights (wsV RX11 295 RX7 yX7_takeFrom wsX7_takeFrom) := goodIn_app (goodIn_of _ (by decide +kernel)) ggX11_nights_X7_takeFrom
set_option maxRecDepth 20000 in
theorem ggX11_nights_X0_worthOf : GoodIn wsX11_nights wsX0_worthOf := goodIn_r _ [88, 89, 90, 91, 87, 92, 93, 94, 95, 96, 97, 98, 99, 100, 101, 102, 103, 104, 105, 106, 107, 108, 109, 110, 111, 112, 113, 114, 115, 116, 117, 118, 119, 120, 121, 122, 123, 124, 125, 126, 127, 128, 129, 130, 131, 132, 133, 134, 135, 136, 137, 138, 139, 140, 141, 142, 143, 144, 145, 146, 147, 148, 149, 150, 151] (by decide +kernel) (by decide +kernel)
set_option maxRecDepth 20000 in
theorem gX11_nights_X0_worthOf : GoodIn wsX11_nights (wsV RX11 217 RX0 yX0_worthOf wsX0_worthOf) := goodIn_app (goodIn_of _ (by decide +kernel)) ggX11_nights_X0_worthOf
set_option maxRecDepth 20000 in
theorem gX11_nights_X0_worthOf_u217X1 : GoodIn wsX11_nights (va_wsU RX11 217 RX1 "SkimmedSons$Child" ⟨"SkimmedSons$Child", "worthOf", "(I)I"⟩ yX0_worthOf wsX0_worthOf) := goodIn_app (goodIn_of _ (by decide +kernel)) ggX11_nights_X0_worthOf
set_option maxRecDepth 20000 in
theorem gX11_nights_X0_worthOf_u217X2 : GoodIn wsX11_nights (va_wsU RX11 217 RX2 "SkimmedSons$Child" ⟨"SkimmedSons$Child", "worthOf", "(I)I"⟩ yX0_worthOf wsX0_worthOf) := goodIn_app (goodIn_of _ (by decide +kernel)) ggX11_nights_X0_worthOf
set_option maxRecDepth 20000 in
theorem gX11_nights_X0_worthOf_u217X6 : GoodIn wsX11_nights (va_wsU RX11 217 RX6 "SkimmedSons$Child" ⟨"SkimmedSons$Child", "worthOf", "(I)I"⟩ yX0_worthOf wsX0_worthOf) := goodIn_app (goodIn_of _ (by decide +kernel)) ggX11_nights_X0_worthOf
set_option maxRecDepth 20000 in
theorem gX11_nights_X0_worthOf_u217X10 : GoodIn wsX11_nights (va_wsU RX11 217 RX10 "SkimmedSons$Child" ⟨"SkimmedSons$Child", "worthOf", "(I)I"⟩ yX0_worthOf wsX0_worthOf) := goodIn_app (goodIn_of _ (by decide +kernel)) ggX11_nights_X0_worthOf
theorem dX11_nights_0 : decode cX11_nights 0 = .ok (.iload_n 1, 1) := by decide +kernel
theorem dX11_nights_1 : decode cX11_nights 1 = .ok (.iconst 1, 1) := by decide +kernel
theorem dX11_nights_2 : decode cX11_nights 2 = .ok (.bipush 60, 2) := by decide +kernel
theorem dX11_nights_4 : decode cX11_nights 4 = .ok (.invokestatic 201, 3) := by decide +kernel
theorem dX11_nights_7 : decode cX11_nights 7 = .ok (.ifCond .eq 16, 3) := by decide +kernel
theorem dX11_nights_10 : decode cX11_nights 10 = .ok (.iload_n 2, 1) := by decide +kernel
theorem dX11_nights_11 : decode cX11_nights 11 = .ok (.ifCond .lt 12, 3) := by decide +kernel
theorem dX11_nights_14 : decode cX11_nights 14 = .ok (.iload_n 3, 1) := by decide +kernel
theorem dX11_nights_15 : decode cX11_nights 15 = .ok (.iconst 0, 1) := by decide +kernel
theorem dX11_nights_16 : decode cX11_nights 16 = .ok (.iconst 2, 1) := by decide +kernel
theorem dX11_nights_17 : decode cX11_nights 17 = .ok (.invokestatic 201, 3) := by decide +kernel
theorem dX11_nights_20 : decode cX11_nights 20 = .ok (.ifCond .ne 6, 3) := by decide +kernel
theorem dX11_nights_23 : decode cX11_nights 23 = .ok (.bipush (-102), 2) := by decide +kernel
theorem dX11_nights_25 : decode cX11_nights 25 = .ok (.ireturn, 1) := by decide +kernel
theorem dX11_nights_26 : decode cX11_nights 26 = .ok (.aload_n 0, 1) := by decide +kernel
theorem dX11_nights_27 : decode cX11_nights 27 = .ok (.invokevirtual 224, 3) := by decide +kernel
theorem dX11_nights_30 : decode cX11_nights 30 = .ok (.ifCond .ne 6, 3) := by decide +kernel
theorem dX11_nights_33 : decode cX11_nights 33 = .ok (.bipush (-103), 2) := by decide +kernel
theorem dX11_nights_35 : decode cX11_nights 35 = .ok (.ireturn, 1) := by decide +kernel
theorem dX11_nights_36 : decode cX11_nights 36 = .ok (.aload_n 0, 1) := by decide +kernel
theorem dX11_nights_37 : decode cX11_nights 37 = .ok (.getfield 42, 3) := by decide +kernel
theorem dX11_nights_40 : decode cX11_nights 40 = .ok (.aload_n 0, 1) := by decide +kernel
theorem dX11_nights_41 : decode cX11_nights 41 = .ok (.getfield 19, 3) := by decide +kernel
theorem dX11_nights_44 : decode cX11_nights 44 = .ok (.invokevirtual 285, 3) := by decide +kernel
theorem dX11_nights_47 : decode cX11_nights 47 = .ok (.iload_n 2, 1) := by decide +kernel
theorem dX11_nights_48 : decode cX11_nights 48 = .ok (.istore 4, 2) := by decide +kernel
theorem dX11_nights_50 : decode cX11_nights 50 = .ok (.iconst 0, 1) := by decide +kernel
theorem dX11_nights_51 : decode cX11_nights 51 = .ok (.istore 5, 2) := by decide +kernel
theorem dX11_nights_53 : decode cX11_nights 53 = .ok (.iconst 0, 1) := by decide +kernel
theorem dX11_nights_54 : decode cX11_nights 54 = .ok (.istore 6, 2) := by decide +kernel
theorem dX11_nights_56 : decode cX11_nights 56 = .ok (.iconst 0, 1) := by decide +kernel
theorem dX11_nights_57 : decode cX11_nights 57 = .ok (.istore 7, 2) := by decide +kernel
theorem dX11_nights_59 : decode cX11_nights 59 = .ok (.iload 7, 2) := by decide +kernel
theorem dX11_nights_61 : decode cX11_nights 61 = .ok (.iload_n 1, 1) := by decide +kernel
theorem dX11_nights_62 : decode cX11_nights 62 = .ok (.if_icmp .ge 122, 3) := by decide +kernel
theorem dX11_nights_65 : decode cX11_nights 65 = .ok (.iload 4, 2) := by decide +kernel
theorem dX11_nights_67 : decode cX11_nights 67 = .ok (.invokestatic 288, 3) := by decide +kernel
theorem dX11_nights_70 : decode cX11_nights 70 = .ok (.istore 4, 2) := by decide +kernel
theorem dX11_nights_72 : decode cX11_nights 72 = .ok (.iload 4, 2) := by decide +kernel
theorem dX11_nights_74 : decode cX11_nights 74 = .ok (.iconst 2, 1) := by decide +kernel
theorem dX11_nights_75 : decode cX11_nights 75 = .ok (.invokestatic 291, 3) := by decide +kernel
theorem dX11_nights_78 : decode cX11_nights 78 = .ok (.ifCond .ne 13, 3) := by decide +kernel
theorem dX11_nights_81 : decode cX11_nights 81 = .ok (.aload_n 0, 1) := by decide +kernel
theorem dX11_nights_82 : decode cX11_nights 82 = .ok (.getfield 42, 3) := by decide +kernel
theorem dX11_nights_85 : decode cX11_nights 85 = .ok (.invokevirtual 227, 3) := by decide +kernel
theorem dX11_nights_88 : decode cX11_nights 88 = .ok (.goto 90, 3) := by decide +kernel
theorem dX11_nights_91 : decode cX11_nights 91 = .ok (.iload 4, 2) := by decide +kernel
theorem dX11_nights_93 : decode cX11_nights 93 = .ok (.invokestatic 288, 3) := by decide +kernel
theorem dX11_nights_96 : decode cX11_nights 96 = .ok (.istore 4, 2) := by decide +kernel
theorem dX11_nights_98 : decode cX11_nights 98 = .ok (.aload_n 0, 1) := by decide +kernel
theorem dX11_nights_99 : decode cX11_nights 99 = .ok (.iload 4, 2) := by decide +kernel
theorem dX11_nights_101 : decode cX11_nights 101 = .ok (.aload_n 0, 1) := by decide +kernel
theorem dX11_nights_102 : decode cX11_nights 102 = .ok (.getfield 105, 3) := by decide +kernel
theorem dX11_nights_105 : decode cX11_nights 105 = .ok (.invokestatic 291, 3) := by decide +kernel
theorem dX11_nights_108 : decode cX11_nights 108 = .ok (.invokevirtual 205, 3) := by decide +kernel
theorem dX11_nights_111 : decode cX11_nights 111 = .ok (.astore 8, 2) := by decide +kernel
theorem dX11_nights_113 : decode cX11_nights 113 = .ok (.iload 4, 2) := by decide +kernel
theorem dX11_nights_115 : decode cX11_nights 115 = .ok (.invokestatic 288, 3) := by decide +kernel
theorem dX11_nights_118 : decode cX11_nights 118 = .ok (.istore 4, 2) := by decide +kernel
theorem dX11_nights_120 : decode cX11_nights 120 = .ok (.aload_n 0, 1) := by decide +kernel
theorem dX11_nights_121 : decode cX11_nights 121 = .ok (.getfield 42, 3) := by decide +kernel
theorem dX11_nights_124 : decode cX11_nights 124 = .ok (.iload 4, 2) := by decide +kernel
theorem dX11_nights_126 : decode cX11_nights 126 = .ok (.aload_n 0, 1) := by decide +kernel
theorem dX11_nights_127 : decode cX11_nights 127 = .ok (.getfield 42, 3) := by decide +kernel
theorem dX11_nights_130 : decode cX11_nights 130 = .ok (.invokevirtual 294, 3) := by decide +kernel
theorem dX11_nights_133 : decode cX11_nights 133 = .ok (.invokestatic 291, 3) := by decide +kernel
theorem dX11_nights_136 : decode cX11_nights 136 = .ok (.invokevirtual 295, 3) := by decide +kernel
theorem dX11_nights_139 : decode cX11_nights 139 = .ok (.istore 9, 2) := by decide +kernel
theorem dX11_nights_141 : decode cX11_nights 141 = .ok (.iload 5, 2) := by decide +kernel
theorem dX11_nights_143 : decode cX11_nights 143 = .ok (.iload 9, 2) := by decide +kernel
theorem dX11_nights_145 : decode cX11_nights 145 = .ok (.iconst 2, 1) := by decide +kernel
theorem dX11_nights_146 : decode cX11_nights 146 = .ok (.if_icmp .ne 7, 3) := by decide +kernel
theorem dX11_nights_149 : decode cX11_nights 149 = .ok (.iconst 1, 1) := by decide +kernel
theorem dX11_nights_150 : decode cX11_nights 150 = .ok (.goto 4, 3) := by decide +kernel
theorem dX11_nights_153 : decode cX11_nights 153 = .ok (.iconst 0, 1) := by decide +kernel
theorem dX11_nights_154 : decode cX11_nights 154 = .ok (.iadd, 1) := by decide +kernel
theorem dX11_nights_155 : decode cX11_nights 155 = .ok (.istore 5, 2) := by decide +kernel
theorem dX11_nights_157 : decode cX11_nights 157 = .ok (.iload 6, 2) := by decide +kernel
theorem dX11_nights_159 : decode cX11_nights 159 = .ok (.aload 8, 2) := by decide +kernel
theorem dX11_nights_161 : decode cX11_nights 161 = .ok (.ifnonnull 7, 3) := by decide +kernel
theorem dX11_nights_164 : decode cX11_nights 164 = .ok (.iconst 0, 1) := by decide +kernel
theorem dX11_nights_165 : decode cX11_nights 165 = .ok (.goto 10, 3) := by decide +kernel
theorem dX11_nights_168 : decode cX11_nights 168 = .ok (.aload 8, 2) := by decide +kernel
theorem dX11_nights_170 : decode cX11_nights 170 = .ok (.iload 9, 2) := by decide +kernel
theorem dX11_nights_172 : decode cX11_nights 172 = .ok (.invokevirtual 217, 3) := by decide +kernel
theorem dX11_nights_175 : decode cX11_nights 175 = .ok (.iadd, 1) := by decide +kernel
theorem dX11_nights_176 : decode cX11_nights 176 = .ok (.istore 6, 2) := by decide +kernel
theorem dX11_nights_178 : decode cX11_nights 178 = .ok (.iinc 7 1, 3) := by decide +kernel
theorem dX11_nights_181 : decode cX11_nights 181 = .ok (.goto (-122), 3) := by decide +kernel
theorem dX11_nights_184 : decode cX11_nights 184 = .ok (.iload_n 3, 1) := by decide +kernel
theorem dX11_nights_185 : decode cX11_nights 185 = .ok (.iconst 2, 1) := by decide +kernel
theorem dX11_nights_186 : decode cX11_nights 186 = .ok (.if_icmp .ne 6, 3) := by decide +kernel
theorem dX11_nights_189 : decode cX11_nights 189 = .ok (.iload 4, 2) := by decide +kernel
theorem dX11_nights_191 : decode cX11_nights 191 = .ok (.ireturn, 1) := by decide +kernel
theorem dX11_nights_192 : decode cX11_nights 192 = .ok (.iload_n 3, 1) := by decide +kernel
theorem dX11_nights_193 : decode cX11_nights 193 = .ok (.ifCond .ne 8, 3) := by decide +kernel
theorem dX11_nights_196 : decode cX11_nights 196 = .ok (.iload 5, 2) := by decide +kernel
theorem dX11_nights_198 : decode cX11_nights 198 = .ok (.goto 5, 3) := by decide +kernel
theorem dX11_nights_201 : decode cX11_nights 201 = .ok (.iload 6, 2) := by decide +kernel
theorem dX11_nights_203 : decode cX11_nights 203 = .ok (.ireturn, 1) := by decide +kernel
theorem dX11_nextSeed_0 : decode cX11_nextSeed 0 = .ok (.ldc2_w 298, 3) := by decide +kernel
theorem dX11_nextSeed_3 : decode cX11_nextSeed 3 = .ok (.iload_n 0, 1) := by decide +kernel
theorem dX11_nextSeed_4 : decode cX11_nextSeed 4 = .ok (.i2l, 1) := by decide +kernel
theorem dX11_nextSeed_5 : decode cX11_nextSeed 5 = .ok (.lmul, 1) := by decide +kernel
theorem dX11_nextSeed_6 : decode cX11_nextSeed 6 = .ok (.ldc2_w 300, 3) := by decide +kernel
theorem dX11_nextSeed_9 : decode cX11_nextSeed 9 = .ok (.ladd, 1) := by decide +kernel
theorem dX11_nextSeed_10 : decode cX11_nextSeed 10 = .ok (.ldc2_w 302, 3) := by decide +kernel
theorem dX11_nextSeed_13 : decode cX11_nextSeed 13 = .ok (.land, 1) := by decide +kernel
theorem dX11_nextSeed_14 : decode cX11_nextSeed 14 = .ok (.l2i, 1) := by decide +kernel
theorem dX11_nextSeed_15 : decode cX11_nextSeed 15 = .ok (.ireturn, 1) := by decide +kernel
theorem dX11_draw_0 : decode cX11_draw 0 = .ok (.iload_n 1, 1) := by decide +kernel
theorem dX11_draw_1 : decode cX11_draw 1 = .ok (.ifCond .gt 7, 3) := by decide +kernel
theorem dX11_draw_4 : decode cX11_draw 4 = .ok (.iconst (-1), 1) := by decide +kernel
theorem dX11_draw_5 : decode cX11_draw 5 = .ok (.goto 10, 3) := by decide +kernel
theorem dX11_draw_8 : decode cX11_draw 8 = .ok (.iload_n 0, 1) := by decide +kernel
theorem dX11_draw_9 : decode cX11_draw 9 = .ok (.ldc_w 304, 3) := by decide +kernel
theorem dX11_draw_12 : decode cX11_draw 12 = .ok (.idiv, 1) := by decide +kernel
theorem dX11_draw_13 : decode cX11_draw 13 = .ok (.iload_n 1, 1) := by decide +kernel
theorem dX11_draw_14 : decode cX11_draw 14 = .ok (.irem, 1) := by decide +kernel
theorem dX11_draw_15 : decode cX11_draw 15 = .ok (.ireturn, 1) := by decide +kernel
set_option maxRecDepth 20000 in
theorem ggX11_image_X11_hasDairy : GoodIn wsX11_image wsX11_hasDairy := goodIn_r _ [13, 14, 72, 73, 74, 75, 76, 77, 78, 79, 80, 81, 82, 83, 84, 85, 86, 87] (by decide +kernel) (by decide +kernel)
set_option maxRecDepth 20000 in
theorem gX11_image_X11_hasDairy : GoodIn wsX11_image (wsV RX11 224 RX11 yX11_hasDairy wsX11_hasDairy) := goodIn_app (goodIn_of _ (by decide +kernel)) ggX11_image_X11_hasDairy
set_option maxRecDepth 20000 in
theorem ggX11_image_X7_copyFrom : GoodIn wsX11_image wsX7_copyFrom := goodIn_r _ [19, 20, 21, 22, 23, 24, 25, 26, 27, 28, 29, 30, 31, 32, 33, 34, 35, 36, 88, 89, 90, 91, 92, 93, 94, 95] (by decide +kernel) (by decide +kernel)
set_option maxRecDepth 20000 in
theorem gX11_image_X7_copyFrom : GoodIn wsX11_image (wsV RX11 285 RX7 yX7_copyFrom wsX7_copyFrom) := goodIn_app (goodIn_of _ (by decide +kernel)) ggX11_image_X7_copyFrom
set_option maxRecDepth 20000 in
theorem ggX11_image_X8_copyFrom : GoodIn wsX11_image wsX8_copyFrom := goodIn_r _ [41, 42, 43, 44, 45, 46, 47, 48, 49, 96, 97, 98, 99] (by decide +kernel) (by decide +kernel)
set_option maxRecDepth 20000 in
theorem gX11_image_X8_copyFrom : GoodIn wsX11_image (wsV RX11 305 RX8 yX8_copyFrom wsX8_copyFrom) := goodIn_app (goodIn_of _ (by decide +kernel)) ggX11_image_X8_copyFrom
set_option maxRecDepth 20000 in
theorem ggX11_image_X11_childAt : GoodIn wsX11_image wsX11_childAt := goodIn_r _ [53, 5, 54, 55, 56, 12, 57, 72, 73, 74, 75, 76, 77, 78, 79, 80, 81, 82, 83, 84, 85, 86, 87] (by decide +kernel) (by decide +kernel)
set_option maxRecDepth 20000 in
theorem gX11_image_X11_childAt : GoodIn wsX11_image (wsV RX11 205 RX11 yX11_childAt wsX11_childAt) := goodIn_app (goodIn_of _ (by decide +kernel)) ggX11_image_X11_childAt
set_option maxRecDepth 20000 in
theorem ggX11_image_X0_keep : GoodIn wsX11_image wsX0_keep := goodIn_r _ [62, 63, 64, 65, 44, 45, 46, 100, 101, 102, 103, 104, 105, 106, 107, 108, 109] (by decide +kernel) (by decide +kernel)
set_option maxRecDepth 20000 in
theorem gX11_image_X0_keep : GoodIn wsX11_image (wsV RX11 308 RX0 yX0_keep wsX0_keep) := goodIn_app (goodIn_of _ (by decide +kernel)) ggX11_image_X0_keep
set_option maxRecDepth 20000 in
theorem gX11_image_X0_keep_u308X1 : GoodIn wsX11_image (va_wsU RX11 308 RX1 "SkimmedSons$Child" ⟨"SkimmedSons$Child", "keep", "()V"⟩ yX0_keep wsX0_keep) := goodIn_app (goodIn_of _ (by decide +kernel)) ggX11_image_X0_keep
set_option maxRecDepth 20000 in
theorem gX11_image_X0_keep_u308X2 : GoodIn wsX11_image (va_wsU RX11 308 RX2 "SkimmedSons$Child" ⟨"SkimmedSons$Child", "keep", "()V"⟩ yX0_keep wsX0_keep) := goodIn_app (goodIn_of _ (by decide +kernel)) ggX11_image_X0_keep
set_option maxRecDepth 20000 in
theorem gX11_image_X0_keep_u308X6 : GoodIn wsX11_image (va_wsU RX11 308 RX6 "SkimmedSons$Child" ⟨"SkimmedSons$Child", "keep", "()V"⟩ yX0_keep wsX0_keep) := goodIn_app (goodIn_of _ (by decide +kernel)) ggX11_image_X0_keep
set_option maxRecDepth 20000 in
theorem gX11_image_X0_keep_u308X10 : GoodIn wsX11_image (va_wsU RX11 308 RX10 "SkimmedSons$Child" ⟨"SkimmedSons$Child", "keep", "()V"⟩ yX0_keep wsX0_keep) := goodIn_app (goodIn_of _ (by decide +kernel)) ggX11_image_X0_keep
theorem dX11_image_0 : decode cX11_image 0 = .ok (.aload_n 0, 1) := by decide +kernel
theorem dX11_image_1 : decode cX11_image 1 = .ok (.invokevirtual 224, 3) := by decide +kernel
theorem dX11_image_4 : decode cX11_image 4 = .ok (.ifCond .ne 6, 3) := by decide +kernel
theorem dX11_image_7 : decode cX11_image 7 = .ok (.bipush (-103), 2) := by decide +kernel
theorem dX11_image_9 : decode cX11_image 9 = .ok (.ireturn, 1) := by decide +kernel
theorem dX11_image_10 : decode cX11_image 10 = .ok (.aload_n 0, 1) := by decide +kernel
theorem dX11_image_11 : decode cX11_image 11 = .ok (.getfield 36, 3) := by decide +kernel
theorem dX11_image_14 : decode cX11_image 14 = .ok (.aload_n 0, 1) := by decide +kernel
theorem dX11_image_15 : decode cX11_image 15 = .ok (.getfield 19, 3) := by decide +kernel
theorem dX11_image_18 : decode cX11_image 18 = .ok (.invokevirtual 285, 3) := by decide +kernel
theorem dX11_image_21 : decode cX11_image 21 = .ok (.aload_n 0, 1) := by decide +kernel
theorem dX11_image_22 : decode cX11_image 22 = .ok (.getfield 39, 3) := by decide +kernel
theorem dX11_image_25 : decode cX11_image 25 = .ok (.aload_n 0, 1) := by decide +kernel
theorem dX11_image_26 : decode cX11_image 26 = .ok (.getfield 32, 3) := by decide +kernel
theorem dX11_image_29 : decode cX11_image 29 = .ok (.invokevirtual 305, 3) := by decide +kernel
theorem dX11_image_32 : decode cX11_image 32 = .ok (.iconst 0, 1) := by decide +kernel
theorem dX11_image_33 : decode cX11_image 33 = .ok (.istore_n 1, 1) := by decide +kernel
theorem dX11_image_34 : decode cX11_image 34 = .ok (.iload_n 1, 1) := by decide +kernel
theorem dX11_image_35 : decode cX11_image 35 = .ok (.aload_n 0, 1) := by decide +kernel
theorem dX11_image_36 : decode cX11_image 36 = .ok (.getfield 105, 3) := by decide +kernel
theorem dX11_image_39 : decode cX11_image 39 = .ok (.if_icmp .ge 23, 3) := by decide +kernel
theorem dX11_image_42 : decode cX11_image 42 = .ok (.aload_n 0, 1) := by decide +kernel
theorem dX11_image_43 : decode cX11_image 43 = .ok (.iload_n 1, 1) := by decide +kernel
theorem dX11_image_44 : decode cX11_image 44 = .ok (.invokevirtual 205, 3) := by decide +kernel
theorem dX11_image_47 : decode cX11_image 47 = .ok (.astore_n 2, 1) := by decide +kernel
theorem dX11_image_48 : decode cX11_image 48 = .ok (.aload_n 2, 1) := by decide +kernel
theorem dX11_image_49 : decode cX11_image 49 = .ok (.ifnull 7, 3) := by decide +kernel
theorem dX11_image_52 : decode cX11_image 52 = .ok (.aload_n 2, 1) := by decide +kernel
theorem dX11_image_53 : decode cX11_image 53 = .ok (.invokevirtual 308, 3) := by decide +kernel
theorem dX11_image_56 : decode cX11_image 56 = .ok (.iinc 1 1, 3) := by decide +kernel
theorem dX11_image_59 : decode cX11_image 59 = .ok (.goto (-25), 3) := by decide +kernel
theorem dX11_image_62 : decode cX11_image 62 = .ok (.aload_n 0, 1) := by decide +kernel
theorem dX11_image_63 : decode cX11_image 63 = .ok (.aload_n 0, 1) := by decide +kernel
theorem dX11_image_64 : decode cX11_image 64 = .ok (.getfield 93, 3) := by decide +kernel
theorem dX11_image_67 : decode cX11_image 67 = .ok (.putfield 311, 3) := by decide +kernel
theorem dX11_image_70 : decode cX11_image 70 = .ok (.aload_n 0, 1) := by decide +kernel
theorem dX11_image_71 : decode cX11_image 71 = .ok (.iconst 1, 1) := by decide +kernel
theorem dX11_image_72 : decode cX11_image 72 = .ok (.putfield 98, 3) := by decide +kernel
theorem dX11_image_75 : decode cX11_image 75 = .ok (.aload_n 0, 1) := by decide +kernel
theorem dX11_image_76 : decode cX11_image 76 = .ok (.getfield 93, 3) := by decide +kernel
theorem dX11_image_79 : decode cX11_image 79 = .ok (.ireturn, 1) := by decide +kernel
set_option maxRecDepth 20000 in
theorem ggX11_restore_X7_copyFrom : GoodIn wsX11_restore wsX7_copyFrom := goodIn_r _ [13, 14, 15, 16, 17, 18, 19, 20, 21, 22, 23, 24, 25, 26, 27, 28, 29, 30, 83, 84, 85, 86, 87, 88, 89, 90] (by decide +kernel) (by decide +kernel)
set_option maxRecDepth 20000 in
theorem gX11_restore_X7_copyFrom : GoodIn wsX11_restore (wsV RX11 285 RX7 yX7_copyFrom wsX7_copyFrom) := goodIn_app (goodIn_of _ (by decide +kernel)) ggX11_restore_X7_copyFrom
set_option maxRecDepth 20000 in
theorem ggX11_restore_X8_copyFrom : GoodIn wsX11_restore wsX8_copyFrom := goodIn_r _ [35, 36, 37, 38, 39, 40, 41, 42, 43, 91, 92, 93, 94] (by decide +kernel) (by decide +kernel)
set_option maxRecDepth 20000 in
theorem gX11_restore_X8_copyFrom : GoodIn wsX11_restore (wsV RX11 305 RX8 yX8_copyFrom wsX8_copyFrom) := goodIn_app (goodIn_of _ (by decide +kernel)) ggX11_restore_X8_copyFrom
set_option maxRecDepth 20000 in
theorem ggX11_restore_X11_childAt : GoodIn wsX11_restore wsX11_childAt := goodIn_r _ [48, 6, 49, 50, 51, 47, 52, 67, 68, 69, 70, 71, 72, 73, 74, 75, 76, 77, 78, 79, 80, 81, 82] (by decide +kernel) (by decide +kernel)
set_option maxRecDepth 20000 in
theorem gX11_restore_X11_childAt : GoodIn wsX11_restore (wsV RX11 205 RX11 yX11_childAt wsX11_childAt) := goodIn_app (goodIn_of _ (by decide +kernel)) ggX11_restore_X11_childAt
set_option maxRecDepth 20000 in
theorem ggX11_restore_X0_goBack : GoodIn wsX11_restore wsX0_goBack := goodIn_r _ [57, 58, 59, 60, 38, 39, 40, 95, 96, 97, 98, 99, 100, 101, 102, 103, 104] (by decide +kernel) (by decide +kernel)
set_option maxRecDepth 20000 in
theorem gX11_restore_X0_goBack : GoodIn wsX11_restore (wsV RX11 314 RX0 yX0_goBack wsX0_goBack) := goodIn_app (goodIn_of _ (by decide +kernel)) ggX11_restore_X0_goBack
set_option maxRecDepth 20000 in
theorem gX11_restore_X0_goBack_u314X1 : GoodIn wsX11_restore (va_wsU RX11 314 RX1 "SkimmedSons$Child" ⟨"SkimmedSons$Child", "goBack", "()V"⟩ yX0_goBack wsX0_goBack) := goodIn_app (goodIn_of _ (by decide +kernel)) ggX11_restore_X0_goBack
set_option maxRecDepth 20000 in
theorem gX11_restore_X0_goBack_u314X2 : GoodIn wsX11_restore (va_wsU RX11 314 RX2 "SkimmedSons$Child" ⟨"SkimmedSons$Child", "goBack", "()V"⟩ yX0_goBack wsX0_goBack) := goodIn_app (goodIn_of _ (by decide +kernel)) ggX11_restore_X0_goBack
set_option maxRecDepth 20000 in
theorem gX11_restore_X0_goBack_u314X6 : GoodIn wsX11_restore (va_wsU RX11 314 RX6 "SkimmedSons$Child" ⟨"SkimmedSons$Child", "goBack", "()V"⟩ yX0_goBack wsX0_goBack) := goodIn_app (goodIn_of _ (by decide +kernel)) ggX11_restore_X0_goBack
set_option maxRecDepth 20000 in
theorem gX11_restore_X0_goBack_u314X10 : GoodIn wsX11_restore (va_wsU RX11 314 RX10 "SkimmedSons$Child" ⟨"SkimmedSons$Child", "goBack", "()V"⟩ yX0_goBack wsX0_goBack) := goodIn_app (goodIn_of _ (by decide +kernel)) ggX11_restore_X0_goBack
theorem dX11_restore_0 : decode cX11_restore 0 = .ok (.aload_n 0, 1) := by decide +kernel
theorem dX11_restore_1 : decode cX11_restore 1 = .ok (.getfield 98, 3) := by decide +kernel
theorem dX11_restore_4 : decode cX11_restore 4 = .ok (.ifCond .ne 6, 3) := by decide +kernel
theorem dX11_restore_7 : decode cX11_restore 7 = .ok (.bipush (-103), 2) := by decide +kernel
theorem dX11_restore_9 : decode cX11_restore 9 = .ok (.ireturn, 1) := by decide +kernel
theorem dX11_restore_10 : decode cX11_restore 10 = .ok (.aload_n 0, 1) := by decide +kernel
theorem dX11_restore_11 : decode cX11_restore 11 = .ok (.getfield 19, 3) := by decide +kernel
theorem dX11_restore_14 : decode cX11_restore 14 = .ok (.aload_n 0, 1) := by decide +kernel
theorem dX11_restore_15 : decode cX11_restore 15 = .ok (.getfield 36, 3) := by decide +kernel
theorem dX11_restore_18 : decode cX11_restore 18 = .ok (.invokevirtual 285, 3) := by decide +kernel
theorem dX11_restore_21 : decode cX11_restore 21 = .ok (.aload_n 0, 1) := by decide +kernel
theorem dX11_restore_22 : decode cX11_restore 22 = .ok (.getfield 32, 3) := by decide +kernel
theorem dX11_restore_25 : decode cX11_restore 25 = .ok (.aload_n 0, 1) := by decide +kernel
theorem dX11_restore_26 : decode cX11_restore 26 = .ok (.getfield 39, 3) := by decide +kernel
theorem dX11_restore_29 : decode cX11_restore 29 = .ok (.invokevirtual 305, 3) := by decide +kernel
theorem dX11_restore_32 : decode cX11_restore 32 = .ok (.iconst 0, 1) := by decide +kernel
theorem dX11_restore_33 : decode cX11_restore 33 = .ok (.istore_n 1, 1) := by decide +kernel
theorem dX11_restore_34 : decode cX11_restore 34 = .ok (.iload_n 1, 1) := by decide +kernel
theorem dX11_restore_35 : decode cX11_restore 35 = .ok (.aload_n 0, 1) := by decide +kernel
theorem dX11_restore_36 : decode cX11_restore 36 = .ok (.getfield 105, 3) := by decide +kernel
theorem dX11_restore_39 : decode cX11_restore 39 = .ok (.if_icmp .ge 23, 3) := by decide +kernel
theorem dX11_restore_42 : decode cX11_restore 42 = .ok (.aload_n 0, 1) := by decide +kernel
theorem dX11_restore_43 : decode cX11_restore 43 = .ok (.iload_n 1, 1) := by decide +kernel
theorem dX11_restore_44 : decode cX11_restore 44 = .ok (.invokevirtual 205, 3) := by decide +kernel
theorem dX11_restore_47 : decode cX11_restore 47 = .ok (.astore_n 2, 1) := by decide +kernel
theorem dX11_restore_48 : decode cX11_restore 48 = .ok (.aload_n 2, 1) := by decide +kernel
theorem dX11_restore_49 : decode cX11_restore 49 = .ok (.ifnull 7, 3) := by decide +kernel
theorem dX11_restore_52 : decode cX11_restore 52 = .ok (.aload_n 2, 1) := by decide +kernel
theorem dX11_restore_53 : decode cX11_restore 53 = .ok (.invokevirtual 314, 3) := by decide +kernel
theorem dX11_restore_56 : decode cX11_restore 56 = .ok (.iinc 1 1, 3) := by decide +kernel
theorem dX11_restore_59 : decode cX11_restore 59 = .ok (.goto (-25), 3) := by decide +kernel
theorem dX11_restore_62 : decode cX11_restore 62 = .ok (.aload_n 0, 1) := by decide +kernel
theorem dX11_restore_63 : decode cX11_restore 63 = .ok (.aload_n 0, 1) := by decide +kernel
theorem dX11_restore_64 : decode cX11_restore 64 = .ok (.getfield 311, 3) := by decide +kernel
theorem dX11_restore_67 : decode cX11_restore 67 = .ok (.putfield 93, 3) := by decide +kernel
theorem dX11_restore_70 : decode cX11_restore 70 = .ok (.aload_n 0, 1) := by decide +kernel
theorem dX11_restore_71 : decode cX11_restore 71 = .ok (.getfield 93, 3) := by decide +kernel
theorem dX11_restore_74 : decode cX11_restore 74 = .ok (.ireturn, 1) := by decide +kernel
set_option maxRecDepth 20000 in
theorem ggX11_count_X7_size : GoodIn wsX11_count wsX7_size := goodIn_r _ [12, 13, 158, 159] (by decide +kernel) (by decide +kernel)
set_option maxRecDepth 20000 in
theorem gX11_count_X7_size : GoodIn wsX11_count (wsV RX11 294 RX7 yX7_size wsX7_size) := goodIn_app (goodIn_of _ (by decide +kernel)) ggX11_count_X7_size
set_option maxRecDepth 20000 in
theorem ggX11_count_X7_sum : GoodIn wsX11_count wsX7_sum := goodIn_r _ [17, 13, 18, 19, 20, 21, 22, 23, 24, 25, 26, 27, 158, 159, 160, 161, 162, 163, 164, 165] (by decide +kernel) (by decide +kernel)
set_option maxRecDepth 20000 in
theorem gX11_count_X7_sum : GoodIn wsX11_count (wsV RX11 317 RX7 yX7_sum wsX7_sum) := goodIn_app (goodIn_of _ (by decide +kernel)) ggX11_count_X7_sum
set_option maxRecDepth 20000 in
theorem ggX11_count_X11_worthOfAll : GoodIn wsX11_count wsX11_worthOfAll := goodIn_r _ [32, 2, 33, 34, 35, 31, 36, 37, 38, 39, 40, 41, 42, 43, 44, 45, 46, 47, 48, 49, 50, 51, 52, 53, 54, 55, 56, 57, 58, 59, 60, 61, 62, 63, 64, 65, 66, 67, 68, 69, 70, 71, 72, 73, 74, 75, 76, 77, 78, 79, 80, 81, 82, 83, 84, 85, 86, 87, 88, 89, 90, 91, 92, 93, 94, 95, 96, 97, 98, 99, 100, 101, 102, 103, 104, 105, 106, 107, 108, 109, 110, 111, 112, 113, 114, 115, 142, 143, 144, 145, 146, 147, 148, 149, 150, 151, 152, 153, 154, 155, 156, 157, 166, 167, 168, 169, 170, 171, 172, 173, 174, 175] (by decide +kernel) (by decide +kernel)
set_option maxRecDepth 20000 in
theorem gX11_count_X11_worthOfAll : GoodIn wsX11_count (wsV RX11 320 RX11 yX11_worthOfAll wsX11_worthOfAll) := goodIn_app (goodIn_of _ (by decide +kernel)) ggX11_count_X11_worthOfAll
set_option maxRecDepth 20000 in
theorem ggX11_count_X11_filmOfAll : GoodIn wsX11_count wsX11_filmOfAll := goodIn_r _ [119, 2, 33, 34, 35, 31, 36, 37, 38, 39, 40, 120, 121, 122, 44, 123, 46, 124, 125, 126, 127, 128, 129, 142, 143, 144, 145, 146, 147, 148, 149, 150, 151, 152, 153, 154, 155, 156, 157, 166, 167, 168, 169, 170, 171, 172, 173, 174, 175] (by decide +kernel) (by decide +kernel)
set_option maxRecDepth 20000 in
theorem gX11_count_X11_filmOfAll : GoodIn wsX11_count (wsV RX11 323 RX11 yX11_filmOfAll wsX11_filmOfAll) := goodIn_app (goodIn_of _ (by decide +kernel)) ggX11_count_X11_filmOfAll
set_option maxRecDepth 20000 in
theorem ggX11_count_X8_size : GoodIn wsX11_count wsX8_size := goodIn_r _ [134, 135, 176, 177, 178, 179] (by decide +kernel) (by decide +kernel)
set_option maxRecDepth 20000 in
theorem gX11_count_X8_size : GoodIn wsX11_count (wsV RX11 284 RX8 yX8_size wsX8_size) := goodIn_app (goodIn_of _ (by decide +kernel)) ggX11_count_X8_size
set_option maxRecDepth 20000 in
theorem ggX11_count_X3_size : GoodIn wsX11_count wsX3_size := goodIn_r _ [140, 141, 180, 181, 182, 183, 184] (by decide +kernel) (by decide +kernel)
set_option maxRecDepth 20000 in
theorem gX11_count_X3_size : GoodIn wsX11_count (wsV RX11 74 RX3 yX3_size wsX3_size) := goodIn_app (goodIn_of _ (by decide +kernel)) ggX11_count_X3_size
theorem dX11_count_0 : decode cX11_count 0 = .ok (.iload_n 1, 1) := by decide +kernel
theorem dX11_count_1 : decode cX11_count 1 = .ok (.tableswitch 132 0 12 #[67, 75, 80, 80, 80, 80, 91, 96, 101, 106, 114, 122, 127], 67) := by decide +kernel
theorem dX11_count_68 : decode cX11_count 68 = .ok (.aload_n 0, 1) := by decide +kernel
theorem dX11_count_69 : decode cX11_count 69 = .ok (.getfield 19, 3) := by decide +kernel
theorem dX11_count_72 : decode cX11_count 72 = .ok (.invokevirtual 294, 3) := by decide +kernel
theorem dX11_count_75 : decode cX11_count 75 = .ok (.ireturn, 1) := by decide +kernel
theorem dX11_count_76 : decode cX11_count 76 = .ok (.aload_n 0, 1) := by decide +kernel
theorem dX11_count_77 : decode cX11_count 77 = .ok (.getfield 105, 3) := by decide +kernel
theorem dX11_count_80 : decode cX11_count 80 = .ok (.ireturn, 1) := by decide +kernel
theorem dX11_count_81 : decode cX11_count 81 = .ok (.aload_n 0, 1) := by decide +kernel
theorem dX11_count_82 : decode cX11_count 82 = .ok (.getfield 19, 3) := by decide +kernel
theorem dX11_count_85 : decode cX11_count 85 = .ok (.iload_n 1, 1) := by decide +kernel
theorem dX11_count_86 : decode cX11_count 86 = .ok (.iconst 2, 1) := by decide +kernel
theorem dX11_count_87 : decode cX11_count 87 = .ok (.isub, 1) := by decide +kernel
theorem dX11_count_88 : decode cX11_count 88 = .ok (.invokevirtual 317, 3) := by decide +kernel
theorem dX11_count_91 : decode cX11_count 91 = .ok (.ireturn, 1) := by decide +kernel
theorem dX11_count_92 : decode cX11_count 92 = .ok (.aload_n 0, 1) := by decide +kernel
theorem dX11_count_93 : decode cX11_count 93 = .ok (.getfield 93, 3) := by decide +kernel
theorem dX11_count_96 : decode cX11_count 96 = .ok (.ireturn, 1) := by decide +kernel
theorem dX11_count_97 : decode cX11_count 97 = .ok (.aload_n 0, 1) := by decide +kernel
theorem dX11_count_98 : decode cX11_count 98 = .ok (.invokevirtual 320, 3) := by decide +kernel
theorem dX11_count_101 : decode cX11_count 101 = .ok (.ireturn, 1) := by decide +kernel
theorem dX11_count_102 : decode cX11_count 102 = .ok (.aload_n 0, 1) := by decide +kernel
theorem dX11_count_103 : decode cX11_count 103 = .ok (.invokevirtual 323, 3) := by decide +kernel
theorem dX11_count_106 : decode cX11_count 106 = .ok (.ireturn, 1) := by decide +kernel
theorem dX11_count_107 : decode cX11_count 107 = .ok (.aload_n 0, 1) := by decide +kernel
theorem dX11_count_108 : decode cX11_count 108 = .ok (.getfield 32, 3) := by decide +kernel
theorem dX11_count_111 : decode cX11_count 111 = .ok (.invokevirtual 284, 3) := by decide +kernel
theorem dX11_count_114 : decode cX11_count 114 = .ok (.ireturn, 1) := by decide +kernel
theorem dX11_count_115 : decode cX11_count 115 = .ok (.aload_n 0, 1) := by decide +kernel
theorem dX11_count_116 : decode cX11_count 116 = .ok (.getfield 10, 3) := by decide +kernel
theorem dX11_count_119 : decode cX11_count 119 = .ok (.invokevirtual 74, 3) := by decide +kernel
theorem dX11_count_122 : decode cX11_count 122 = .ok (.ireturn, 1) := by decide +kernel
theorem dX11_count_123 : decode cX11_count 123 = .ok (.aload_n 0, 1) := by decide +kernel
theorem dX11_count_124 : decode cX11_count 124 = .ok (.getfield 102, 3) := by decide +kernel
theorem dX11_count_127 : decode cX11_count 127 = .ok (.ireturn, 1) := by decide +kernel
theorem dX11_count_128 : decode cX11_count 128 = .ok (.aload_n 0, 1) := by decide +kernel
theorem dX11_count_129 : decode cX11_count 129 = .ok (.getfield 262, 3) := by decide +kernel
theorem dX11_count_132 : decode cX11_count 132 = .ok (.ireturn, 1) := by decide +kernel
theorem dX11_count_133 : decode cX11_count 133 = .ok (.bipush (-102), 2) := by decide +kernel
theorem dX11_count_135 : decode cX11_count 135 = .ok (.ireturn, 1) := by decide +kernel
set_option maxRecDepth 20000 in
theorem ggX11_worthOfAll_X11_childAt : GoodIn wsX11_worthOfAll wsX11_childAt := goodIn_r _ [6, 1, 7, 8, 9, 5, 10, 86, 87, 88, 89, 90, 91, 92, 93, 94, 95, 96, 97, 98, 99, 100, 101] (by decide +kernel) (by decide +kernel)
set_option maxRecDepth 20000 in
theorem gX11_worthOfAll_X11_childAt : GoodIn wsX11_worthOfAll (wsV RX11 205 RX11 yX11_childAt wsX11_childAt) := goodIn_app (goodIn_of _ (by decide +kernel)) ggX11_worthOfAll_X11_childAt
set_option maxRecDepth 20000 in
theorem ggX11_worthOfAll_X0_worth : GoodIn wsX11_worthOfAll wsX0_worth := goodIn_r _ [15, 16, 17, 18, 19, 14, 20, 21, 22, 23, 24, 25, 26, 27, 28, 29, 30, 31, 32, 33, 34, 35, 36, 37, 38, 39, 40, 41, 42, 43, 44, 45, 46, 47, 48, 49, 50, 51, 52, 53, 54, 55, 56, 57, 58, 59, 60, 61, 62, 63, 64, 65, 66, 67, 68, 69, 70, 71, 72, 73, 74, 75, 76, 77, 78, 79, 102, 103, 104, 105, 106, 107, 108, 109, 110, 111] (by decide +kernel) (by decide +kernel)
set_option maxRecDepth 20000 in
theorem gX11_worthOfAll_X0_worth : GoodIn wsX11_worthOfAll (wsV RX11 214 RX0 yX0_worth wsX0_worth) := goodIn_app (goodIn_of _ (by decide +kernel)) ggX11_worthOfAll_X0_worth
set_option maxRecDepth 20000 in
theorem gX11_worthOfAll_X0_worth_u214X1 : GoodIn wsX11_worthOfAll (va_wsU RX11 214 RX1 "SkimmedSons$Child" ⟨"SkimmedSons$Child", "worth", "()I"⟩ yX0_worth wsX0_worth) := goodIn_app (goodIn_of _ (by decide +kernel)) ggX11_worthOfAll_X0_worth
set_option maxRecDepth 20000 in
theorem gX11_worthOfAll_X0_worth_u214X2 : GoodIn wsX11_worthOfAll (va_wsU RX11 214 RX2 "SkimmedSons$Child" ⟨"SkimmedSons$Child", "worth", "()I"⟩ yX0_worth wsX0_worth) := goodIn_app (goodIn_of _ (by decide +kernel)) ggX11_worthOfAll_X0_worth
set_option maxRecDepth 20000 in
theorem gX11_worthOfAll_X0_worth_u214X6 : GoodIn wsX11_worthOfAll (va_wsU RX11 214 RX6 "SkimmedSons$Child" ⟨"SkimmedSons$Child", "worth", "()I"⟩ yX0_worth wsX0_worth) := goodIn_app (goodIn_of _ (by decide +kernel)) ggX11_worthOfAll_X0_worth
set_option maxRecDepth 20000 in
theorem gX11_worthOfAll_X0_worth_u214X10 : GoodIn wsX11_worthOfAll (va_wsU RX11 214 RX10 "SkimmedSons$Child" ⟨"SkimmedSons$Child", "worth", "()I"⟩ yX0_worth wsX0_worth) := goodIn_app (goodIn_of _ (by decide +kernel)) ggX11_worthOfAll_X0_worth
theorem dX11_worthOfAll_0 : decode cX11_worthOfAll 0 = .ok (.iconst 0, 1) := by decide +kernel
theorem dX11_worthOfAll_1 : decode cX11_worthOfAll 1 = .ok (.istore_n 1, 1) := by decide +kernel
theorem dX11_worthOfAll_2 : decode cX11_worthOfAll 2 = .ok (.iconst 0, 1) := by decide +kernel
theorem dX11_worthOfAll_3 : decode cX11_worthOfAll 3 = .ok (.istore_n 2, 1) := by decide +kernel
theorem dX11_worthOfAll_4 : decode cX11_worthOfAll 4 = .ok (.iload_n 2, 1) := by decide +kernel
theorem dX11_worthOfAll_5 : decode cX11_worthOfAll 5 = .ok (.aload_n 0, 1) := by decide +kernel
theorem dX11_worthOfAll_6 : decode cX11_worthOfAll 6 = .ok (.getfield 105, 3) := by decide +kernel
theorem dX11_worthOfAll_9 : decode cX11_worthOfAll 9 = .ok (.if_icmp .ge 30, 3) := by decide +kernel
theorem dX11_worthOfAll_12 : decode cX11_worthOfAll 12 = .ok (.aload_n 0, 1) := by decide +kernel
theorem dX11_worthOfAll_13 : decode cX11_worthOfAll 13 = .ok (.iload_n 2, 1) := by decide +kernel
theorem dX11_worthOfAll_14 : decode cX11_worthOfAll 14 = .ok (.invokevirtual 205, 3) := by decide +kernel
theorem dX11_worthOfAll_17 : decode cX11_worthOfAll 17 = .ok (.astore_n 3, 1) := by decide +kernel
theorem dX11_worthOfAll_18 : decode cX11_worthOfAll 18 = .ok (.iload_n 1, 1) := by decide +kernel
theorem dX11_worthOfAll_19 : decode cX11_worthOfAll 19 = .ok (.aload_n 3, 1) := by decide +kernel
theorem dX11_worthOfAll_20 : decode cX11_worthOfAll 20 = .ok (.ifnonnull 7, 3) := by decide +kernel
theorem dX11_worthOfAll_23 : decode cX11_worthOfAll 23 = .ok (.iconst 0, 1) := by decide +kernel
theorem dX11_worthOfAll_24 : decode cX11_worthOfAll 24 = .ok (.goto 7, 3) := by decide +kernel
theorem dX11_worthOfAll_27 : decode cX11_worthOfAll 27 = .ok (.aload_n 3, 1) := by decide +kernel
theorem dX11_worthOfAll_28 : decode cX11_worthOfAll 28 = .ok (.invokevirtual 214, 3) := by decide +kernel
theorem dX11_worthOfAll_31 : decode cX11_worthOfAll 31 = .ok (.iadd, 1) := by decide +kernel
theorem dX11_worthOfAll_32 : decode cX11_worthOfAll 32 = .ok (.istore_n 1, 1) := by decide +kernel
theorem dX11_worthOfAll_33 : decode cX11_worthOfAll 33 = .ok (.iinc 2 1, 3) := by decide +kernel
theorem dX11_worthOfAll_36 : decode cX11_worthOfAll 36 = .ok (.goto (-32), 3) := by decide +kernel
theorem dX11_worthOfAll_39 : decode cX11_worthOfAll 39 = .ok (.iload_n 1, 1) := by decide +kernel
theorem dX11_worthOfAll_40 : decode cX11_worthOfAll 40 = .ok (.ireturn, 1) := by decide +kernel
set_option maxRecDepth 20000 in
theorem ggX11_filmOfAll_X11_childAt : GoodIn wsX11_filmOfAll wsX11_childAt := goodIn_r _ [6, 1, 7, 8, 9, 5, 10, 23, 24, 25, 26, 27, 28, 29, 30, 31, 32, 33, 34, 35, 36, 37, 38] (by decide +kernel) (by decide +kernel)
set_option maxRecDepth 20000 in
theorem gX11_filmOfAll_X11_childAt : GoodIn wsX11_filmOfAll (wsV RX11 205 RX11 yX11_childAt wsX11_childAt) := goodIn_app (goodIn_of _ (by decide +kernel)) ggX11_filmOfAll_X11_childAt
set_option maxRecDepth 20000 in
theorem ggX11_filmOfAll_X0_hadOf : GoodIn wsX11_filmOfAll wsX0_hadOf := goodIn_r _ [15, 16, 39, 40, 41, 42, 43, 44, 45, 46, 47, 48] (by decide +kernel) (by decide +kernel)
set_option maxRecDepth 20000 in
theorem gX11_filmOfAll_X0_hadOf : GoodIn wsX11_filmOfAll (wsV RX11 211 RX0 yX0_hadOf wsX0_hadOf) := goodIn_app (goodIn_of _ (by decide +kernel)) ggX11_filmOfAll_X0_hadOf
set_option maxRecDepth 20000 in
theorem gX11_filmOfAll_X0_hadOf_u211X1 : GoodIn wsX11_filmOfAll (va_wsU RX11 211 RX1 "SkimmedSons$Child" ⟨"SkimmedSons$Child", "hadOf", "(I)I"⟩ yX0_hadOf wsX0_hadOf) := goodIn_app (goodIn_of _ (by decide +kernel)) ggX11_filmOfAll_X0_hadOf
set_option maxRecDepth 20000 in
theorem gX11_filmOfAll_X0_hadOf_u211X2 : GoodIn wsX11_filmOfAll (va_wsU RX11 211 RX2 "SkimmedSons$Child" ⟨"SkimmedSons$Child", "hadOf", "(I)I"⟩ yX0_hadOf wsX0_hadOf) := goodIn_app (goodIn_of _ (by decide +kernel)) ggX11_filmOfAll_X0_hadOf
set_option maxRecDepth 20000 in
theorem gX11_filmOfAll_X0_hadOf_u211X6 : GoodIn wsX11_filmOfAll (va_wsU RX11 211 RX6 "SkimmedSons$Child" ⟨"SkimmedSons$Child", "hadOf", "(I)I"⟩ yX0_hadOf wsX0_hadOf) := goodIn_app (goodIn_of _ (by decide +kernel)) ggX11_filmOfAll_X0_hadOf
set_option maxRecDepth 20000 in
theorem gX11_filmOfAll_X0_hadOf_u211X10 : GoodIn wsX11_filmOfAll (va_wsU RX11 211 RX10 "SkimmedSons$Child" ⟨"SkimmedSons$Child", "hadOf", "(I)I"⟩ yX0_hadOf wsX0_hadOf) := goodIn_app (goodIn_of _ (by decide +kernel)) ggX11_filmOfAll_X0_hadOf
theorem dX11_filmOfAll_0 : decode cX11_filmOfAll 0 = .ok (.iconst 0, 1) := by decide +kernel
theorem dX11_filmOfAll_1 : decode cX11_filmOfAll 1 = .ok (.istore_n 1, 1) := by decide +kernel
theorem dX11_filmOfAll_2 : decode cX11_filmOfAll 2 = .ok (.iconst 0, 1) := by decide +kernel
theorem dX11_filmOfAll_3 : decode cX11_filmOfAll 3 = .ok (.istore_n 2, 1) := by decide +kernel
theorem dX11_filmOfAll_4 : decode cX11_filmOfAll 4 = .ok (.iload_n 2, 1) := by decide +kernel
theorem dX11_filmOfAll_5 : decode cX11_filmOfAll 5 = .ok (.aload_n 0, 1) := by decide +kernel
theorem dX11_filmOfAll_6 : decode cX11_filmOfAll 6 = .ok (.getfield 105, 3) := by decide +kernel
theorem dX11_filmOfAll_9 : decode cX11_filmOfAll 9 = .ok (.if_icmp .ge 31, 3) := by decide +kernel
theorem dX11_filmOfAll_12 : decode cX11_filmOfAll 12 = .ok (.aload_n 0, 1) := by decide +kernel
theorem dX11_filmOfAll_13 : decode cX11_filmOfAll 13 = .ok (.iload_n 2, 1) := by decide +kernel
theorem dX11_filmOfAll_14 : decode cX11_filmOfAll 14 = .ok (.invokevirtual 205, 3) := by decide +kernel
theorem dX11_filmOfAll_17 : decode cX11_filmOfAll 17 = .ok (.astore_n 3, 1) := by decide +kernel
theorem dX11_filmOfAll_18 : decode cX11_filmOfAll 18 = .ok (.iload_n 1, 1) := by decide +kernel
theorem dX11_filmOfAll_19 : decode cX11_filmOfAll 19 = .ok (.aload_n 3, 1) := by decide +kernel
theorem dX11_filmOfAll_20 : decode cX11_filmOfAll 20 = .ok (.ifnonnull 7, 3) := by decide +kernel
theorem dX11_filmOfAll_23 : decode cX11_filmOfAll 23 = .ok (.iconst 0, 1) := by decide +kernel
theorem dX11_filmOfAll_24 : decode cX11_filmOfAll 24 = .ok (.goto 8, 3) := by decide +kernel
theorem dX11_filmOfAll_27 : decode cX11_filmOfAll 27 = .ok (.aload_n 3, 1) := by decide +kernel
theorem dX11_filmOfAll_28 : decode cX11_filmOfAll 28 = .ok (.iconst 2, 1) := by decide +kernel
theorem dX11_filmOfAll_29 : decode cX11_filmOfAll 29 = .ok (.invokevirtual 211, 3) := by decide +kernel
theorem dX11_filmOfAll_32 : decode cX11_filmOfAll 32 = .ok (.iadd, 1) := by decide +kernel
theorem dX11_filmOfAll_33 : decode cX11_filmOfAll 33 = .ok (.istore_n 1, 1) := by decide +kernel
theorem dX11_filmOfAll_34 : decode cX11_filmOfAll 34 = .ok (.iinc 2 1, 3) := by decide +kernel
theorem dX11_filmOfAll_37 : decode cX11_filmOfAll 37 = .ok (.goto (-33), 3) := by decide +kernel
theorem dX11_filmOfAll_40 : decode cX11_filmOfAll 40 = .ok (.iload_n 1, 1) := by decide +kernel
theorem dX11_filmOfAll_41 : decode cX11_filmOfAll 41 = .ok (.ireturn, 1) := by decide +kernel
set_option maxRecDepth 20000 in
theorem ggX11_digest_X7_size : GoodIn wsX11_digest wsX7_size := goodIn_r _ [9, 10, 345, 346] (by decide +kernel) (by decide +kernel)
set_option maxRecDepth 20000 in
theorem gX11_digest_X7_size : GoodIn wsX11_digest (wsV RX11 294 RX7 yX7_size wsX7_size) := goodIn_app (goodIn_of _ (by decide +kernel)) ggX11_digest_X7_size
set_option maxRecDepth 20000 in
theorem ggX11_digest_X11_pan : GoodIn wsX11_digest wsX11_pan := goodIn_r _ [15, 2, 16, 17, 18, 19, 8, 20, 10, 21, 22, 23, 24, 25, 26, 27, 28, 29, 30, 31, 32, 33, 34, 35, 36, 37, 38, 39, 40, 41, 42, 43, 44, 45, 46, 47, 48, 49, 50, 51, 52, 53, 54, 55, 56, 57, 58, 59, 60, 61, 62, 63, 14, 64, 65, 66, 67, 68, 69, 70, 71, 72, 73, 74, 75, 76, 77, 78, 329, 330, 331, 332, 333, 334, 335, 336, 337, 338, 339, 340, 341, 342, 343, 344, 347, 348, 349, 350, 351, 352, 345, 346, 353, 354, 355, 356] (by decide +kernel) (by decide +kernel)
set_option maxRecDepth 20000 in
theorem gX11_digest_X11_pan : GoodIn wsX11_digest (wsV RX11 328 RX11 yX11_pan wsX11_pan) := goodIn_app (goodIn_of _ (by decide +kernel)) ggX11_digest_X11_pan
set_option maxRecDepth 20000 in
theorem ggX11_digest_X11_with : GoodIn wsX11_digest wsX11_with := goodIn_r _ [81, 82] (by decide +kernel) (by decide +kernel)
set_option maxRecDepth 20000 in
theorem gX11_digest_X11_with : GoodIn wsX11_digest (va_wsS RX11 331 yX11_with wsX11_with) := goodIn_app (goodIn_of _ (by decide +kernel)) ggX11_digest_X11_with
set_option maxRecDepth 20000 in
theorem ggX11_digest_X11_later : GoodIn wsX11_digest wsX11_later := goodIn_r _ [86, 2, 87, 17, 18, 19, 8, 20, 10, 21, 88, 89, 14, 90, 91, 92, 93, 25, 94, 60, 95, 27, 28, 29, 30, 96, 97, 98, 99, 52, 53, 54, 55, 56, 57, 58, 59, 22, 23, 24, 26, 329, 330, 331, 332, 333, 334, 335, 336, 337, 338, 339, 340, 341, 342, 343, 344, 345, 346, 347, 348, 349, 350, 351, 352] (by decide +kernel) (by decide +kernel)
set_option maxRecDepth 20000 in
theorem gX11_digest_X11_later : GoodIn wsX11_digest (wsV RX11 335 RX11 yX11_later wsX11_later) := goodIn_app (goodIn_of _ (by decide +kernel)) ggX11_digest_X11_later
set_option maxRecDepth 20000 in
theorem ggX11_digest_X11_odds : GoodIn wsX11_digest wsX11_odds := goodIn_r _ [103, 2, 17, 18, 19, 8, 20, 10, 21, 88, 89, 14, 90, 104, 105, 106, 107, 108, 109, 329, 330, 331, 332, 333, 334, 335, 336, 337, 338, 339, 340, 341, 342, 343, 344, 345, 346, 347, 348, 349, 350, 351, 352] (by decide +kernel) (by decide +kernel)
set_option maxRecDepth 20000 in
theorem gX11_digest_X11_odds : GoodIn wsX11_digest (wsV RX11 339 RX11 yX11_odds wsX11_odds) := goodIn_app (goodIn_of _ (by decide +kernel)) ggX11_digest_X11_odds
set_option maxRecDepth 20000 in
theorem ggX11_digest_X11_child : GoodIn wsX11_digest wsX11_child := goodIn_r _ [113, 114, 115, 116, 14, 117, 3, 118, 88, 89, 90, 119, 120, 121, 122, 123, 124, 125, 126, 127, 128, 129, 130, 131, 132, 133, 134, 135, 136, 137, 138, 139, 140, 141, 142, 143, 144, 145, 146, 147, 148, 149, 150, 151, 152, 153, 154, 155, 156, 157, 158, 159, 160, 161, 162, 163, 164, 165, 166, 167, 168, 169, 170, 171, 172, 173, 174, 175, 176, 177, 178, 179, 180, 181, 182, 183, 184, 185, 186, 187, 188, 189, 190, 191, 192, 193, 194, 195, 196, 197, 198, 199, 200, 201, 202, 203, 204, 205, 206, 207, 208, 209, 210, 211, 212, 213, 214, 215, 216, 217, 218, 219, 220, 221, 222, 223, 224, 225, 226, 227, 228, 229, 230, 231, 232, 329, 330, 331, 332, 333, 334, 335, 336, 337, 338, 339, 340, 341, 342, 343, 344, 357, 358, 359, 360, 361, 362, 363, 364, 365, 366] (by decide +kernel) (by decide +kernel)
set_option maxRecDepth 20000 in
theorem gX11_digest_X11_child : GoodIn wsX11_digest (wsV RX11 343 RX11 yX11_child wsX11_child) := goodIn_app (goodIn_of _ (by decide +kernel)) ggX11_digest_X11_child
set_option maxRecDepth 20000 in
theorem ggX11_digest_X11_plan : GoodIn wsX11_digest wsX11_plan := goodIn_r _ [236, 237, 2, 114, 115, 116, 14, 117, 3, 118, 88, 89, 90, 238, 239, 240, 241, 242, 243, 244, 245, 246, 247, 8, 248, 10, 21, 249, 53, 54, 55, 250, 92, 93, 25, 94, 60, 95, 27, 28, 29, 30, 251, 252, 253, 254, 255, 256, 257, 258, 259, 32, 33, 34, 260, 261, 262, 263, 264, 265, 266, 267, 6, 7, 9, 268, 269, 270, 271, 272, 18, 19, 20, 273, 224, 225, 122, 226, 158, 159, 160, 161, 162, 163, 164, 165, 166, 129, 167, 168, 169, 170, 171, 133, 172, 173, 174, 137, 175, 176, 177, 178, 179, 180, 181, 182, 183, 184, 185, 186, 187, 188, 189, 190, 191, 192, 193, 141, 194, 195, 196, 197, 198, 199, 200, 201, 202, 203, 204, 205, 206, 207, 208, 209, 210, 211, 212, 213, 214, 215, 216, 274, 228, 229, 230, 231, 232, 275, 276, 277, 278, 279, 280, 281, 282, 283, 284, 285, 286, 287, 288, 289, 97, 98, 99, 52, 56, 57, 58, 59, 290, 291, 292, 293, 329, 330, 331, 332, 333, 334, 335, 336, 337, 338, 339, 340, 341, 342, 343, 344, 367, 368, 345, 346, 347, 348, 349, 350, 351, 352] (by decide +kernel) (by decide +kernel)
set_option maxRecDepth 20000 in
theorem gX11_digest_X11_plan : GoodIn wsX11_digest (wsV RX11 346 RX11 yX11_plan wsX11_plan) := goodIn_app (goodIn_of _ (by decide +kernel)) ggX11_digest_X11_plan
set_option maxRecDepth 20000 in
theorem ggX11_digest_X3_size : GoodIn wsX11_digest wsX3_size := goodIn_r _ [298, 299, 369, 370, 371, 372, 373] (by decide +kernel) (by decide +kernel)
set_option maxRecDepth 20000 in
theorem gX11_digest_X3_size : GoodIn wsX11_digest (wsV RX11 74 RX3 yX3_size wsX3_size) := goodIn_app (goodIn_of _ (by decide +kernel)) ggX11_digest_X3_size
set_option maxRecDepth 20000 in
theorem ggX11_digest_X3_at : GoodIn wsX11_digest wsX3_at := goodIn_r _ [303, 299, 304, 369, 370, 371, 372, 373] (by decide +kernel) (by decide +kernel)
set_option maxRecDepth 20000 in
theorem gX11_digest_X3_at : GoodIn wsX11_digest (wsV RX11 119 RX3 yX3_at wsX3_at) := goodIn_app (goodIn_of _ (by decide +kernel)) ggX11_digest_X3_at
set_option maxRecDepth 20000 in
theorem ggX11_digest_X11_count : GoodIn wsX11_digest wsX11_count := goodIn_r _ [308, 2, 3, 309, 16, 4, 310, 311, 5, 6, 7, 8, 9, 10, 312, 313, 314, 315, 21, 316, 23, 24, 25, 26, 27, 28, 29, 30, 317, 318, 319, 14, 320, 114, 115, 116, 117, 118, 88, 89, 90, 154, 155, 156, 122, 157, 147, 158, 159, 160, 161, 162, 163, 164, 165, 166, 129, 167, 168, 169, 170, 171, 133, 172, 173, 174, 137, 175, 176, 177, 178, 179, 180, 181, 182, 183, 184, 185, 186, 187, 188, 189, 190, 191, 192, 193, 141, 194, 195, 196, 197, 198, 199, 200, 201, 202, 203, 204, 205, 206, 207, 208, 209, 210, 211, 212, 213, 214, 215, 216, 217, 218, 219, 220, 221, 222, 321, 322, 323, 324, 143, 144, 145, 146, 148, 149, 150, 151, 152, 153, 325, 326, 327, 38, 328, 44, 294, 295, 296, 297, 298, 299, 329, 330, 331, 332, 333, 334, 335, 336, 337, 338, 339, 340, 341, 342, 343, 344, 345, 346, 347, 348, 349, 350, 351, 352, 357, 358, 359, 360, 361, 362, 363, 364, 365, 366, 353, 354, 355, 356, 369, 370, 371, 372, 373] (by decide +kernel) (by decide +kernel)
set_option maxRecDepth 20000 in
theorem gX11_digest_X11_count : GoodIn wsX11_digest (wsV RX11 349 RX11 yX11_count wsX11_count) := goodIn_app (goodIn_of _ (by decide +kernel)) ggX11_digest_X11_count
theorem dX11_digest_0 : decode cX11_digest 0 = .ok (.ldc2_w 326, 3) := by decide +kernel
theorem dX11_digest_3 : decode cX11_digest 3 = .ok (.lstore_n 1, 1) := by decide +kernel
theorem dX11_digest_4 : decode cX11_digest 4 = .ok (.iconst 0, 1) := by decide +kernel
theorem dX11_digest_5 : decode cX11_digest 5 = .ok (.istore_n 3, 1) := by decide +kernel
theorem dX11_digest_6 : decode cX11_digest 6 = .ok (.iload_n 3, 1) := by decide +kernel
theorem dX11_digest_7 : decode cX11_digest 7 = .ok (.aload_n 0, 1) := by decide +kernel
theorem dX11_digest_8 : decode cX11_digest 8 = .ok (.getfield 19, 3) := by decide +kernel
theorem dX11_digest_11 : decode cX11_digest 11 = .ok (.invokevirtual 294, 3) := by decide +kernel
theorem dX11_digest_14 : decode cX11_digest 14 = .ok (.if_icmp .ge 96, 3) := by decide +kernel
theorem dX11_digest_17 : decode cX11_digest 17 = .ok (.iconst 0, 1) := by decide +kernel
theorem dX11_digest_18 : decode cX11_digest 18 = .ok (.istore 4, 2) := by decide +kernel
theorem dX11_digest_20 : decode cX11_digest 20 = .ok (.iload 4, 2) := by decide +kernel
theorem dX11_digest_22 : decode cX11_digest 22 = .ok (.bipush 8, 2) := by decide +kernel
theorem dX11_digest_24 : decode cX11_digest 24 = .ok (.if_icmp .gt 22, 3) := by decide +kernel
theorem dX11_digest_27 : decode cX11_digest 27 = .ok (.lload_n 1, 1) := by decide +kernel
theorem dX11_digest_28 : decode cX11_digest 28 = .ok (.aload_n 0, 1) := by decide +kernel
theorem dX11_digest_29 : decode cX11_digest 29 = .ok (.iload_n 3, 1) := by decide +kernel
theorem dX11_digest_30 : decode cX11_digest 30 = .ok (.iload 4, 2) := by decide +kernel
theorem dX11_digest_32 : decode cX11_digest 32 = .ok (.invokevirtual 328, 3) := by decide +kernel
theorem dX11_digest_35 : decode cX11_digest 35 = .ok (.i2l, 1) := by decide +kernel
theorem dX11_digest_36 : decode cX11_digest 36 = .ok (.invokestatic 331, 3) := by decide +kernel
theorem dX11_digest_39 : decode cX11_digest 39 = .ok (.lstore_n 1, 1) := by decide +kernel
theorem dX11_digest_40 : decode cX11_digest 40 = .ok (.iinc 4 1, 3) := by decide +kernel
theorem dX11_digest_43 : decode cX11_digest 43 = .ok (.goto (-23), 3) := by decide +kernel
