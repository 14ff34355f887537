theorem dX0_init_0 : decode cX0_init 0 = .ok (.aload_n 0, 1) := by decide +kernel
theorem dX0_init_1 : decode cX0_init 1 = .ok (.invokespecial 3, 3) := by decide +kernel
theorem dX0_init_4 : decode cX0_init 4 = .ok (.aload_n 0, 1) := by decide +kernel
theorem dX0_init_5 : decode cX0_init 5 = .ok (.iconst 4, 1) := by decide +kernel
theorem dX0_init_6 : decode cX0_init 6 = .ok (.newarray .int, 2) := by decide +kernel
theorem dX0_init_8 : decode cX0_init 8 = .ok (.putfield 9, 3) := by decide +kernel
theorem dX0_init_11 : decode cX0_init 11 = .ok (.aload_n 0, 1) := by decide +kernel
theorem dX0_init_12 : decode cX0_init 12 = .ok (.iconst 4, 1) := by decide +kernel
theorem dX0_init_13 : decode cX0_init 13 = .ok (.newarray .int, 2) := by decide +kernel
theorem dX0_init_15 : decode cX0_init 15 = .ok (.putfield 15, 3) := by decide +kernel
theorem dX0_init_18 : decode cX0_init 18 = .ok (.return_, 1) := by decide +kernel
theorem dX0_kind_0 : decode cX0_kind 0 = .ok (.iconst 0, 1) := by decide +kernel
theorem dX0_kind_1 : decode cX0_kind 1 = .ok (.ireturn, 1) := by decide +kernel
theorem dX0_filmWorth_0 : decode cX0_filmWorth 0 = .ok (.iconst 4, 1) := by decide +kernel
theorem dX0_filmWorth_1 : decode cX0_filmWorth 1 = .ok (.ireturn, 1) := by decide +kernel
theorem dX0_creamWorth_0 : decode cX0_creamWorth 0 = .ok (.iconst 2, 1) := by decide +kernel
theorem dX0_creamWorth_1 : decode cX0_creamWorth 1 = .ok (.ireturn, 1) := by decide +kernel
theorem dX0_blueWorth_0 : decode cX0_blueWorth 0 = .ok (.iconst 1, 1) := by decide +kernel
theorem dX0_blueWorth_1 : decode cX0_blueWorth 1 = .ok (.ireturn, 1) := by decide +kernel
set_option maxRecDepth 20000 in
theorem ggX0_worthOf_X0_creamWorth : GoodIn wsX0_worthOf wsX0_creamWorth := goodIn_r _ [5] (by decide +kernel) (by decide +kernel)
set_option maxRecDepth 20000 in
theorem gX0_worthOf_X0_creamWorth : GoodIn wsX0_worthOf (wsV RX0 18 RX0 yX0_creamWorth wsX0_creamWorth) := goodIn_app (goodIn_of _ (by decide +kernel)) ggX0_worthOf_X0_creamWorth
set_option maxRecDepth 20000 in
theorem ggX0_worthOf_X1_creamWorth : GoodIn wsX0_worthOf wsX1_creamWorth := goodIn_r _ [12, 13, 7, 14, 2, 4, 5] (by decide +kernel) (by decide +kernel)
set_option maxRecDepth 20000 in
theorem gX0_worthOf_X1_creamWorth_u18X1 : GoodIn wsX0_worthOf (va_wsO RX0 18 RX1 "SkimmedSons$Child" ⟨"SkimmedSons$Child", "creamWorth", "()I"⟩ yX1_creamWorth wsX1_creamWorth) := goodIn_app (goodIn_of _ (by decide +kernel)) ggX0_worthOf_X1_creamWorth
set_option maxRecDepth 20000 in
theorem ggX0_worthOf_X2_creamWorth : GoodIn wsX0_worthOf wsX2_creamWorth := goodIn_r _ [18] (by decide +kernel) (by decide +kernel)
set_option maxRecDepth 20000 in
theorem gX0_worthOf_X2_creamWorth_u18X2 : GoodIn wsX0_worthOf (va_wsO RX0 18 RX2 "SkimmedSons$Child" ⟨"SkimmedSons$Child", "creamWorth", "()I"⟩ yX2_creamWorth wsX2_creamWorth) := goodIn_app (goodIn_of _ (by decide +kernel)) ggX0_worthOf_X2_creamWorth
set_option maxRecDepth 20000 in
theorem ggX0_worthOf_X6_creamWorth : GoodIn wsX0_worthOf wsX6_creamWorth := goodIn_r _ [22, 23, 7, 24, 2, 4, 5] (by decide +kernel) (by decide +kernel)
set_option maxRecDepth 20000 in
theorem gX0_worthOf_X6_creamWorth_u18X6 : GoodIn wsX0_worthOf (va_wsO RX0 18 RX6 "SkimmedSons$Child" ⟨"SkimmedSons$Child", "creamWorth", "()I"⟩ yX6_creamWorth wsX6_creamWorth) := goodIn_app (goodIn_of _ (by decide +kernel)) ggX0_worthOf_X6_creamWorth
set_option maxRecDepth 20000 in
theorem gX0_worthOf_X0_creamWorth_u18X10 : GoodIn wsX0_worthOf (va_wsU RX0 18 RX10 "SkimmedSons$Child" ⟨"SkimmedSons$Child", "creamWorth", "()I"⟩ yX0_creamWorth wsX0_creamWorth) := goodIn_app (goodIn_of _ (by decide +kernel)) ggX0_worthOf_X0_creamWorth
set_option maxRecDepth 20000 in
theorem ggX0_worthOf_X0_filmWorth : GoodIn wsX0_worthOf wsX0_filmWorth := goodIn_r _ [29] (by decide +kernel) (by decide +kernel)
set_option maxRecDepth 20000 in
theorem gX0_worthOf_X0_filmWorth : GoodIn wsX0_worthOf (wsV RX0 22 RX0 yX0_filmWorth wsX0_filmWorth) := goodIn_app (goodIn_of _ (by decide +kernel)) ggX0_worthOf_X0_filmWorth
set_option maxRecDepth 20000 in
theorem gX0_worthOf_X0_filmWorth_u22X1 : GoodIn wsX0_worthOf (va_wsU RX0 22 RX1 "SkimmedSons$Child" ⟨"SkimmedSons$Child", "filmWorth", "()I"⟩ yX0_filmWorth wsX0_filmWorth) := goodIn_app (goodIn_of _ (by decide +kernel)) ggX0_worthOf_X0_filmWorth
set_option maxRecDepth 20000 in
theorem ggX0_worthOf_X2_filmWorth : GoodIn wsX0_worthOf wsX2_filmWorth := goodIn_r _ [36, 37, 38, 39, 40, 41, 42, 43, 31, 44, 27, 4, 29] (by decide +kernel) (by decide +kernel)
set_option maxRecDepth 20000 in
theorem gX0_worthOf_X2_filmWorth_u22X2 : GoodIn wsX0_worthOf (va_wsO RX0 22 RX2 "SkimmedSons$Child" ⟨"SkimmedSons$Child", "filmWorth", "()I"⟩ yX2_filmWorth wsX2_filmWorth) := goodIn_app (goodIn_of _ (by decide +kernel)) ggX0_worthOf_X2_filmWorth
set_option maxRecDepth 20000 in
theorem gX0_worthOf_X0_filmWorth_u22X6 : GoodIn wsX0_worthOf (va_wsU RX0 22 RX6 "SkimmedSons$Child" ⟨"SkimmedSons$Child", "filmWorth", "()I"⟩ yX0_filmWorth wsX0_filmWorth) := goodIn_app (goodIn_of _ (by decide +kernel)) ggX0_worthOf_X0_filmWorth
set_option maxRecDepth 20000 in
theorem ggX0_worthOf_X10_filmWorth : GoodIn wsX0_worthOf wsX10_filmWorth := goodIn_r _ [42, 43, 31, 44, 27, 4, 29] (by decide +kernel) (by decide +kernel)
set_option maxRecDepth 20000 in
theorem gX0_worthOf_X10_filmWorth_u22X10 : GoodIn wsX0_worthOf (va_wsO RX0 22 RX10 "SkimmedSons$Child" ⟨"SkimmedSons$Child", "filmWorth", "()I"⟩ yX10_filmWorth wsX10_filmWorth) := goodIn_app (goodIn_of _ (by decide +kernel)) ggX0_worthOf_X10_filmWorth
set_option maxRecDepth 20000 in
theorem ggX0_worthOf_X0_blueWorth : GoodIn wsX0_worthOf wsX0_blueWorth := goodIn_r _ [50] (by decide +kernel) (by decide +kernel)
set_option maxRecDepth 20000 in
theorem gX0_worthOf_X0_blueWorth : GoodIn wsX0_worthOf (wsV RX0 25 RX0 yX0_blueWorth wsX0_blueWorth) := goodIn_app (goodIn_of _ (by decide +kernel)) ggX0_worthOf_X0_blueWorth
set_option maxRecDepth 20000 in
theorem ggX0_worthOf_X1_blueWorth : GoodIn wsX0_worthOf wsX1_blueWorth := goodIn_r _ [56] (by decide +kernel) (by decide +kernel)
set_option maxRecDepth 20000 in
theorem gX0_worthOf_X1_blueWorth_u25X1 : GoodIn wsX0_worthOf (va_wsO RX0 25 RX1 "SkimmedSons$Child" ⟨"SkimmedSons$Child", "blueWorth", "()I"⟩ yX1_blueWorth wsX1_blueWorth) := goodIn_app (goodIn_of _ (by decide +kernel)) ggX0_worthOf_X1_blueWorth
set_option maxRecDepth 20000 in
theorem ggX0_worthOf_X2_blueWorth : GoodIn wsX0_worthOf wsX2_blueWorth := goodIn_r _ [59] (by decide +kernel) (by decide +kernel)
set_option maxRecDepth 20000 in
theorem gX0_worthOf_X2_blueWorth_u25X2 : GoodIn wsX0_worthOf (va_wsO RX0 25 RX2 "SkimmedSons$Child" ⟨"SkimmedSons$Child", "blueWorth", "()I"⟩ yX2_blueWorth wsX2_blueWorth) := goodIn_app (goodIn_of _ (by decide +kernel)) ggX0_worthOf_X2_blueWorth
set_option maxRecDepth 20000 in
theorem ggX0_worthOf_X6_blueWorth : GoodIn wsX0_worthOf wsX6_blueWorth := goodIn_r _ [62, 63, 52, 24, 48, 4, 50] (by decide +kernel) (by decide +kernel)
set_option maxRecDepth 20000 in
theorem gX0_worthOf_X6_blueWorth_u25X6 : GoodIn wsX0_worthOf (va_wsO RX0 25 RX6 "SkimmedSons$Child" ⟨"SkimmedSons$Child", "blueWorth", "()I"⟩ yX6_blueWorth wsX6_blueWorth) := goodIn_app (goodIn_of _ (by decide +kernel)) ggX0_worthOf_X6_blueWorth
set_option maxRecDepth 20000 in
theorem gX0_worthOf_X0_blueWorth_u25X10 : GoodIn wsX0_worthOf (va_wsU RX0 25 RX10 "SkimmedSons$Child" ⟨"SkimmedSons$Child", "blueWorth", "()I"⟩ yX0_blueWorth wsX0_blueWorth) := goodIn_app (goodIn_of _ (by decide +kernel)) ggX0_worthOf_X0_blueWorth
theorem dX0_worthOf_0 : decode cX0_worthOf 0 = .ok (.iload_n 1, 1) := by decide +kernel
theorem dX0_worthOf_1 : decode cX0_worthOf 1 = .ok (.tableswitch 42 1 3 #[27, 32, 37], 27) := by decide +kernel
theorem dX0_worthOf_28 : decode cX0_worthOf 28 = .ok (.aload_n 0, 1) := by decide +kernel
theorem dX0_worthOf_29 : decode cX0_worthOf 29 = .ok (.invokevirtual 18, 3) := by decide +kernel
theorem dX0_worthOf_32 : decode cX0_worthOf 32 = .ok (.ireturn, 1) := by decide +kernel
theorem dX0_worthOf_33 : decode cX0_worthOf 33 = .ok (.aload_n 0, 1) := by decide +kernel
theorem dX0_worthOf_34 : decode cX0_worthOf 34 = .ok (.invokevirtual 22, 3) := by decide +kernel
theorem dX0_worthOf_37 : decode cX0_worthOf 37 = .ok (.ireturn, 1) := by decide +kernel
theorem dX0_worthOf_38 : decode cX0_worthOf 38 = .ok (.aload_n 0, 1) := by decide +kernel
theorem dX0_worthOf_39 : decode cX0_worthOf 39 = .ok (.invokevirtual 25, 3) := by decide +kernel
theorem dX0_worthOf_42 : decode cX0_worthOf 42 = .ok (.ireturn, 1) := by decide +kernel
theorem dX0_worthOf_43 : decode cX0_worthOf 43 = .ok (.iconst 0, 1) := by decide +kernel
theorem dX0_worthOf_44 : decode cX0_worthOf 44 = .ok (.ireturn, 1) := by decide +kernel
theorem dX0_hadOf_0 : decode cX0_hadOf 0 = .ok (.iload_n 1, 1) := by decide +kernel
theorem dX0_hadOf_1 : decode cX0_hadOf 1 = .ok (.iconst 1, 1) := by decide +kernel
theorem dX0_hadOf_2 : decode cX0_hadOf 2 = .ok (.if_icmp .lt 17, 3) := by decide +kernel
theorem dX0_hadOf_5 : decode cX0_hadOf 5 = .ok (.iload_n 1, 1) := by decide +kernel
theorem dX0_hadOf_6 : decode cX0_hadOf 6 = .ok (.iconst 3, 1) := by decide +kernel
theorem dX0_hadOf_7 : decode cX0_hadOf 7 = .ok (.if_icmp .gt 12, 3) := by decide +kernel
theorem dX0_hadOf_10 : decode cX0_hadOf 10 = .ok (.aload_n 0, 1) := by decide +kernel
theorem dX0_hadOf_11 : decode cX0_hadOf 11 = .ok (.getfield 9, 3) := by decide +kernel
theorem dX0_hadOf_14 : decode cX0_hadOf 14 = .ok (.iload_n 1, 1) := by decide +kernel
theorem dX0_hadOf_15 : decode cX0_hadOf 15 = .ok (.iaload, 1) := by decide +kernel
theorem dX0_hadOf_16 : decode cX0_hadOf 16 = .ok (.goto 4, 3) := by decide +kernel
theorem dX0_hadOf_19 : decode cX0_hadOf 19 = .ok (.iconst 0, 1) := by decide +kernel
theorem dX0_hadOf_20 : decode cX0_hadOf 20 = .ok (.ireturn, 1) := by decide +kernel
theorem dX0_have_0 : decode cX0_have 0 = .ok (.iload_n 1, 1) := by decide +kernel
theorem dX0_have_1 : decode cX0_have 1 = .ok (.iconst 1, 1) := by decide +kernel
theorem dX0_have_2 : decode cX0_have 2 = .ok (.if_icmp .lt 18, 3) := by decide +kernel
theorem dX0_have_5 : decode cX0_have 5 = .ok (.iload_n 1, 1) := by decide +kernel
theorem dX0_have_6 : decode cX0_have 6 = .ok (.iconst 3, 1) := by decide +kernel
theorem dX0_have_7 : decode cX0_have 7 = .ok (.if_icmp .gt 13, 3) := by decide +kernel
theorem dX0_have_10 : decode cX0_have 10 = .ok (.aload_n 0, 1) := by decide +kernel
theorem dX0_have_11 : decode cX0_have 11 = .ok (.getfield 9, 3) := by decide +kernel
theorem dX0_have_14 : decode cX0_have 14 = .ok (.iload_n 1, 1) := by decide +kernel
theorem dX0_have_15 : decode cX0_have 15 = .ok (.dup2, 1) := by decide +kernel
theorem dX0_have_16 : decode cX0_have 16 = .ok (.iaload, 1) := by decide +kernel
theorem dX0_have_17 : decode cX0_have 17 = .ok (.iconst 1, 1) := by decide +kernel
theorem dX0_have_18 : decode cX0_have 18 = .ok (.iadd, 1) := by decide +kernel
theorem dX0_have_19 : decode cX0_have 19 = .ok (.iastore, 1) := by decide +kernel
theorem dX0_have_20 : decode cX0_have 20 = .ok (.return_, 1) := by decide +kernel
set_option maxRecDepth 20000 in
theorem ggX0_worth_X0_creamWorth : GoodIn wsX0_worth wsX0_creamWorth := goodIn_r _ [6] (by decide +kernel) (by decide +kernel)
set_option maxRecDepth 20000 in
theorem gX0_worth_X0_creamWorth : GoodIn wsX0_worth (wsV RX0 18 RX0 yX0_creamWorth wsX0_creamWorth) := goodIn_app (goodIn_of _ (by decide +kernel)) ggX0_worth_X0_creamWorth
set_option maxRecDepth 20000 in
theorem ggX0_worth_X1_creamWorth : GoodIn wsX0_worth wsX1_creamWorth := goodIn_r _ [13, 14, 8, 15, 3, 5, 6] (by decide +kernel) (by decide +kernel)
set_option maxRecDepth 20000 in
theorem gX0_worth_X1_creamWorth_u18X1 : GoodIn wsX0_worth (va_wsO RX0 18 RX1 "SkimmedSons$Child" ⟨"SkimmedSons$Child", "creamWorth", "()I"⟩ yX1_creamWorth wsX1_creamWorth) := goodIn_app (goodIn_of _ (by decide +kernel)) ggX0_worth_X1_creamWorth
set_option maxRecDepth 20000 in
theorem ggX0_worth_X2_creamWorth : GoodIn wsX0_worth wsX2_creamWorth := goodIn_r _ [19] (by decide +kernel) (by decide +kernel)
set_option maxRecDepth 20000 in
theorem gX0_worth_X2_creamWorth_u18X2 : GoodIn wsX0_worth (va_wsO RX0 18 RX2 "SkimmedSons$Child" ⟨"SkimmedSons$Child", "creamWorth", "()I"⟩ yX2_creamWorth wsX2_creamWorth) := goodIn_app (goodIn_of _ (by decide +kernel)) ggX0_worth_X2_creamWorth
set_option maxRecDepth 20000 in
theorem ggX0_worth_X6_creamWorth : GoodIn wsX0_worth wsX6_creamWorth := goodIn_r _ [23, 24, 8, 25, 3, 5, 6] (by decide +kernel) (by decide +kernel)
set_option maxRecDepth 20000 in
theorem gX0_worth_X6_creamWorth_u18X6 : GoodIn wsX0_worth (va_wsO RX0 18 RX6 "SkimmedSons$Child" ⟨"SkimmedSons$Child", "creamWorth", "()I"⟩ yX6_creamWorth wsX6_creamWorth) := goodIn_app (goodIn_of _ (by decide +kernel)) ggX0_worth_X6_creamWorth
set_option maxRecDepth 20000 in
theorem gX0_worth_X0_creamWorth_u18X10 : GoodIn wsX0_worth (va_wsU RX0 18 RX10 "SkimmedSons$Child" ⟨"SkimmedSons$Child", "creamWorth", "()I"⟩ yX0_creamWorth wsX0_creamWorth) := goodIn_app (goodIn_of _ (by decide +kernel)) ggX0_worth_X0_creamWorth
set_option maxRecDepth 20000 in
theorem ggX0_worth_X0_filmWorth : GoodIn wsX0_worth wsX0_filmWorth := goodIn_r _ [30] (by decide +kernel) (by decide +kernel)
set_option maxRecDepth 20000 in
theorem gX0_worth_X0_filmWorth : GoodIn wsX0_worth (wsV RX0 22 RX0 yX0_filmWorth wsX0_filmWorth) := goodIn_app (goodIn_of _ (by decide +kernel)) ggX0_worth_X0_filmWorth
set_option maxRecDepth 20000 in
theorem gX0_worth_X0_filmWorth_u22X1 : GoodIn wsX0_worth (va_wsU RX0 22 RX1 "SkimmedSons$Child" ⟨"SkimmedSons$Child", "filmWorth", "()I"⟩ yX0_filmWorth wsX0_filmWorth) := goodIn_app (goodIn_of _ (by decide +kernel)) ggX0_worth_X0_filmWorth
set_option maxRecDepth 20000 in
theorem ggX0_worth_X2_filmWorth : GoodIn wsX0_worth wsX2_filmWorth := goodIn_r _ [37, 38, 39, 40, 41, 42, 43, 44, 32, 45, 28, 5, 30] (by decide +kernel) (by decide +kernel)
set_option maxRecDepth 20000 in
theorem gX0_worth_X2_filmWorth_u22X2 : GoodIn wsX0_worth (va_wsO RX0 22 RX2 "SkimmedSons$Child" ⟨"SkimmedSons$Child", "filmWorth", "()I"⟩ yX2_filmWorth wsX2_filmWorth) := goodIn_app (goodIn_of _ (by decide +kernel)) ggX0_worth_X2_filmWorth
set_option maxRecDepth 20000 in
theorem gX0_worth_X0_filmWorth_u22X6 : GoodIn wsX0_worth (va_wsU RX0 22 RX6 "SkimmedSons$Child" ⟨"SkimmedSons$Child", "filmWorth", "()I"⟩ yX0_filmWorth wsX0_filmWorth) := goodIn_app (goodIn_of _ (by decide +kernel)) ggX0_worth_X0_filmWorth
set_option maxRecDepth 20000 in
theorem ggX0_worth_X10_filmWorth : GoodIn wsX0_worth wsX10_filmWorth := goodIn_r _ [43, 44, 32, 45, 28, 5, 30] (by decide +kernel) (by decide +kernel)
set_option maxRecDepth 20000 in
theorem gX0_worth_X10_filmWorth_u22X10 : GoodIn wsX0_worth (va_wsO RX0 22 RX10 "SkimmedSons$Child" ⟨"SkimmedSons$Child", "filmWorth", "()I"⟩ yX10_filmWorth wsX10_filmWorth) := goodIn_app (goodIn_of _ (by decide +kernel)) ggX0_worth_X10_filmWorth
set_option maxRecDepth 20000 in
theorem ggX0_worth_X0_blueWorth : GoodIn wsX0_worth wsX0_blueWorth := goodIn_r _ [51] (by decide +kernel) (by decide +kernel)
set_option maxRecDepth 20000 in
theorem gX0_worth_X0_blueWorth : GoodIn wsX0_worth (wsV RX0 25 RX0 yX0_blueWorth wsX0_blueWorth) := goodIn_app (goodIn_of _ (by decide +kernel)) ggX0_worth_X0_blueWorth
set_option maxRecDepth 20000 in
theorem ggX0_worth_X1_blueWorth : GoodIn wsX0_worth wsX1_blueWorth := goodIn_r _ [57] (by decide +kernel) (by decide +kernel)
set_option maxRecDepth 20000 in
theorem gX0_worth_X1_blueWorth_u25X1 : GoodIn wsX0_worth (va_wsO RX0 25 RX1 "SkimmedSons$Child" ⟨"SkimmedSons$Child", "blueWorth", "()I"⟩ yX1_blueWorth wsX1_blueWorth) := goodIn_app (goodIn_of _ (by decide +kernel)) ggX0_worth_X1_blueWorth
set_option maxRecDepth 20000 in
theorem ggX0_worth_X2_blueWorth : GoodIn wsX0_worth wsX2_blueWorth := goodIn_r _ [60] (by decide +kernel) (by decide +kernel)
set_option maxRecDepth 20000 in
theorem gX0_worth_X2_blueWorth_u25X2 : GoodIn wsX0_worth (va_wsO RX0 25 RX2 "SkimmedSons$Child" ⟨"SkimmedSons$Child", "blueWorth", "()I"⟩ yX2_blueWorth wsX2_blueWorth) := goodIn_app (goodIn_of _ (by decide +kernel)) ggX0_worth_X2_blueWorth
set_option maxRecDepth 20000 in
theorem ggX0_worth_X6_blueWorth : GoodIn wsX0_worth wsX6_blueWorth := goodIn_r _ [63, 64, 53, 25, 49, 5, 51] (by decide +kernel) (by decide +kernel)
set_option maxRecDepth 20000 in
theorem gX0_worth_X6_blueWorth_u25X6 : GoodIn wsX0_worth (va_wsO RX0 25 RX6 "SkimmedSons$Child" ⟨"SkimmedSons$Child", "blueWorth", "()I"⟩ yX6_blueWorth wsX6_blueWorth) := goodIn_app (goodIn_of _ (by decide +kernel)) ggX0_worth_X6_blueWorth
set_option maxRecDepth 20000 in
theorem gX0_worth_X0_blueWorth_u25X10 : GoodIn wsX0_worth (va_wsU RX0 25 RX10 "SkimmedSons$Child" ⟨"SkimmedSons$Child", "blueWorth", "()I"⟩ yX0_blueWorth wsX0_blueWorth) := goodIn_app (goodIn_of _ (by decide +kernel)) ggX0_worth_X0_blueWorth
theorem dX0_worth_0 : decode cX0_worth 0 = .ok (.aload_n 0, 1) := by decide +kernel
theorem dX0_worth_1 : decode cX0_worth 1 = .ok (.getfield 9, 3) := by decide +kernel
theorem dX0_worth_4 : decode cX0_worth 4 = .ok (.iconst 1, 1) := by decide +kernel
theorem dX0_worth_5 : decode cX0_worth 5 = .ok (.iaload, 1) := by decide +kernel
theorem dX0_worth_6 : decode cX0_worth 6 = .ok (.aload_n 0, 1) := by decide +kernel
theorem dX0_worth_7 : decode cX0_worth 7 = .ok (.invokevirtual 18, 3) := by decide +kernel
theorem dX0_worth_10 : decode cX0_worth 10 = .ok (.imul, 1) := by decide +kernel
theorem dX0_worth_11 : decode cX0_worth 11 = .ok (.aload_n 0, 1) := by decide +kernel
theorem dX0_worth_12 : decode cX0_worth 12 = .ok (.getfield 9, 3) := by decide +kernel
theorem dX0_worth_15 : decode cX0_worth 15 = .ok (.iconst 2, 1) := by decide +kernel
theorem dX0_worth_16 : decode cX0_worth 16 = .ok (.iaload, 1) := by decide +kernel
theorem dX0_worth_17 : decode cX0_worth 17 = .ok (.aload_n 0, 1) := by decide +kernel
theorem dX0_worth_18 : decode cX0_worth 18 = .ok (.invokevirtual 22, 3) := by decide +kernel
theorem dX0_worth_21 : decode cX0_worth 21 = .ok (.imul, 1) := by decide +kernel
theorem dX0_worth_22 : decode cX0_worth 22 = .ok (.iadd, 1) := by decide +kernel
theorem dX0_worth_23 : decode cX0_worth 23 = .ok (.aload_n 0, 1) := by decide +kernel
theorem dX0_worth_24 : decode cX0_worth 24 = .ok (.getfield 9, 3) := by decide +kernel
theorem dX0_worth_27 : decode cX0_worth 27 = .ok (.iconst 3, 1) := by decide +kernel
theorem dX0_worth_28 : decode cX0_worth 28 = .ok (.iaload, 1) := by decide +kernel
theorem dX0_worth_29 : decode cX0_worth 29 = .ok (.aload_n 0, 1) := by decide +kernel
theorem dX0_worth_30 : decode cX0_worth 30 = .ok (.invokevirtual 25, 3) := by decide +kernel
theorem dX0_worth_33 : decode cX0_worth 33 = .ok (.imul, 1) := by decide +kernel
theorem dX0_worth_34 : decode cX0_worth 34 = .ok (.iadd, 1) := by decide +kernel
theorem dX0_worth_35 : decode cX0_worth 35 = .ok (.ireturn, 1) := by decide +kernel
theorem dX0_keep_0 : decode cX0_keep 0 = .ok (.aload_n 0, 1) := by decide +kernel
theorem dX0_keep_1 : decode cX0_keep 1 = .ok (.getfield 9, 3) := by decide +kernel
theorem dX0_keep_4 : decode cX0_keep 4 = .ok (.iconst 0, 1) := by decide +kernel
theorem dX0_keep_5 : decode cX0_keep 5 = .ok (.aload_n 0, 1) := by decide +kernel
theorem dX0_keep_6 : decode cX0_keep 6 = .ok (.getfield 15, 3) := by decide +kernel
theorem dX0_keep_9 : decode cX0_keep 9 = .ok (.iconst 0, 1) := by decide +kernel
theorem dX0_keep_10 : decode cX0_keep 10 = .ok (.aload_n 0, 1) := by decide +kernel
theorem dX0_keep_11 : decode cX0_keep 11 = .ok (.getfield 9, 3) := by decide +kernel
theorem dX0_keep_14 : decode cX0_keep 14 = .ok (.arraylength, 1) := by decide +kernel
theorem dX0_keep_15 : decode cX0_keep 15 = .ok (.invokestatic 28, 3) := by decide +kernel
theorem dX0_keep_18 : decode cX0_keep 18 = .ok (.return_, 1) := by decide +kernel
theorem dX0_goBack_0 : decode cX0_goBack 0 = .ok (.aload_n 0, 1) := by decide +kernel
theorem dX0_goBack_1 : decode cX0_goBack 1 = .ok (.getfield 15, 3) := by decide +kernel
theorem dX0_goBack_4 : decode cX0_goBack 4 = .ok (.iconst 0, 1) := by decide +kernel
theorem dX0_goBack_5 : decode cX0_goBack 5 = .ok (.aload_n 0, 1) := by decide +kernel
theorem dX0_goBack_6 : decode cX0_goBack 6 = .ok (.getfield 9, 3) := by decide +kernel
theorem dX0_goBack_9 : decode cX0_goBack 9 = .ok (.iconst 0, 1) := by decide +kernel
theorem dX0_goBack_10 : decode cX0_goBack 10 = .ok (.aload_n 0, 1) := by decide +kernel
theorem dX0_goBack_11 : decode cX0_goBack 11 = .ok (.getfield 15, 3) := by decide +kernel
theorem dX0_goBack_14 : decode cX0_goBack 14 = .ok (.arraylength, 1) := by decide +kernel
theorem dX0_goBack_15 : decode cX0_goBack 15 = .ok (.invokestatic 28, 3) := by decide +kernel
theorem dX0_goBack_18 : decode cX0_goBack 18 = .ok (.return_, 1) := by decide +kernel
set_option maxRecDepth 20000 in
theorem ggX1_init_X0_init : GoodIn wsX1_init wsX0_init := goodIn_r _ [3, 4, 5, 6, 7, 8, 9, 10, 11, 12, 13, 14, 15, 16, 17, 18, 19] (by decide +kernel) (by decide +kernel)
set_option maxRecDepth 20000 in
theorem gX1_init_X0_init_n3 : GoodIn wsX1_init (wsX0_init) := ggX1_init_X0_init
theorem dX1_init_0 : decode cX1_init 0 = .ok (.aload_n 0, 1) := by decide +kernel
theorem dX1_init_1 : decode cX1_init 1 = .ok (.invokespecial 3, 3) := by decide +kernel
theorem dX1_init_4 : decode cX1_init 4 = .ok (.return_, 1) := by decide +kernel
theorem dX1_kind_0 : decode cX1_kind 0 = .ok (.iconst 1, 1) := by decide +kernel
theorem dX1_kind_1 : decode cX1_kind 1 = .ok (.ireturn, 1) := by decide +kernel
set_option maxRecDepth 20000 in
theorem ggX1_creamWorth_X0_creamWorth : GoodIn wsX1_creamWorth wsX0_creamWorth := goodIn_r _ [6] (by decide +kernel) (by decide +kernel)
set_option maxRecDepth 20000 in
theorem gX1_creamWorth_X0_creamWorth_s9 : GoodIn wsX1_creamWorth (va_wsSU RX1 9 yX0_creamWorth wsX0_creamWorth) := goodIn_app (goodIn_of _ (by decide +kernel)) ggX1_creamWorth_X0_creamWorth
theorem dX1_creamWorth_0 : decode cX1_creamWorth 0 = .ok (.iconst 2, 1) := by decide +kernel
theorem dX1_creamWorth_1 : decode cX1_creamWorth 1 = .ok (.aload_n 0, 1) := by decide +kernel
theorem dX1_creamWorth_2 : decode cX1_creamWorth 2 = .ok (.invokespecial 9, 3) := by decide +kernel
theorem dX1_creamWorth_5 : decode cX1_creamWorth 5 = .ok (.imul, 1) := by decide +kernel
theorem dX1_creamWorth_6 : decode cX1_creamWorth 6 = .ok (.ireturn, 1) := by decide +kernel
theorem dX1_blueWorth_0 : decode cX1_blueWorth 0 = .ok (.iconst 0, 1) := by decide +kernel
theorem dX1_blueWorth_1 : decode cX1_blueWorth 1 = .ok (.ireturn, 1) := by decide +kernel
set_option maxRecDepth 20000 in
theorem ggX2_init_X10_init : GoodIn wsX2_init wsX10_init := goodIn_r _ [3, 4, 5, 6, 7, 8, 9, 10, 11, 12, 13, 14, 15, 16, 17, 18, 19, 20, 21, 22] (by decide +kernel) (by decide +kernel)
set_option maxRecDepth 20000 in
theorem gX2_init_X10_init_n3 : GoodIn wsX2_init (wsX10_init) := ggX2_init_X10_init
theorem dX2_init_0 : decode cX2_init 0 = .ok (.aload_n 0, 1) := by decide +kernel
theorem dX2_init_1 : decode cX2_init 1 = .ok (.invokespecial 3, 3) := by decide +kernel
theorem dX2_init_4 : decode cX2_init 4 = .ok (.return_, 1) := by decide +kernel
theorem dX2_kind_0 : decode cX2_kind 0 = .ok (.iconst 4, 1) := by decide +kernel
theorem dX2_kind_1 : decode cX2_kind 1 = .ok (.ireturn, 1) := by decide +kernel
set_option maxRecDepth 20000 in
theorem ggX2_filmWorth_X10_filmWorth : GoodIn wsX2_filmWorth wsX10_filmWorth := goodIn_r _ [6, 7, 8, 9, 10, 11, 12] (by decide +kernel) (by decide +kernel)
set_option maxRecDepth 20000 in
theorem gX2_filmWorth_X10_filmWorth_s9 : GoodIn wsX2_filmWorth (va_wsSU RX2 9 yX10_filmWorth wsX10_filmWorth) := goodIn_app (goodIn_of _ (by decide +kernel)) ggX2_filmWorth_X10_filmWorth
theorem dX2_filmWorth_0 : decode cX2_filmWorth 0 = .ok (.iconst 2, 1) := by decide +kernel
theorem dX2_filmWorth_1 : decode cX2_filmWorth 1 = .ok (.aload_n 0, 1) := by decide +kernel
theorem dX2_filmWorth_2 : decode cX2_filmWorth 2 = .ok (.invokespecial 9, 3) := by decide +kernel
theorem dX2_filmWorth_5 : decode cX2_filmWorth 5 = .ok (.imul, 1) := by decide +kernel
theorem dX2_filmWorth_6 : decode cX2_filmWorth 6 = .ok (.ireturn, 1) := by decide +kernel
theorem dX2_creamWorth_0 : decode cX2_creamWorth 0 = .ok (.iconst 0, 1) := by decide +kernel
theorem dX2_creamWorth_1 : decode cX2_creamWorth 1 = .ok (.ireturn, 1) := by decide +kernel
theorem dX2_blueWorth_0 : decode cX2_blueWorth 0 = .ok (.iconst 0, 1) := by decide +kernel
theorem dX2_blueWorth_1 : decode cX2_blueWorth 1 = .ok (.ireturn, 1) := by decide +kernel
theorem dX3_init_0 : decode cX3_init 0 = .ok (.aload_n 0, 1) := by decide +kernel
theorem dX3_init_1 : decode cX3_init 1 = .ok (.invokespecial 3, 3) := by decide +kernel
theorem dX3_init_4 : decode cX3_init 4 = .ok (.aload_n 0, 1) := by decide +kernel
theorem dX3_init_5 : decode cX3_init 5 = .ok (.bipush 24, 2) := by decide +kernel
theorem dX3_init_7 : decode cX3_init 7 = .ok (.newarray .char, 2) := by decide +kernel
theorem dX3_init_9 : decode cX3_init 9 = .ok (.putfield 9, 3) := by decide +kernel
theorem dX3_init_12 : decode cX3_init 12 = .ok (.return_, 1) := by decide +kernel
theorem dX3_isFull_0 : decode cX3_isFull 0 = .ok (.aload_n 0, 1) := by decide +kernel
theorem dX3_isFull_1 : decode cX3_isFull 1 = .ok (.getfield 15, 3) := by decide +kernel
theorem dX3_isFull_4 : decode cX3_isFull 4 = .ok (.aload_n 0, 1) := by decide +kernel
theorem dX3_isFull_5 : decode cX3_isFull 5 = .ok (.getfield 9, 3) := by decide +kernel
theorem dX3_isFull_8 : decode cX3_isFull 8 = .ok (.arraylength, 1) := by decide +kernel
theorem dX3_isFull_9 : decode cX3_isFull 9 = .ok (.if_icmp .lt 7, 3) := by decide +kernel
theorem dX3_isFull_12 : decode cX3_isFull 12 = .ok (.iconst 1, 1) := by decide +kernel
theorem dX3_isFull_13 : decode cX3_isFull 13 = .ok (.goto 4, 3) := by decide +kernel
theorem dX3_isFull_16 : decode cX3_isFull 16 = .ok (.iconst 0, 1) := by decide +kernel
theorem dX3_isFull_17 : decode cX3_isFull 17 = .ok (.ireturn, 1) := by decide +kernel
theorem dX3_size_0 : decode cX3_size 0 = .ok (.aload_n 0, 1) := by decide +kernel
theorem dX3_size_1 : decode cX3_size 1 = .ok (.getfield 15, 3) := by decide +kernel
theorem dX3_size_4 : decode cX3_size 4 = .ok (.ireturn, 1) := by decide +kernel
set_option maxRecDepth 20000 in
theorem ggX3_add_X3_isFull : GoodIn wsX3_add wsX3_isFull := goodIn_r _ [7, 2, 1, 8, 9, 10, 11, 12] (by decide +kernel) (by decide +kernel)
set_option maxRecDepth 20000 in
theorem gX3_add_X3_isFull : GoodIn wsX3_add (wsV RX3 19 RX3 yX3_isFull wsX3_isFull) := goodIn_app (goodIn_of _ (by decide +kernel)) ggX3_add_X3_isFull
theorem dX3_add_0 : decode cX3_add 0 = .ok (.aload_n 0, 1) := by decide +kernel
theorem dX3_add_1 : decode cX3_add 1 = .ok (.invokevirtual 19, 3) := by decide +kernel
theorem dX3_add_4 : decode cX3_add 4 = .ok (.ifCond .ne 23, 3) := by decide +kernel
theorem dX3_add_7 : decode cX3_add 7 = .ok (.aload_n 0, 1) := by decide +kernel
theorem dX3_add_8 : decode cX3_add 8 = .ok (.getfield 9, 3) := by decide +kernel
theorem dX3_add_11 : decode cX3_add 11 = .ok (.aload_n 0, 1) := by decide +kernel
theorem dX3_add_12 : decode cX3_add 12 = .ok (.getfield 15, 3) := by decide +kernel
theorem dX3_add_15 : decode cX3_add 15 = .ok (.iload_n 1, 1) := by decide +kernel
theorem dX3_add_16 : decode cX3_add 16 = .ok (.castore, 1) := by decide +kernel
theorem dX3_add_17 : decode cX3_add 17 = .ok (.aload_n 0, 1) := by decide +kernel
theorem dX3_add_18 : decode cX3_add 18 = .ok (.dup, 1) := by decide +kernel
theorem dX3_add_19 : decode cX3_add 19 = .ok (.getfield 15, 3) := by decide +kernel
theorem dX3_add_22 : decode cX3_add 22 = .ok (.iconst 1, 1) := by decide +kernel
theorem dX3_add_23 : decode cX3_add 23 = .ok (.iadd, 1) := by decide +kernel
theorem dX3_add_24 : decode cX3_add 24 = .ok (.putfield 15, 3) := by decide +kernel
theorem dX3_add_27 : decode cX3_add 27 = .ok (.return_, 1) := by decide +kernel
theorem dX3_clear_0 : decode cX3_clear 0 = .ok (.aload_n 0, 1) := by decide +kernel
theorem dX3_clear_1 : decode cX3_clear 1 = .ok (.getfield 15, 3) := by decide +kernel
theorem dX3_clear_4 : decode cX3_clear 4 = .ok (.istore_n 1, 1) := by decide +kernel
theorem dX3_clear_5 : decode cX3_clear 5 = .ok (.aload_n 0, 1) := by decide +kernel
theorem dX3_clear_6 : decode cX3_clear 6 = .ok (.iconst 0, 1) := by decide +kernel
theorem dX3_clear_7 : decode cX3_clear 7 = .ok (.putfield 15, 3) := by decide +kernel
theorem dX3_clear_10 : decode cX3_clear 10 = .ok (.iload_n 1, 1) := by decide +kernel
theorem dX3_clear_11 : decode cX3_clear 11 = .ok (.ireturn, 1) := by decide +kernel
theorem dX3_at_0 : decode cX3_at 0 = .ok (.iload_n 1, 1) := by decide +kernel
theorem dX3_at_1 : decode cX3_at 1 = .ok (.ifCond .lt 29, 3) := by decide +kernel
theorem dX3_at_4 : decode cX3_at 4 = .ok (.iload_n 1, 1) := by decide +kernel
theorem dX3_at_5 : decode cX3_at 5 = .ok (.aload_n 0, 1) := by decide +kernel
theorem dX3_at_6 : decode cX3_at 6 = .ok (.getfield 15, 3) := by decide +kernel
theorem dX3_at_9 : decode cX3_at 9 = .ok (.if_icmp .ge 21, 3) := by decide +kernel
theorem dX3_at_12 : decode cX3_at 12 = .ok (.iload_n 1, 1) := by decide +kernel
theorem dX3_at_13 : decode cX3_at 13 = .ok (.aload_n 0, 1) := by decide +kernel
theorem dX3_at_14 : decode cX3_at 14 = .ok (.getfield 9, 3) := by decide +kernel
theorem dX3_at_17 : decode cX3_at 17 = .ok (.arraylength, 1) := by decide +kernel
theorem dX3_at_18 : decode cX3_at 18 = .ok (.if_icmp .ge 12, 3) := by decide +kernel
theorem dX3_at_21 : decode cX3_at 21 = .ok (.aload_n 0, 1) := by decide +kernel
theorem dX3_at_22 : decode cX3_at 22 = .ok (.getfield 9, 3) := by decide +kernel
theorem dX3_at_25 : decode cX3_at 25 = .ok (.iload_n 1, 1) := by decide +kernel
theorem dX3_at_26 : decode cX3_at 26 = .ok (.caload, 1) := by decide +kernel
theorem dX3_at_27 : decode cX3_at 27 = .ok (.goto 4, 3) := by decide +kernel
theorem dX3_at_30 : decode cX3_at 30 = .ok (.iconst 0, 1) := by decide +kernel
theorem dX3_at_31 : decode cX3_at 31 = .ok (.ireturn, 1) := by decide +kernel
theorem dX3_pans_0 : decode cX3_pans 0 = .ok (.aload_n 0, 1) := by decide +kernel
theorem dX3_pans_1 : decode cX3_pans 1 = .ok (.getfield 23, 3) := by decide +kernel
theorem dX3_pans_4 : decode cX3_pans 4 = .ok (.ireturn, 1) := by decide +kernel
theorem dX3_children_0 : decode cX3_children 0 = .ok (.aload_n 0, 1) := by decide +kernel
theorem dX3_children_1 : decode cX3_children 1 = .ok (.getfield 26, 3) := by decide +kernel
theorem dX3_children_4 : decode cX3_children 4 = .ok (.ireturn, 1) := by decide +kernel
theorem dX3_startOfPan_0 : decode cX3_startOfPan 0 = .ok (.iconst 4, 1) := by decide +kernel
theorem dX3_startOfPan_1 : decode cX3_startOfPan 1 = .ok (.iload_n 1, 1) := by decide +kernel
theorem dX3_startOfPan_2 : decode cX3_startOfPan 2 = .ok (.imul, 1) := by decide +kernel
theorem dX3_startOfPan_3 : decode cX3_startOfPan 3 = .ok (.ireturn, 1) := by decide +kernel
theorem dX3_startOfChild_0 : decode cX3_startOfChild 0 = .ok (.iconst 4, 1) := by decide +kernel
theorem dX3_startOfChild_1 : decode cX3_startOfChild 1 = .ok (.aload_n 0, 1) := by decide +kernel
theorem dX3_startOfChild_2 : decode cX3_startOfChild 2 = .ok (.getfield 23, 3) := by decide +kernel
theorem dX3_startOfChild_5 : decode cX3_startOfChild 5 = .ok (.imul, 1) := by decide +kernel
theorem dX3_startOfChild_6 : decode cX3_startOfChild 6 = .ok (.iconst 2, 1) := by decide +kernel
theorem dX3_startOfChild_7 : decode cX3_startOfChild 7 = .ok (.iload_n 1, 1) := by decide +kernel
theorem dX3_startOfChild_8 : decode cX3_startOfChild 8 = .ok (.imul, 1) := by decide +kernel
theorem dX3_startOfChild_9 : decode cX3_startOfChild 9 = .ok (.iadd, 1) := by decide +kernel
theorem dX3_startOfChild_10 : decode cX3_startOfChild 10 = .ok (.ireturn, 1) := by decide +kernel
set_option maxRecDepth 20000 in
theorem ggX3_isDairy_X3_firstWrong : GoodIn wsX3_isDairy wsX3_firstWrong := goodIn_r _ [8, 2, 9, 3, 1, 10, 11, 12, 7, 13, 14, 15, 16, 17, 18, 19, 20, 21, 22, 23, 24, 25, 26, 27, 28, 29, 30, 31, 32, 33, 34, 35, 36, 37, 38, 39, 40, 41, 42, 43, 44, 45, 46, 47, 48, 49, 50, 51, 52, 53, 54, 55, 56, 57, 58, 59, 60, 61, 62, 63, 64, 65, 66, 67, 68, 69, 70, 71, 72, 73, 74, 75, 76, 77, 78, 79, 80, 81, 82, 83, 84, 85, 86, 87, 88, 89, 90, 91, 92, 93, 94, 95, 96, 97, 98, 99, 100, 101, 102, 103, 104, 105, 106, 107, 108, 109, 110, 111, 112, 113, 114, 115] (by decide +kernel) (by decide +kernel)
set_option maxRecDepth 20000 in
theorem gX3_isDairy_X3_firstWrong : GoodIn wsX3_isDairy (wsV RX3 29 RX3 yX3_firstWrong wsX3_firstWrong) := goodIn_app (goodIn_of _ (by decide +kernel)) ggX3_isDairy_X3_firstWrong
theorem dX3_isDairy_0 : decode cX3_isDairy 0 = .ok (.aload_n 0, 1) := by decide +kernel
theorem dX3_isDairy_1 : decode cX3_isDairy 1 = .ok (.invokevirtual 29, 3) := by decide +kernel
theorem dX3_isDairy_4 : decode cX3_isDairy 4 = .ok (.aload_n 0, 1) := by decide +kernel
theorem dX3_isDairy_5 : decode cX3_isDairy 5 = .ok (.getfield 15, 3) := by decide +kernel
theorem dX3_isDairy_8 : decode cX3_isDairy 8 = .ok (.if_icmp .ne 23, 3) := by decide +kernel
theorem dX3_isDairy_11 : decode cX3_isDairy 11 = .ok (.aload_n 0, 1) := by decide +kernel
theorem dX3_isDairy_12 : decode cX3_isDairy 12 = .ok (.getfield 33, 3) := by decide +kernel
theorem dX3_isDairy_15 : decode cX3_isDairy 15 = .ok (.iconst 5, 1) := by decide +kernel
theorem dX3_isDairy_16 : decode cX3_isDairy 16 = .ok (.if_icmp .ne 15, 3) := by decide +kernel
theorem dX3_isDairy_19 : decode cX3_isDairy 19 = .ok (.aload_n 0, 1) := by decide +kernel
theorem dX3_isDairy_20 : decode cX3_isDairy 20 = .ok (.getfield 26, 3) := by decide +kernel
theorem dX3_isDairy_23 : decode cX3_isDairy 23 = .ok (.iconst 2, 1) := by decide +kernel
theorem dX3_isDairy_24 : decode cX3_isDairy 24 = .ok (.if_icmp .lt 7, 3) := by decide +kernel
theorem dX3_isDairy_27 : decode cX3_isDairy 27 = .ok (.iconst 1, 1) := by decide +kernel
theorem dX3_isDairy_28 : decode cX3_isDairy 28 = .ok (.goto 4, 3) := by decide +kernel
theorem dX3_isDairy_31 : decode cX3_isDairy 31 = .ok (.iconst 0, 1) := by decide +kernel
theorem dX3_isDairy_32 : decode cX3_isDairy 32 = .ok (.ireturn, 1) := by decide +kernel
set_option maxRecDepth 20000 in
theorem ggX3_firstWrong_X3_at : GoodIn wsX3_firstWrong wsX3_at := goodIn_r _ [9, 4, 10, 107, 108, 109, 110, 111] (by decide +kernel) (by decide +kernel)
set_option maxRecDepth 20000 in
theorem gX3_firstWrong_X3_at : GoodIn wsX3_firstWrong (wsV RX3 36 RX3 yX3_at wsX3_at) := goodIn_app (goodIn_of _ (by decide +kernel)) ggX3_firstWrong_X3_at
set_option maxRecDepth 20000 in
theorem ggX3_firstWrong_X3_expectedBehind : GoodIn wsX3_firstWrong wsX3_expectedBehind := goodIn_r _ [14, 1, 2, 3, 15, 16, 17, 18, 19, 20, 21, 22, 23, 24, 25, 26, 27, 28, 29, 30, 31, 32, 33, 34, 35, 36, 37, 38, 39, 40, 41, 42, 43, 44, 45, 46, 47, 48, 49, 50, 51, 52, 53, 54, 55, 56, 57, 58, 59, 60, 61, 62, 63, 64, 65, 66, 67, 68, 69, 70, 71, 72, 73, 74, 75, 76, 77, 78, 79, 80, 81, 82, 83, 84, 85, 86, 87, 88, 89, 90, 91, 92, 93, 94, 95, 96, 97, 98, 99, 100, 101, 102, 103, 104, 105, 8, 106, 107, 108, 109, 110, 111] (by decide +kernel) (by decide +kernel)
set_option maxRecDepth 20000 in
theorem gX3_firstWrong_X3_expectedBehind : GoodIn wsX3_firstWrong (wsV RX3 40 RX3 yX3_expectedBehind wsX3_expectedBehind) := goodIn_app (goodIn_of _ (by decide +kernel)) ggX3_firstWrong_X3_expectedBehind
theorem dX3_firstWrong_0 : decode cX3_firstWrong 0 = .ok (.aload_n 0, 1) := by decide +kernel
theorem dX3_firstWrong_1 : decode cX3_firstWrong 1 = .ok (.iconst 0, 1) := by decide +kernel
theorem dX3_firstWrong_2 : decode cX3_firstWrong 2 = .ok (.putfield 33, 3) := by decide +kernel
theorem dX3_firstWrong_5 : decode cX3_firstWrong 5 = .ok (.aload_n 0, 1) := by decide +kernel
theorem dX3_firstWrong_6 : decode cX3_firstWrong 6 = .ok (.iconst 0, 1) := by decide +kernel
theorem dX3_firstWrong_7 : decode cX3_firstWrong 7 = .ok (.putfield 23, 3) := by decide +kernel
theorem dX3_firstWrong_10 : decode cX3_firstWrong 10 = .ok (.aload_n 0, 1) := by decide +kernel
theorem dX3_firstWrong_11 : decode cX3_firstWrong 11 = .ok (.iconst 0, 1) := by decide +kernel
theorem dX3_firstWrong_12 : decode cX3_firstWrong 12 = .ok (.putfield 26, 3) := by decide +kernel
theorem dX3_firstWrong_15 : decode cX3_firstWrong 15 = .ok (.iconst 0, 1) := by decide +kernel
theorem dX3_firstWrong_16 : decode cX3_firstWrong 16 = .ok (.istore_n 1, 1) := by decide +kernel
theorem dX3_firstWrong_17 : decode cX3_firstWrong 17 = .ok (.iload_n 1, 1) := by decide +kernel
theorem dX3_firstWrong_18 : decode cX3_firstWrong 18 = .ok (.aload_n 0, 1) := by decide +kernel
theorem dX3_firstWrong_19 : decode cX3_firstWrong 19 = .ok (.getfield 15, 3) := by decide +kernel
theorem dX3_firstWrong_22 : decode cX3_firstWrong 22 = .ok (.if_icmp .ge 69, 3) := by decide +kernel
theorem dX3_firstWrong_25 : decode cX3_firstWrong 25 = .ok (.aload_n 0, 1) := by decide +kernel
theorem dX3_firstWrong_26 : decode cX3_firstWrong 26 = .ok (.aload_n 0, 1) := by decide +kernel
theorem dX3_firstWrong_27 : decode cX3_firstWrong 27 = .ok (.iload_n 1, 1) := by decide +kernel
theorem dX3_firstWrong_28 : decode cX3_firstWrong 28 = .ok (.invokevirtual 36, 3) := by decide +kernel
theorem dX3_firstWrong_31 : decode cX3_firstWrong 31 = .ok (.invokevirtual 40, 3) := by decide +kernel
theorem dX3_firstWrong_34 : decode cX3_firstWrong 34 = .ok (.istore_n 2, 1) := by decide +kernel
theorem dX3_firstWrong_35 : decode cX3_firstWrong 35 = .ok (.iload_n 2, 1) := by decide +kernel
theorem dX3_firstWrong_36 : decode cX3_firstWrong 36 = .ok (.iconst (-1), 1) := by decide +kernel
theorem dX3_firstWrong_37 : decode cX3_firstWrong 37 = .ok (.if_icmp .ne 5, 3) := by decide +kernel
theorem dX3_firstWrong_40 : decode cX3_firstWrong 40 = .ok (.iload_n 1, 1) := by decide +kernel
theorem dX3_firstWrong_41 : decode cX3_firstWrong 41 = .ok (.ireturn, 1) := by decide +kernel
theorem dX3_firstWrong_42 : decode cX3_firstWrong 42 = .ok (.aload_n 0, 1) := by decide +kernel
theorem dX3_firstWrong_43 : decode cX3_firstWrong 43 = .ok (.dup, 1) := by decide +kernel
theorem dX3_firstWrong_44 : decode cX3_firstWrong 44 = .ok (.getfield 23, 3) := by decide +kernel
theorem dX3_firstWrong_47 : decode cX3_firstWrong 47 = .ok (.iload_n 2, 1) := by decide +kernel
theorem dX3_firstWrong_48 : decode cX3_firstWrong 48 = .ok (.iconst 3, 1) := by decide +kernel
theorem dX3_firstWrong_49 : decode cX3_firstWrong 49 = .ok (.if_icmp .ne 7, 3) := by decide +kernel
theorem dX3_firstWrong_52 : decode cX3_firstWrong 52 = .ok (.iconst 1, 1) := by decide +kernel
theorem dX3_firstWrong_53 : decode cX3_firstWrong 53 = .ok (.goto 4, 3) := by decide +kernel
theorem dX3_firstWrong_56 : decode cX3_firstWrong 56 = .ok (.iconst 0, 1) := by decide +kernel
theorem dX3_firstWrong_57 : decode cX3_firstWrong 57 = .ok (.iadd, 1) := by decide +kernel
theorem dX3_firstWrong_58 : decode cX3_firstWrong 58 = .ok (.putfield 23, 3) := by decide +kernel
theorem dX3_firstWrong_61 : decode cX3_firstWrong 61 = .ok (.aload_n 0, 1) := by decide +kernel
theorem dX3_firstWrong_62 : decode cX3_firstWrong 62 = .ok (.dup, 1) := by decide +kernel
theorem dX3_firstWrong_63 : decode cX3_firstWrong 63 = .ok (.getfield 26, 3) := by decide +kernel
theorem dX3_firstWrong_66 : decode cX3_firstWrong 66 = .ok (.iload_n 2, 1) := by decide +kernel
theorem dX3_firstWrong_67 : decode cX3_firstWrong 67 = .ok (.iconst 5, 1) := by decide +kernel
theorem dX3_firstWrong_68 : decode cX3_firstWrong 68 = .ok (.if_icmp .ne 7, 3) := by decide +kernel
theorem dX3_firstWrong_71 : decode cX3_firstWrong 71 = .ok (.iconst 1, 1) := by decide +kernel
theorem dX3_firstWrong_72 : decode cX3_firstWrong 72 = .ok (.goto 4, 3) := by decide +kernel
theorem dX3_firstWrong_75 : decode cX3_firstWrong 75 = .ok (.iconst 0, 1) := by decide +kernel
theorem dX3_firstWrong_76 : decode cX3_firstWrong 76 = .ok (.iadd, 1) := by decide +kernel
theorem dX3_firstWrong_77 : decode cX3_firstWrong 77 = .ok (.putfield 26, 3) := by decide +kernel
theorem dX3_firstWrong_80 : decode cX3_firstWrong 80 = .ok (.aload_n 0, 1) := by decide +kernel
theorem dX3_firstWrong_81 : decode cX3_firstWrong 81 = .ok (.iload_n 2, 1) := by decide +kernel
theorem dX3_firstWrong_82 : decode cX3_firstWrong 82 = .ok (.putfield 33, 3) := by decide +kernel
theorem dX3_firstWrong_85 : decode cX3_firstWrong 85 = .ok (.iinc 1 1, 3) := by decide +kernel
theorem dX3_firstWrong_88 : decode cX3_firstWrong 88 = .ok (.goto (-71), 3) := by decide +kernel
theorem dX3_firstWrong_91 : decode cX3_firstWrong 91 = .ok (.aload_n 0, 1) := by decide +kernel
theorem dX3_firstWrong_92 : decode cX3_firstWrong 92 = .ok (.getfield 15, 3) := by decide +kernel
theorem dX3_firstWrong_95 : decode cX3_firstWrong 95 = .ok (.ireturn, 1) := by decide +kernel
set_option maxRecDepth 20000 in
theorem ggX3_expectedBehind_J0_indexOf_0f7a4 : GoodIn wsX3_expectedBehind wsJ0_indexOf_0f7a4 := goodIn_r _ [8, 9, 10, 11, 7, 12, 13, 14, 15, 16, 17, 18, 19, 20, 21, 22, 23, 24, 25, 26, 27, 28, 29, 30, 31, 32, 33, 34, 35, 36, 37, 38, 39, 40, 41, 42, 43, 44, 45, 46, 47, 48, 49, 50, 51, 52, 53, 54, 55, 56, 57, 58, 59, 60, 61, 62, 63, 64, 65, 66, 67, 68, 69, 70, 71, 72, 73, 74, 75, 76, 77, 78, 79, 80, 81, 82, 83, 84, 85, 86, 87, 88, 89, 90, 91, 92] (by decide +kernel) (by decide +kernel)
set_option maxRecDepth 20000 in
theorem gX3_expectedBehind_J0_indexOf_0f7a4 : GoodIn wsX3_expectedBehind (wsV RX3 46 RJ0 yJ0_indexOf_0f7a4 wsJ0_indexOf_0f7a4) := goodIn_app (goodIn_of _ (by decide +kernel)) ggX3_expectedBehind_J0_indexOf_0f7a4
set_option maxRecDepth 20000 in
theorem ggX3_expectedBehind_X3_isDigit : GoodIn wsX3_expectedBehind wsX3_isDigit := goodIn_r _ [96] (by decide +kernel) (by decide +kernel)
set_option maxRecDepth 20000 in
theorem gX3_expectedBehind_X3_isDigit : GoodIn wsX3_expectedBehind (va_wsS RX3 52 yX3_isDigit wsX3_isDigit) := goodIn_app (goodIn_of _ (by decide +kernel)) ggX3_expectedBehind_X3_isDigit
theorem dX3_expectedBehind_0 : decode cX3_expectedBehind 0 = .ok (.aload_n 0, 1) := by decide +kernel
theorem dX3_expectedBehind_1 : decode cX3_expectedBehind 1 = .ok (.getfield 33, 3) := by decide +kernel
theorem dX3_expectedBehind_4 : decode cX3_expectedBehind 4 = .ok (.tableswitch 120 0 4 #[36, 51, 64, 77, 105], 36) := by decide +kernel
theorem dX3_expectedBehind_40 : decode cX3_expectedBehind 40 = .ok (.ldc 44, 2) := by decide +kernel
theorem dX3_expectedBehind_42 : decode cX3_expectedBehind 42 = .ok (.iload_n 1, 1) := by decide +kernel
theorem dX3_expectedBehind_43 : decode cX3_expectedBehind 43 = .ok (.invokevirtual 46, 3) := by decide +kernel
theorem dX3_expectedBehind_46 : decode cX3_expectedBehind 46 = .ok (.ifCond .lt 7, 3) := by decide +kernel
theorem dX3_expectedBehind_49 : decode cX3_expectedBehind 49 = .ok (.iconst 1, 1) := by decide +kernel
theorem dX3_expectedBehind_50 : decode cX3_expectedBehind 50 = .ok (.goto 4, 3) := by decide +kernel
theorem dX3_expectedBehind_53 : decode cX3_expectedBehind 53 = .ok (.iconst (-1), 1) := by decide +kernel
theorem dX3_expectedBehind_54 : decode cX3_expectedBehind 54 = .ok (.ireturn, 1) := by decide +kernel
theorem dX3_expectedBehind_55 : decode cX3_expectedBehind 55 = .ok (.iload_n 1, 1) := by decide +kernel
theorem dX3_expectedBehind_56 : decode cX3_expectedBehind 56 = .ok (.invokestatic 52, 3) := by decide +kernel
theorem dX3_expectedBehind_59 : decode cX3_expectedBehind 59 = .ok (.ifCond .eq 7, 3) := by decide +kernel
theorem dX3_expectedBehind_62 : decode cX3_expectedBehind 62 = .ok (.iconst 2, 1) := by decide +kernel
theorem dX3_expectedBehind_63 : decode cX3_expectedBehind 63 = .ok (.goto 4, 3) := by decide +kernel
theorem dX3_expectedBehind_66 : decode cX3_expectedBehind 66 = .ok (.iconst (-1), 1) := by decide +kernel
theorem dX3_expectedBehind_67 : decode cX3_expectedBehind 67 = .ok (.ireturn, 1) := by decide +kernel
theorem dX3_expectedBehind_68 : decode cX3_expectedBehind 68 = .ok (.iload_n 1, 1) := by decide +kernel
theorem dX3_expectedBehind_69 : decode cX3_expectedBehind 69 = .ok (.invokestatic 52, 3) := by decide +kernel
theorem dX3_expectedBehind_72 : decode cX3_expectedBehind 72 = .ok (.ifCond .eq 7, 3) := by decide +kernel
theorem dX3_expectedBehind_75 : decode cX3_expectedBehind 75 = .ok (.iconst 3, 1) := by decide +kernel
theorem dX3_expectedBehind_76 : decode cX3_expectedBehind 76 = .ok (.goto 4, 3) := by decide +kernel
theorem dX3_expectedBehind_79 : decode cX3_expectedBehind 79 = .ok (.iconst (-1), 1) := by decide +kernel
theorem dX3_expectedBehind_80 : decode cX3_expectedBehind 80 = .ok (.ireturn, 1) := by decide +kernel
theorem dX3_expectedBehind_81 : decode cX3_expectedBehind 81 = .ok (.iload_n 1, 1) := by decide +kernel
theorem dX3_expectedBehind_82 : decode cX3_expectedBehind 82 = .ok (.bipush 59, 2) := by decide +kernel
theorem dX3_expectedBehind_84 : decode cX3_expectedBehind 84 = .ok (.if_icmp .ne 5, 3) := by decide +kernel
theorem dX3_expectedBehind_87 : decode cX3_expectedBehind 87 = .ok (.iconst 4, 1) := by decide +kernel
theorem dX3_expectedBehind_88 : decode cX3_expectedBehind 88 = .ok (.ireturn, 1) := by decide +kernel
theorem dX3_expectedBehind_89 : decode cX3_expectedBehind 89 = .ok (.iload_n 1, 1) := by decide +kernel
theorem dX3_expectedBehind_90 : decode cX3_expectedBehind 90 = .ok (.bipush 44, 2) := by decide +kernel
theorem dX3_expectedBehind_92 : decode cX3_expectedBehind 92 = .ok (.if_icmp .ne 15, 3) := by decide +kernel
theorem dX3_expectedBehind_95 : decode cX3_expectedBehind 95 = .ok (.aload_n 0, 1) := by decide +kernel
theorem dX3_expectedBehind_96 : decode cX3_expectedBehind 96 = .ok (.getfield 23, 3) := by decide +kernel
theorem dX3_expectedBehind_99 : decode cX3_expectedBehind 99 = .ok (.iconst 3, 1) := by decide +kernel
theorem dX3_expectedBehind_100 : decode cX3_expectedBehind 100 = .ok (.if_icmp .ge 7, 3) := by decide +kernel
theorem dX3_expectedBehind_103 : decode cX3_expectedBehind 103 = .ok (.iconst 0, 1) := by decide +kernel
theorem dX3_expectedBehind_104 : decode cX3_expectedBehind 104 = .ok (.goto 4, 3) := by decide +kernel
theorem dX3_expectedBehind_107 : decode cX3_expectedBehind 107 = .ok (.iconst (-1), 1) := by decide +kernel
theorem dX3_expectedBehind_108 : decode cX3_expectedBehind 108 = .ok (.ireturn, 1) := by decide +kernel
theorem dX3_expectedBehind_109 : decode cX3_expectedBehind 109 = .ok (.ldc 56, 2) := by decide +kernel
theorem dX3_expectedBehind_111 : decode cX3_expectedBehind 111 = .ok (.iload_n 1, 1) := by decide +kernel
theorem dX3_expectedBehind_112 : decode cX3_expectedBehind 112 = .ok (.invokevirtual 46, 3) := by decide +kernel
theorem dX3_expectedBehind_115 : decode cX3_expectedBehind 115 = .ok (.ifCond .lt 7, 3) := by decide +kernel
theorem dX3_expectedBehind_118 : decode cX3_expectedBehind 118 = .ok (.iconst 5, 1) := by decide +kernel
theorem dX3_expectedBehind_119 : decode cX3_expectedBehind 119 = .ok (.goto 4, 3) := by decide +kernel
theorem dX3_expectedBehind_122 : decode cX3_expectedBehind 122 = .ok (.iconst (-1), 1) := by decide +kernel
theorem dX3_expectedBehind_123 : decode cX3_expectedBehind 123 = .ok (.ireturn, 1) := by decide +kernel
theorem dX3_expectedBehind_124 : decode cX3_expectedBehind 124 = .ok (.iload_n 1, 1) := by decide +kernel
theorem dX3_expectedBehind_125 : decode cX3_expectedBehind 125 = .ok (.bipush 44, 2) := by decide +kernel
theorem dX3_expectedBehind_127 : decode cX3_expectedBehind 127 = .ok (.if_icmp .ne 15, 3) := by decide +kernel
theorem dX3_expectedBehind_130 : decode cX3_expectedBehind 130 = .ok (.aload_n 0, 1) := by decide +kernel
theorem dX3_expectedBehind_131 : decode cX3_expectedBehind 131 = .ok (.getfield 26, 3) := by decide +kernel
theorem dX3_expectedBehind_134 : decode cX3_expectedBehind 134 = .ok (.iconst 5, 1) := by decide +kernel
theorem dX3_expectedBehind_135 : decode cX3_expectedBehind 135 = .ok (.if_icmp .ge 7, 3) := by decide +kernel
theorem dX3_expectedBehind_138 : decode cX3_expectedBehind 138 = .ok (.iconst 4, 1) := by decide +kernel
theorem dX3_expectedBehind_139 : decode cX3_expectedBehind 139 = .ok (.goto 4, 3) := by decide +kernel
theorem dX3_expectedBehind_142 : decode cX3_expectedBehind 142 = .ok (.iconst (-1), 1) := by decide +kernel
theorem dX3_expectedBehind_143 : decode cX3_expectedBehind 143 = .ok (.ireturn, 1) := by decide +kernel
theorem dX3_isDigit_0 : decode cX3_isDigit 0 = .ok (.iload_n 0, 1) := by decide +kernel
theorem dX3_isDigit_1 : decode cX3_isDigit 1 = .ok (.bipush 48, 2) := by decide +kernel
theorem dX3_isDigit_3 : decode cX3_isDigit 3 = .ok (.if_icmp .lt 13, 3) := by decide +kernel
theorem dX3_isDigit_6 : decode cX3_isDigit 6 = .ok (.iload_n 0, 1) := by decide +kernel
theorem dX3_isDigit_7 : decode cX3_isDigit 7 = .ok (.bipush 57, 2) := by decide +kernel
theorem dX3_isDigit_9 : decode cX3_isDigit 9 = .ok (.if_icmp .gt 7, 3) := by decide +kernel
theorem dX3_isDigit_12 : decode cX3_isDigit 12 = .ok (.iconst 1, 1) := by decide +kernel
theorem dX3_isDigit_13 : decode cX3_isDigit 13 = .ok (.goto 4, 3) := by decide +kernel
theorem dX3_isDigit_16 : decode cX3_isDigit 16 = .ok (.iconst 0, 1) := by decide +kernel
theorem dX3_isDigit_17 : decode cX3_isDigit 17 = .ok (.ireturn, 1) := by decide +kernel
theorem dX4_init_0 : decode cX4_init 0 = .ok (.aload_n 0, 1) := by decide +kernel
theorem dX4_init_1 : decode cX4_init 1 = .ok (.invokespecial 3, 3) := by decide +kernel
theorem dX4_init_4 : decode cX4_init 4 = .ok (.return_, 1) := by decide +kernel
theorem dX4_fill_0 : decode cX4_fill 0 = .ok (.aload_n 0, 1) := by decide +kernel
theorem dX4_fill_1 : decode cX4_fill 1 = .ok (.iload_n 1, 1) := by decide +kernel
theorem dX4_fill_2 : decode cX4_fill 2 = .ok (.putfield 9, 3) := by decide +kernel
theorem dX4_fill_5 : decode cX4_fill 5 = .ok (.aload_n 0, 1) := by decide +kernel
theorem dX4_fill_6 : decode cX4_fill 6 = .ok (.iconst 0, 1) := by decide +kernel
theorem dX4_fill_7 : decode cX4_fill 7 = .ok (.putfield 15, 3) := by decide +kernel
theorem dX4_fill_10 : decode cX4_fill 10 = .ok (.aload_n 0, 1) := by decide +kernel
theorem dX4_fill_11 : decode cX4_fill 11 = .ok (.iload_n 2, 1) := by decide +kernel
theorem dX4_fill_12 : decode cX4_fill 12 = .ok (.putfield 18, 3) := by decide +kernel
theorem dX4_fill_15 : decode cX4_fill 15 = .ok (.aload_n 0, 1) := by decide +kernel
theorem dX4_fill_16 : decode cX4_fill 16 = .ok (.iconst 0, 1) := by decide +kernel
theorem dX4_fill_17 : decode cX4_fill 17 = .ok (.putfield 21, 3) := by decide +kernel
theorem dX4_fill_20 : decode cX4_fill 20 = .ok (.aload_n 0, 1) := by decide +kernel
theorem dX4_fill_21 : decode cX4_fill 21 = .ok (.iconst 0, 1) := by decide +kernel
theorem dX4_fill_22 : decode cX4_fill 22 = .ok (.putfield 24, 3) := by decide +kernel
theorem dX4_fill_25 : decode cX4_fill 25 = .ok (.aload_n 0, 1) := by decide +kernel
theorem dX4_fill_26 : decode cX4_fill 26 = .ok (.iload_n 3, 1) := by decide +kernel
theorem dX4_fill_27 : decode cX4_fill 27 = .ok (.putfield 27, 3) := by decide +kernel
theorem dX4_fill_30 : decode cX4_fill 30 = .ok (.return_, 1) := by decide +kernel
theorem dX4_copyFrom_0 : decode cX4_copyFrom 0 = .ok (.aload_n 0, 1) := by decide +kernel
theorem dX4_copyFrom_1 : decode cX4_copyFrom 1 = .ok (.aload_n 1, 1) := by decide +kernel
theorem dX4_copyFrom_2 : decode cX4_copyFrom 2 = .ok (.getfield 9, 3) := by decide +kernel
theorem dX4_copyFrom_5 : decode cX4_copyFrom 5 = .ok (.putfield 9, 3) := by decide +kernel
theorem dX4_copyFrom_8 : decode cX4_copyFrom 8 = .ok (.aload_n 0, 1) := by decide +kernel
theorem dX4_copyFrom_9 : decode cX4_copyFrom 9 = .ok (.aload_n 1, 1) := by decide +kernel
theorem dX4_copyFrom_10 : decode cX4_copyFrom 10 = .ok (.getfield 15, 3) := by decide +kernel
theorem dX4_copyFrom_13 : decode cX4_copyFrom 13 = .ok (.putfield 15, 3) := by decide +kernel
theorem dX4_copyFrom_16 : decode cX4_copyFrom 16 = .ok (.aload_n 0, 1) := by decide +kernel
theorem dX4_copyFrom_17 : decode cX4_copyFrom 17 = .ok (.aload_n 1, 1) := by decide +kernel
theorem dX4_copyFrom_18 : decode cX4_copyFrom 18 = .ok (.getfield 18, 3) := by decide +kernel
theorem dX4_copyFrom_21 : decode cX4_copyFrom 21 = .ok (.putfield 18, 3) := by decide +kernel
theorem dX4_copyFrom_24 : decode cX4_copyFrom 24 = .ok (.aload_n 0, 1) := by decide +kernel
theorem dX4_copyFrom_25 : decode cX4_copyFrom 25 = .ok (.aload_n 1, 1) := by decide +kernel
theorem dX4_copyFrom_26 : decode cX4_copyFrom 26 = .ok (.getfield 21, 3) := by decide +kernel
theorem dX4_copyFrom_29 : decode cX4_copyFrom 29 = .ok (.putfield 21, 3) := by decide +kernel
theorem dX4_copyFrom_32 : decode cX4_copyFrom 32 = .ok (.aload_n 0, 1) := by decide +kernel
theorem dX4_copyFrom_33 : decode cX4_copyFrom 33 = .ok (.aload_n 1, 1) := by decide +kernel
theorem dX4_copyFrom_34 : decode cX4_copyFrom 34 = .ok (.getfield 24, 3) := by decide +kernel
theorem dX4_copyFrom_37 : decode cX4_copyFrom 37 = .ok (.putfield 24, 3) := by decide +kernel
theorem dX4_copyFrom_40 : decode cX4_copyFrom 40 = .ok (.aload_n 0, 1) := by decide +kernel
theorem dX4_copyFrom_41 : decode cX4_copyFrom 41 = .ok (.aload_n 1, 1) := by decide +kernel
theorem dX4_copyFrom_42 : decode cX4_copyFrom 42 = .ok (.getfield 27, 3) := by decide +kernel
theorem dX4_copyFrom_45 : decode cX4_copyFrom 45 = .ok (.putfield 27, 3) := by decide +kernel
theorem dX4_copyFrom_48 : decode cX4_copyFrom 48 = .ok (.return_, 1) := by decide +kernel
theorem dX4_risePerHour_0 : decode cX4_risePerHour 0 = .ok (.iconst 1, 1) := by decide +kernel
theorem dX4_risePerHour_1 : decode cX4_risePerHour 1 = .ok (.aload_n 0, 1) := by decide +kernel
theorem dX4_risePerHour_2 : decode cX4_risePerHour 2 = .ok (.getfield 9, 3) := by decide +kernel
theorem dX4_risePerHour_5 : decode cX4_risePerHour 5 = .ok (.iadd, 1) := by decide +kernel
theorem dX4_risePerHour_6 : decode cX4_risePerHour 6 = .ok (.ireturn, 1) := by decide +kernel
set_option maxRecDepth 20000 in
theorem ggX4_standHour_X4_risePerHour : GoodIn wsX4_standHour wsX4_risePerHour := goodIn_r _ [13, 14, 15, 16, 17, 18, 19, 20] (by decide +kernel) (by decide +kernel)
set_option maxRecDepth 20000 in
theorem gX4_standHour_X4_risePerHour : GoodIn wsX4_standHour (wsV RX4 30 RX4 yX4_risePerHour wsX4_risePerHour) := goodIn_app (goodIn_of _ (by decide +kernel)) ggX4_standHour_X4_risePerHour
theorem dX4_standHour_0 : decode cX4_standHour 0 = .ok (.aload_n 0, 1) := by decide +kernel
theorem dX4_standHour_1 : decode cX4_standHour 1 = .ok (.getfield 18, 3) := by decide +kernel
theorem dX4_standHour_4 : decode cX4_standHour 4 = .ok (.aload_n 0, 1) := by decide +kernel
theorem dX4_standHour_5 : decode cX4_standHour 5 = .ok (.invokevirtual 30, 3) := by decide +kernel
theorem dX4_standHour_8 : decode cX4_standHour 8 = .ok (.invokestatic 34, 3) := by decide +kernel
theorem dX4_standHour_11 : decode cX4_standHour 11 = .ok (.istore_n 1, 1) := by decide +kernel
theorem dX4_standHour_12 : decode cX4_standHour 12 = .ok (.aload_n 0, 1) := by decide +kernel
theorem dX4_standHour_13 : decode cX4_standHour 13 = .ok (.dup, 1) := by decide +kernel
theorem dX4_standHour_14 : decode cX4_standHour 14 = .ok (.getfield 18, 3) := by decide +kernel
theorem dX4_standHour_17 : decode cX4_standHour 17 = .ok (.iload_n 1, 1) := by decide +kernel
theorem dX4_standHour_18 : decode cX4_standHour 18 = .ok (.isub, 1) := by decide +kernel
theorem dX4_standHour_19 : decode cX4_standHour 19 = .ok (.putfield 18, 3) := by decide +kernel
theorem dX4_standHour_22 : decode cX4_standHour 22 = .ok (.aload_n 0, 1) := by decide +kernel
theorem dX4_standHour_23 : decode cX4_standHour 23 = .ok (.dup, 1) := by decide +kernel
theorem dX4_standHour_24 : decode cX4_standHour 24 = .ok (.getfield 21, 3) := by decide +kernel
theorem dX4_standHour_27 : decode cX4_standHour 27 = .ok (.iload_n 1, 1) := by decide +kernel
theorem dX4_standHour_28 : decode cX4_standHour 28 = .ok (.iadd, 1) := by decide +kernel
theorem dX4_standHour_29 : decode cX4_standHour 29 = .ok (.putfield 21, 3) := by decide +kernel
theorem dX4_standHour_32 : decode cX4_standHour 32 = .ok (.aload_n 0, 1) := by decide +kernel
theorem dX4_standHour_33 : decode cX4_standHour 33 = .ok (.dup, 1) := by decide +kernel
theorem dX4_standHour_34 : decode cX4_standHour 34 = .ok (.getfield 15, 3) := by decide +kernel
theorem dX4_standHour_37 : decode cX4_standHour 37 = .ok (.iconst 1, 1) := by decide +kernel
theorem dX4_standHour_38 : decode cX4_standHour 38 = .ok (.iadd, 1) := by decide +kernel
theorem dX4_standHour_39 : decode cX4_standHour 39 = .ok (.putfield 15, 3) := by decide +kernel
theorem dX4_standHour_42 : decode cX4_standHour 42 = .ok (.aload_n 0, 1) := by decide +kernel
theorem dX4_standHour_43 : decode cX4_standHour 43 = .ok (.getfield 15, 3) := by decide +kernel
theorem dX4_standHour_46 : decode cX4_standHour 46 = .ok (.iconst 3, 1) := by decide +kernel
theorem dX4_standHour_47 : decode cX4_standHour 47 = .ok (.irem, 1) := by decide +kernel
theorem dX4_standHour_48 : decode cX4_standHour 48 = .ok (.ifCond .ne 30, 3) := by decide +kernel
theorem dX4_standHour_51 : decode cX4_standHour 51 = .ok (.aload_n 0, 1) := by decide +kernel
theorem dX4_standHour_52 : decode cX4_standHour 52 = .ok (.getfield 21, 3) := by decide +kernel
theorem dX4_standHour_55 : decode cX4_standHour 55 = .ok (.ifCond .le 23, 3) := by decide +kernel
theorem dX4_standHour_58 : decode cX4_standHour 58 = .ok (.aload_n 0, 1) := by decide +kernel
theorem dX4_standHour_59 : decode cX4_standHour 59 = .ok (.dup, 1) := by decide +kernel
theorem dX4_standHour_60 : decode cX4_standHour 60 = .ok (.getfield 21, 3) := by decide +kernel
theorem dX4_standHour_63 : decode cX4_standHour 63 = .ok (.iconst 1, 1) := by decide +kernel
theorem dX4_standHour_64 : decode cX4_standHour 64 = .ok (.isub, 1) := by decide +kernel
theorem dX4_standHour_65 : decode cX4_standHour 65 = .ok (.putfield 21, 3) := by decide +kernel
theorem dX4_standHour_68 : decode cX4_standHour 68 = .ok (.aload_n 0, 1) := by decide +kernel
theorem dX4_standHour_69 : decode cX4_standHour 69 = .ok (.dup, 1) := by decide +kernel
theorem dX4_standHour_70 : decode cX4_standHour 70 = .ok (.getfield 24, 3) := by decide +kernel
theorem dX4_standHour_73 : decode cX4_standHour 73 = .ok (.iconst 1, 1) := by decide +kernel
theorem dX4_standHour_74 : decode cX4_standHour 74 = .ok (.iadd, 1) := by decide +kernel
theorem dX4_standHour_75 : decode cX4_standHour 75 = .ok (.putfield 24, 3) := by decide +kernel
theorem dX4_standHour_78 : decode cX4_standHour 78 = .ok (.return_, 1) := by decide +kernel
theorem dX4_top_0 : decode cX4_top 0 = .ok (.aload_n 0, 1) := by decide +kernel
theorem dX4_top_1 : decode cX4_top 1 = .ok (.getfield 24, 3) := by decide +kernel
theorem dX4_top_4 : decode cX4_top 4 = .ok (.ifCond .le 5, 3) := by decide +kernel
theorem dX4_top_7 : decode cX4_top 7 = .ok (.iconst 2, 1) := by decide +kernel
theorem dX4_top_8 : decode cX4_top 8 = .ok (.ireturn, 1) := by decide +kernel
theorem dX4_top_9 : decode cX4_top 9 = .ok (.aload_n 0, 1) := by decide +kernel
theorem dX4_top_10 : decode cX4_top 10 = .ok (.getfield 21, 3) := by decide +kernel
theorem dX4_top_13 : decode cX4_top 13 = .ok (.ifCond .le 5, 3) := by decide +kernel
theorem dX4_top_16 : decode cX4_top 16 = .ok (.iconst 1, 1) := by decide +kernel
theorem dX4_top_17 : decode cX4_top 17 = .ok (.ireturn, 1) := by decide +kernel
theorem dX4_top_18 : decode cX4_top 18 = .ok (.aload_n 0, 1) := by decide +kernel
theorem dX4_top_19 : decode cX4_top 19 = .ok (.getfield 27, 3) := by decide +kernel
theorem dX4_top_22 : decode cX4_top 22 = .ok (.ifCond .le 7, 3) := by decide +kernel
theorem dX4_top_25 : decode cX4_top 25 = .ok (.iconst 3, 1) := by decide +kernel
theorem dX4_top_26 : decode cX4_top 26 = .ok (.goto 4, 3) := by decide +kernel
theorem dX4_top_29 : decode cX4_top 29 = .ok (.iconst (-1), 1) := by decide +kernel
theorem dX4_top_30 : decode cX4_top 30 = .ok (.ireturn, 1) := by decide +kernel
set_option maxRecDepth 20000 in
theorem ggX4_takeTop_X4_top : GoodIn wsX4_takeTop wsX4_top := goodIn_r _ [9, 1, 2, 3, 10, 11, 12, 13, 14, 15] (by decide +kernel) (by decide +kernel)
set_option maxRecDepth 20000 in
theorem gX4_takeTop_X4_top : GoodIn wsX4_takeTop (wsV RX4 40 RX4 yX4_top wsX4_top) := goodIn_app (goodIn_of _ (by decide +kernel)) ggX4_takeTop_X4_top
theorem dX4_takeTop_0 : decode cX4_takeTop 0 = .ok (.aload_n 0, 1) := by decide +kernel
theorem dX4_takeTop_1 : decode cX4_takeTop 1 = .ok (.invokevirtual 40, 3) := by decide +kernel
theorem dX4_takeTop_4 : decode cX4_takeTop 4 = .ok (.tableswitch 67 1 3 #[41, 28, 54], 28) := by decide +kernel
theorem dX4_takeTop_32 : decode cX4_takeTop 32 = .ok (.aload_n 0, 1) := by decide +kernel
theorem dX4_takeTop_33 : decode cX4_takeTop 33 = .ok (.dup, 1) := by decide +kernel
theorem dX4_takeTop_34 : decode cX4_takeTop 34 = .ok (.getfield 24, 3) := by decide +kernel
theorem dX4_takeTop_37 : decode cX4_takeTop 37 = .ok (.iconst 1, 1) := by decide +kernel
theorem dX4_takeTop_38 : decode cX4_takeTop 38 = .ok (.isub, 1) := by decide +kernel
theorem dX4_takeTop_39 : decode cX4_takeTop 39 = .ok (.putfield 24, 3) := by decide +kernel
theorem dX4_takeTop_42 : decode cX4_takeTop 42 = .ok (.goto 30, 3) := by decide +kernel
theorem dX4_takeTop_45 : decode cX4_takeTop 45 = .ok (.aload_n 0, 1) := by decide +kernel
theorem dX4_takeTop_46 : decode cX4_takeTop 46 = .ok (.dup, 1) := by decide +kernel
theorem dX4_takeTop_47 : decode cX4_takeTop 47 = .ok (.getfield 21, 3) := by decide +kernel
theorem dX4_takeTop_50 : decode cX4_takeTop 50 = .ok (.iconst 1, 1) := by decide +kernel
theorem dX4_takeTop_51 : decode cX4_takeTop 51 = .ok (.isub, 1) := by decide +kernel
theorem dX4_takeTop_52 : decode cX4_takeTop 52 = .ok (.putfield 21, 3) := by decide +kernel
theorem dX4_takeTop_55 : decode cX4_takeTop 55 = .ok (.goto 17, 3) := by decide +kernel
theorem dX4_takeTop_58 : decode cX4_takeTop 58 = .ok (.aload_n 0, 1) := by decide +kernel
theorem dX4_takeTop_59 : decode cX4_takeTop 59 = .ok (.dup, 1) := by decide +kernel
theorem dX4_takeTop_60 : decode cX4_takeTop 60 = .ok (.getfield 27, 3) := by decide +kernel
theorem dX4_takeTop_63 : decode cX4_takeTop 63 = .ok (.iconst 1, 1) := by decide +kernel
theorem dX4_takeTop_64 : decode cX4_takeTop 64 = .ok (.isub, 1) := by decide +kernel
theorem dX4_takeTop_65 : decode cX4_takeTop 65 = .ok (.putfield 27, 3) := by decide +kernel
theorem dX4_takeTop_68 : decode cX4_takeTop 68 = .ok (.goto 4, 3) := by decide +kernel
theorem dX4_takeTop_71 : decode cX4_takeTop 71 = .ok (.return_, 1) := by decide +kernel
theorem dX4_takeTop_72 : decode cX4_takeTop 72 = .ok (.aload_n 0, 1) := by decide +kernel
theorem dX4_takeTop_73 : decode cX4_takeTop 73 = .ok (.iconst 0, 1) := by decide +kernel
theorem dX4_takeTop_74 : decode cX4_takeTop 74 = .ok (.putfield 15, 3) := by decide +kernel
theorem dX4_takeTop_77 : decode cX4_takeTop 77 = .ok (.return_, 1) := by decide +kernel
theorem dX4_mix_0 : decode cX4_mix 0 = .ok (.aload_n 0, 1) := by decide +kernel
theorem dX4_mix_1 : decode cX4_mix 1 = .ok (.dup, 1) := by decide +kernel
theorem dX4_mix_2 : decode cX4_mix 2 = .ok (.getfield 18, 3) := by decide +kernel
theorem dX4_mix_5 : decode cX4_mix 5 = .ok (.aload_n 0, 1) := by decide +kernel
theorem dX4_mix_6 : decode cX4_mix 6 = .ok (.getfield 21, 3) := by decide +kernel
theorem dX4_mix_9 : decode cX4_mix 9 = .ok (.aload_n 0, 1) := by decide +kernel
theorem dX4_mix_10 : decode cX4_mix 10 = .ok (.getfield 24, 3) := by decide +kernel
theorem dX4_mix_13 : decode cX4_mix 13 = .ok (.iadd, 1) := by decide +kernel
theorem dX4_mix_14 : decode cX4_mix 14 = .ok (.iadd, 1) := by decide +kernel
theorem dX4_mix_15 : decode cX4_mix 15 = .ok (.putfield 18, 3) := by decide +kernel
theorem dX4_mix_18 : decode cX4_mix 18 = .ok (.aload_n 0, 1) := by decide +kernel
theorem dX4_mix_19 : decode cX4_mix 19 = .ok (.iconst 0, 1) := by decide +kernel
theorem dX4_mix_20 : decode cX4_mix 20 = .ok (.putfield 21, 3) := by decide +kernel
theorem dX4_mix_23 : decode cX4_mix 23 = .ok (.aload_n 0, 1) := by decide +kernel
theorem dX4_mix_24 : decode cX4_mix 24 = .ok (.iconst 0, 1) := by decide +kernel
theorem dX4_mix_25 : decode cX4_mix 25 = .ok (.putfield 24, 3) := by decide +kernel
theorem dX4_mix_28 : decode cX4_mix 28 = .ok (.aload_n 0, 1) := by decide +kernel
theorem dX4_mix_29 : decode cX4_mix 29 = .ok (.iconst 0, 1) := by decide +kernel
theorem dX4_mix_30 : decode cX4_mix 30 = .ok (.putfield 15, 3) := by decide +kernel
theorem dX4_mix_33 : decode cX4_mix 33 = .ok (.return_, 1) := by decide +kernel
theorem dX4_takeIn_0 : decode cX4_takeIn 0 = .ok (.aload_n 0, 1) := by decide +kernel
theorem dX4_takeIn_1 : decode cX4_takeIn 1 = .ok (.dup, 1) := by decide +kernel
theorem dX4_takeIn_2 : decode cX4_takeIn 2 = .ok (.getfield 18, 3) := by decide +kernel
theorem dX4_takeIn_5 : decode cX4_takeIn 5 = .ok (.iload_n 1, 1) := by decide +kernel
theorem dX4_takeIn_6 : decode cX4_takeIn 6 = .ok (.iadd, 1) := by decide +kernel
theorem dX4_takeIn_7 : decode cX4_takeIn 7 = .ok (.putfield 18, 3) := by decide +kernel
theorem dX4_takeIn_10 : decode cX4_takeIn 10 = .ok (.aload_n 0, 1) := by decide +kernel
theorem dX4_takeIn_11 : decode cX4_takeIn 11 = .ok (.dup, 1) := by decide +kernel
theorem dX4_takeIn_12 : decode cX4_takeIn 12 = .ok (.getfield 27, 3) := by decide +kernel
theorem dX4_takeIn_15 : decode cX4_takeIn 15 = .ok (.iload_n 2, 1) := by decide +kernel
theorem dX4_takeIn_16 : decode cX4_takeIn 16 = .ok (.iadd, 1) := by decide +kernel
theorem dX4_takeIn_17 : decode cX4_takeIn 17 = .ok (.putfield 27, 3) := by decide +kernel
theorem dX4_takeIn_20 : decode cX4_takeIn 20 = .ok (.aload_n 0, 1) := by decide +kernel
theorem dX4_takeIn_21 : decode cX4_takeIn 21 = .ok (.iconst 0, 1) := by decide +kernel
theorem dX4_takeIn_22 : decode cX4_takeIn 22 = .ok (.putfield 15, 3) := by decide +kernel
theorem dX4_takeIn_25 : decode cX4_takeIn 25 = .ok (.return_, 1) := by decide +kernel
theorem dX4_much_0 : decode cX4_much 0 = .ok (.iload_n 1, 1) := by decide +kernel
theorem dX4_much_1 : decode cX4_much 1 = .ok (.tableswitch 42 0 2 #[27, 32, 37], 27) := by decide +kernel
theorem dX4_much_28 : decode cX4_much 28 = .ok (.aload_n 0, 1) := by decide +kernel
theorem dX4_much_29 : decode cX4_much 29 = .ok (.getfield 18, 3) := by decide +kernel
theorem dX4_much_32 : decode cX4_much 32 = .ok (.ireturn, 1) := by decide +kernel
theorem dX4_much_33 : decode cX4_much 33 = .ok (.aload_n 0, 1) := by decide +kernel
theorem dX4_much_34 : decode cX4_much 34 = .ok (.getfield 21, 3) := by decide +kernel
theorem dX4_much_37 : decode cX4_much 37 = .ok (.ireturn, 1) := by decide +kernel
theorem dX4_much_38 : decode cX4_much 38 = .ok (.aload_n 0, 1) := by decide +kernel
theorem dX4_much_39 : decode cX4_much 39 = .ok (.getfield 24, 3) := by decide +kernel
theorem dX4_much_42 : decode cX4_much 42 = .ok (.ireturn, 1) := by decide +kernel
theorem dX4_much_43 : decode cX4_much 43 = .ok (.aload_n 0, 1) := by decide +kernel
theorem dX4_much_44 : decode cX4_much 44 = .ok (.getfield 27, 3) := by decide +kernel
theorem dX4_much_47 : decode cX4_much 47 = .ok (.ireturn, 1) := by decide +kernel
theorem dX4_onIt_0 : decode cX4_onIt 0 = .ok (.aload_n 0, 1) := by decide +kernel
theorem dX4_onIt_1 : decode cX4_onIt 1 = .ok (.getfield 24, 3) := by decide +kernel
theorem dX4_onIt_4 : decode cX4_onIt 4 = .ok (.aload_n 0, 1) := by decide +kernel
theorem dX4_onIt_5 : decode cX4_onIt 5 = .ok (.getfield 21, 3) := by decide +kernel
theorem dX4_onIt_8 : decode cX4_onIt 8 = .ok (.iadd, 1) := by decide +kernel
theorem dX4_onIt_9 : decode cX4_onIt 9 = .ok (.aload_n 0, 1) := by decide +kernel
theorem dX4_onIt_10 : decode cX4_onIt 10 = .ok (.getfield 27, 3) := by decide +kernel
theorem dX4_onIt_13 : decode cX4_onIt 13 = .ok (.iadd, 1) := by decide +kernel
theorem dX4_onIt_14 : decode cX4_onIt 14 = .ok (.ireturn, 1) := by decide +kernel
set_option maxRecDepth 20000 in
theorem ggX4_all_X4_onIt : GoodIn wsX4_all wsX4_onIt := goodIn_r _ [6, 7, 8, 9, 10, 11, 12, 13, 14, 15] (by decide +kernel) (by decide +kernel)
set_option maxRecDepth 20000 in
theorem gX4_all_X4_onIt : GoodIn wsX4_all (wsV RX4 43 RX4 yX4_onIt wsX4_onIt) := goodIn_app (goodIn_of _ (by decide +kernel)) ggX4_all_X4_onIt
theorem dX4_all_0 : decode cX4_all 0 = .ok (.aload_n 0, 1) := by decide +kernel
theorem dX4_all_1 : decode cX4_all 1 = .ok (.getfield 18, 3) := by decide +kernel
theorem dX4_all_4 : decode cX4_all 4 = .ok (.aload_n 0, 1) := by decide +kernel
theorem dX4_all_5 : decode cX4_all 5 = .ok (.invokevirtual 43, 3) := by decide +kernel
theorem dX4_all_8 : decode cX4_all 8 = .ok (.iadd, 1) := by decide +kernel
theorem dX4_all_9 : decode cX4_all 9 = .ok (.ireturn, 1) := by decide +kernel
set_option maxRecDepth 20000 in
theorem ggX4_risenBehind_X4_risePerHour : GoodIn wsX4_risenBehind wsX4_risePerHour := goodIn_r _ [11, 12, 13, 14, 15, 16, 17, 18] (by decide +kernel) (by decide +kernel)
set_option maxRecDepth 20000 in
theorem gX4_risenBehind_X4_risePerHour : GoodIn wsX4_risenBehind (wsV RX4 30 RX4 yX4_risePerHour wsX4_risePerHour) := goodIn_app (goodIn_of _ (by decide +kernel)) ggX4_risenBehind_X4_risePerHour
theorem dX4_risenBehind_0 : decode cX4_risenBehind 0 = .ok (.aload_n 0, 1) := by decide +kernel
theorem dX4_risenBehind_1 : decode cX4_risenBehind 1 = .ok (.getfield 21, 3) := by decide +kernel
theorem dX4_risenBehind_4 : decode cX4_risenBehind 4 = .ok (.aload_n 0, 1) := by decide +kernel
theorem dX4_risenBehind_5 : decode cX4_risenBehind 5 = .ok (.getfield 24, 3) := by decide +kernel
theorem dX4_risenBehind_8 : decode cX4_risenBehind 8 = .ok (.iadd, 1) := by decide +kernel
theorem dX4_risenBehind_9 : decode cX4_risenBehind 9 = .ok (.iload_n 2, 1) := by decide +kernel
theorem dX4_risenBehind_10 : decode cX4_risenBehind 10 = .ok (.iload_n 1, 1) := by decide +kernel
theorem dX4_risenBehind_11 : decode cX4_risenBehind 11 = .ok (.aload_n 0, 1) := by decide +kernel
theorem dX4_risenBehind_12 : decode cX4_risenBehind 12 = .ok (.invokevirtual 30, 3) := by decide +kernel
theorem dX4_risenBehind_15 : decode cX4_risenBehind 15 = .ok (.imul, 1) := by decide +kernel
theorem dX4_risenBehind_16 : decode cX4_risenBehind 16 = .ok (.invokestatic 34, 3) := by decide +kernel
theorem dX4_risenBehind_19 : decode cX4_risenBehind 19 = .ok (.iadd, 1) := by decide +kernel
theorem dX4_risenBehind_20 : decode cX4_risenBehind 20 = .ok (.ireturn, 1) := by decide +kernel
set_option maxRecDepth 20000 in
theorem ggX5_init_X7_init : GoodIn wsX5_init wsX7_init := goodIn_r _ [12, 13, 2, 3, 14, 15, 16, 17, 18, 19, 20, 23, 24, 25, 26, 27, 28, 29, 30] (by decide +kernel) (by decide +kernel)
set_option maxRecDepth 20000 in
theorem gX5_init_X7_init : GoodIn wsX5_init (wsX7_init) := ggX5_init_X7_init
theorem dX5_init_0 : decode cX5_init 0 = .ok (.aload_n 0, 1) := by decide +kernel
theorem dX5_init_1 : decode cX5_init 1 = .ok (.invokespecial 3, 3) := by decide +kernel
theorem dX5_init_4 : decode cX5_init 4 = .ok (.aload_n 0, 1) := by decide +kernel
theorem dX5_init_5 : decode cX5_init 5 = .ok (.iconst 4, 1) := by decide +kernel
theorem dX5_init_6 : decode cX5_init 6 = .ok (.anewarray 9, 3) := by decide +kernel
theorem dX5_init_9 : decode cX5_init 9 = .ok (.putfield 11, 3) := by decide +kernel
theorem dX5_init_12 : decode cX5_init 12 = .ok (.aload_n 0, 1) := by decide +kernel
theorem dX5_init_13 : decode cX5_init 13 = .ok (.iconst 5, 1) := by decide +kernel
theorem dX5_init_14 : decode cX5_init 14 = .ok (.newarray .int, 2) := by decide +kernel
theorem dX5_init_16 : decode cX5_init 16 = .ok (.putfield 17, 3) := by decide +kernel
theorem dX5_init_19 : decode cX5_init 19 = .ok (.iconst 0, 1) := by decide +kernel
theorem dX5_init_20 : decode cX5_init 20 = .ok (.istore_n 1, 1) := by decide +kernel
theorem dX5_init_21 : decode cX5_init 21 = .ok (.iload_n 1, 1) := by decide +kernel
theorem dX5_init_22 : decode cX5_init 22 = .ok (.aload_n 0, 1) := by decide +kernel
theorem dX5_init_23 : decode cX5_init 23 = .ok (.getfield 11, 3) := by decide +kernel
theorem dX5_init_26 : decode cX5_init 26 = .ok (.arraylength, 1) := by decide +kernel
theorem dX5_init_27 : decode cX5_init 27 = .ok (.if_icmp .ge 22, 3) := by decide +kernel
theorem dX5_init_30 : decode cX5_init 30 = .ok (.aload_n 0, 1) := by decide +kernel
theorem dX5_init_31 : decode cX5_init 31 = .ok (.getfield 11, 3) := by decide +kernel
theorem dX5_init_34 : decode cX5_init 34 = .ok (.iload_n 1, 1) := by decide +kernel
theorem dX5_init_35 : decode cX5_init 35 = .ok (.new 9, 3) := by decide +kernel
theorem dX5_init_38 : decode cX5_init 38 = .ok (.dup, 1) := by decide +kernel
theorem dX5_init_39 : decode cX5_init 39 = .ok (.invokespecial 21, 3) := by decide +kernel
theorem dX5_init_42 : decode cX5_init 42 = .ok (.aastore, 1) := by decide +kernel
theorem dX5_init_43 : decode cX5_init 43 = .ok (.iinc 1 1, 3) := by decide +kernel
theorem dX5_init_46 : decode cX5_init 46 = .ok (.goto (-25), 3) := by decide +kernel
theorem dX5_init_49 : decode cX5_init 49 = .ok (.return_, 1) := by decide +kernel
set_option maxRecDepth 20000 in
theorem ggX5_search_X7_copyFrom : GoodIn wsX5_search wsX7_copyFrom := goodIn_r _ [7, 8, 9, 10, 11, 12, 13, 14, 15, 16, 17, 18, 19, 20, 21, 22, 23, 24, 156, 157, 158, 159, 160, 161, 162, 163] (by decide +kernel) (by decide +kernel)
set_option maxRecDepth 20000 in
theorem gX5_search_X7_copyFrom : GoodIn wsX5_search (wsV RX5 22 RX7 yX7_copyFrom wsX7_copyFrom) := goodIn_app (goodIn_of _ (by decide +kernel)) ggX5_search_X7_copyFrom
set_option maxRecDepth 20000 in
theorem ggX5_search_X5_mostFrom : GoodIn wsX5_search wsX5_mostFrom := goodIn_r _ [29, 1, 30, 31, 32, 6, 33, 8, 9, 34, 35, 36, 17, 37, 23, 22, 24, 38, 39, 40, 28, 41, 42, 43, 44, 2, 45, 46, 47, 48, 49, 50, 51, 52, 53, 54, 55, 56, 57, 58, 59, 60, 61, 62, 63, 64, 65, 66, 67, 68, 69, 70, 71, 72, 73, 74, 75, 76, 77, 78, 79, 80, 81, 82, 83, 84, 85, 86, 87, 88, 89, 90, 91, 92, 93, 94, 95, 96, 97, 98, 99, 100, 101, 102, 103, 104, 105, 106, 107, 108, 109, 110, 111, 112, 113, 114, 115, 116, 117, 118, 119, 120, 121, 122, 123, 124, 125, 126, 127, 128, 129, 130, 131, 3, 4, 5, 7, 10, 11, 12, 13, 14, 15, 16, 18, 19, 20, 21, 132, 133, 134, 135, 136, 137, 138, 139, 140, 141, 142, 143, 144, 145, 146, 147, 148, 149, 150, 151, 152, 153, 25, 26, 27, 154, 155, 156, 157, 158, 159, 160, 161, 162, 163] (by decide +kernel) (by decide +kernel)
set_option maxRecDepth 20000 in
theorem gX5_search_X5_mostFrom : GoodIn wsX5_search (wsV RX5 26 RX5 yX5_mostFrom wsX5_mostFrom) := goodIn_app (goodIn_of _ (by decide +kernel)) ggX5_search_X5_mostFrom
theorem dX5_search_0 : decode cX5_search 0 = .ok (.iload_n 3, 1) := by decide +kernel
theorem dX5_search_1 : decode cX5_search 1 = .ok (.iconst 1, 1) := by decide +kernel
theorem dX5_search_2 : decode cX5_search 2 = .ok (.if_icmp .lt 12, 3) := by decide +kernel
theorem dX5_search_5 : decode cX5_search 5 = .ok (.iload_n 3, 1) := by decide +kernel
theorem dX5_search_6 : decode cX5_search 6 = .ok (.aload_n 0, 1) := by decide +kernel
theorem dX5_search_7 : decode cX5_search 7 = .ok (.getfield 11, 3) := by decide +kernel
theorem dX5_search_10 : decode cX5_search 10 = .ok (.arraylength, 1) := by decide +kernel
theorem dX5_search_11 : decode cX5_search 11 = .ok (.if_icmp .le 5, 3) := by decide +kernel
theorem dX5_search_14 : decode cX5_search 14 = .ok (.iconst 0, 1) := by decide +kernel
theorem dX5_search_15 : decode cX5_search 15 = .ok (.ireturn, 1) := by decide +kernel
theorem dX5_search_16 : decode cX5_search 16 = .ok (.aload_n 0, 1) := by decide +kernel
theorem dX5_search_17 : decode cX5_search 17 = .ok (.getfield 11, 3) := by decide +kernel
theorem dX5_search_20 : decode cX5_search 20 = .ok (.iconst 0, 1) := by decide +kernel
theorem dX5_search_21 : decode cX5_search 21 = .ok (.aaload, 1) := by decide +kernel
theorem dX5_search_22 : decode cX5_search 22 = .ok (.aload_n 2, 1) := by decide +kernel
theorem dX5_search_23 : decode cX5_search 23 = .ok (.invokevirtual 22, 3) := by decide +kernel
theorem dX5_search_26 : decode cX5_search 26 = .ok (.aload_n 0, 1) := by decide +kernel
theorem dX5_search_27 : decode cX5_search 27 = .ok (.getfield 17, 3) := by decide +kernel
theorem dX5_search_30 : decode cX5_search 30 = .ok (.iload_n 3, 1) := by decide +kernel
theorem dX5_search_31 : decode cX5_search 31 = .ok (.iconst 0, 1) := by decide +kernel
theorem dX5_search_32 : decode cX5_search 32 = .ok (.iastore, 1) := by decide +kernel
theorem dX5_search_33 : decode cX5_search 33 = .ok (.aload_n 0, 1) := by decide +kernel
theorem dX5_search_34 : decode cX5_search 34 = .ok (.aload_n 1, 1) := by decide +kernel
theorem dX5_search_35 : decode cX5_search 35 = .ok (.iconst 0, 1) := by decide +kernel
theorem dX5_search_36 : decode cX5_search 36 = .ok (.iload_n 3, 1) := by decide +kernel
theorem dX5_search_37 : decode cX5_search 37 = .ok (.invokevirtual 26, 3) := by decide +kernel
theorem dX5_search_40 : decode cX5_search 40 = .ok (.ireturn, 1) := by decide +kernel
theorem dX5_panOfHour_0 : decode cX5_panOfHour 0 = .ok (.aload_n 0, 1) := by decide +kernel
theorem dX5_panOfHour_1 : decode cX5_panOfHour 1 = .ok (.getfield 17, 3) := by decide +kernel
theorem dX5_panOfHour_4 : decode cX5_panOfHour 4 = .ok (.iconst 0, 1) := by decide +kernel
theorem dX5_panOfHour_5 : decode cX5_panOfHour 5 = .ok (.iaload, 1) := by decide +kernel
theorem dX5_panOfHour_6 : decode cX5_panOfHour 6 = .ok (.iconst 2, 1) := by decide +kernel
theorem dX5_panOfHour_7 : decode cX5_panOfHour 7 = .ok (.iload_n 1, 1) := by decide +kernel
theorem dX5_panOfHour_8 : decode cX5_panOfHour 8 = .ok (.imul, 1) := by decide +kernel
theorem dX5_panOfHour_9 : decode cX5_panOfHour 9 = .ok (.ishr, 1) := by decide +kernel
theorem dX5_panOfHour_10 : decode cX5_panOfHour 10 = .ok (.iconst 3, 1) := by decide +kernel
theorem dX5_panOfHour_11 : decode cX5_panOfHour 11 = .ok (.iand, 1) := by decide +kernel
theorem dX5_panOfHour_12 : decode cX5_panOfHour 12 = .ok (.iconst 1, 1) := by decide +kernel
theorem dX5_panOfHour_13 : decode cX5_panOfHour 13 = .ok (.isub, 1) := by decide +kernel
theorem dX5_panOfHour_14 : decode cX5_panOfHour 14 = .ok (.ireturn, 1) := by decide +kernel
set_option maxRecDepth 20000 in
theorem ggX5_mostFrom_X7_isBare : GoodIn wsX5_mostFrom wsX7_isBare := goodIn_r _ [6, 7, 8, 9, 10, 11, 12, 13, 14, 15, 16, 155, 156, 157, 158, 159, 160, 161, 162] (by decide +kernel) (by decide +kernel)
set_option maxRecDepth 20000 in
theorem gX5_mostFrom_X7_isBare : GoodIn wsX5_mostFrom (wsV RX5 30 RX7 yX7_isBare wsX7_isBare) := goodIn_app (goodIn_of _ (by decide +kernel)) ggX5_mostFrom_X7_isBare
set_option maxRecDepth 20000 in
theorem ggX5_mostFrom_X5_mostBehind : GoodIn wsX5_mostFrom wsX5_mostBehind := goodIn_r _ [112, 1, 113, 114, 115, 5, 116, 7, 8, 117, 118, 119, 120, 121, 122, 123, 12, 124, 125, 126, 127, 15, 14, 16, 128, 129, 130, 131, 34, 35, 36, 37, 9, 10, 11, 13, 132, 133, 134, 135, 136, 137, 138, 139, 140, 141, 142, 143, 144, 145, 146, 147, 148, 149, 150, 151, 152, 20, 0, 2, 3, 4, 6, 17, 18, 19, 21, 22, 23, 24, 25, 26, 27, 28, 29, 30, 31, 32, 33, 38, 39, 40, 41, 42, 43, 44, 45, 46, 47, 48, 49, 50, 51, 52, 53, 54, 55, 56, 57, 58, 59, 60, 61, 62, 63, 64, 65, 66, 67, 68, 69, 70, 71, 72, 73, 74, 75, 76, 77, 78, 79, 80, 81, 82, 83, 84, 85, 86, 87, 88, 89, 90, 91, 92, 93, 94, 95, 96, 97, 98, 99, 100, 101, 102, 103, 104, 105, 106, 107, 108, 109, 110, 111, 153, 154, 155, 156, 157, 158, 159, 160, 161, 162] (by decide +kernel) (by decide +kernel)
set_option maxRecDepth 20000 in
theorem gX5_mostFrom_X5_mostBehind : GoodIn wsX5_mostFrom (wsV RX5 34 RX5 yX5_mostBehind wsX5_mostBehind) := goodIn_app (goodIn_of _ (by decide +kernel)) ggX5_mostFrom_X5_mostBehind
set_option maxRecDepth 20000 in
theorem ggX5_mostFrom_X5_note : GoodIn wsX5_mostFrom wsX5_note := goodIn_r _ [24, 25, 153, 154] (by decide +kernel) (by decide +kernel)
set_option maxRecDepth 20000 in
theorem gX5_mostFrom_X5_note : GoodIn wsX5_mostFrom (wsV RX5 38 RX5 yX5_note wsX5_note) := goodIn_app (goodIn_of _ (by decide +kernel)) ggX5_mostFrom_X5_note
set_option maxRecDepth 20000 in
theorem ggX5_mostFrom_X7_size : GoodIn wsX5_mostFrom wsX7_size := goodIn_r _ [29, 7, 155, 156] (by decide +kernel) (by decide +kernel)
set_option maxRecDepth 20000 in
theorem gX5_mostFrom_X7_size : GoodIn wsX5_mostFrom (wsV RX5 42 RX7 yX7_size wsX7_size) := goodIn_app (goodIn_of _ (by decide +kernel)) ggX5_mostFrom_X7_size
set_option maxRecDepth 20000 in
theorem ggX5_mostFrom_X7_topOf : GoodIn wsX5_mostFrom wsX7_topOf := goodIn_r _ [33, 34, 35, 36, 5, 37, 7, 8, 9, 10, 11, 12, 13, 14, 15, 16, 155, 156, 157, 158, 159, 160, 161, 162] (by decide +kernel) (by decide +kernel)
set_option maxRecDepth 20000 in
theorem gX5_mostFrom_X7_topOf : GoodIn wsX5_mostFrom (wsV RX5 46 RX7 yX7_topOf wsX7_topOf) := goodIn_app (goodIn_of _ (by decide +kernel)) ggX5_mostFrom_X7_topOf
set_option maxRecDepth 20000 in
theorem ggX5_mostFrom_X0_worthOf : GoodIn wsX5_mostFrom wsX0_worthOf := goodIn_r _ [42, 43, 44, 45, 41, 46, 47, 48, 49, 50, 51, 52, 53, 54, 55, 56, 57, 58, 59, 60, 61, 62, 63, 64, 65, 66, 67, 68, 69, 70, 71, 72, 73, 74, 75, 76, 77, 78, 79, 80, 81, 82, 83, 84, 85, 86, 87, 88, 89, 90, 91, 92, 93, 94, 95, 96, 97, 98, 99, 100, 101, 102, 103, 104, 105] (by decide +kernel) (by decide +kernel)
set_option maxRecDepth 20000 in
theorem gX5_mostFrom_X0_worthOf : GoodIn wsX5_mostFrom (wsV RX5 50 RX0 yX0_worthOf wsX0_worthOf) := goodIn_app (goodIn_of _ (by decide +kernel)) ggX5_mostFrom_X0_worthOf
set_option maxRecDepth 20000 in
theorem gX5_mostFrom_X0_worthOf_u50X1 : GoodIn wsX5_mostFrom (va_wsU RX5 50 RX1 "SkimmedSons$Child" ⟨"SkimmedSons$Child", "worthOf", "(I)I"⟩ yX0_worthOf wsX0_worthOf) := goodIn_app (goodIn_of _ (by decide +kernel)) ggX5_mostFrom_X0_worthOf
set_option maxRecDepth 20000 in
theorem gX5_mostFrom_X0_worthOf_u50X2 : GoodIn wsX5_mostFrom (va_wsU RX5 50 RX2 "SkimmedSons$Child" ⟨"SkimmedSons$Child", "worthOf", "(I)I"⟩ yX0_worthOf wsX0_worthOf) := goodIn_app (goodIn_of _ (by decide +kernel)) ggX5_mostFrom_X0_worthOf
set_option maxRecDepth 20000 in
theorem gX5_mostFrom_X0_worthOf_u50X6 : GoodIn wsX5_mostFrom (va_wsU RX5 50 RX6 "SkimmedSons$Child" ⟨"SkimmedSons$Child", "worthOf", "(I)I"⟩ yX0_worthOf wsX0_worthOf) := goodIn_app (goodIn_of _ (by decide +kernel)) ggX5_mostFrom_X0_worthOf
set_option maxRecDepth 20000 in
theorem gX5_mostFrom_X0_worthOf_u50X10 : GoodIn wsX5_mostFrom (va_wsU RX5 50 RX10 "SkimmedSons$Child" ⟨"SkimmedSons$Child", "worthOf", "(I)I"⟩ yX0_worthOf wsX0_worthOf) := goodIn_app (goodIn_of _ (by decide +kernel)) ggX5_mostFrom_X0_worthOf
theorem dX5_mostFrom_0 : decode cX5_mostFrom 0 = .ok (.iload_n 2, 1) := by decide +kernel
theorem dX5_mostFrom_1 : decode cX5_mostFrom 1 = .ok (.ifCond .lt 17, 3) := by decide +kernel
theorem dX5_mostFrom_4 : decode cX5_mostFrom 4 = .ok (.iload_n 2, 1) := by decide +kernel
theorem dX5_mostFrom_5 : decode cX5_mostFrom 5 = .ok (.iload_n 3, 1) := by decide +kernel
theorem dX5_mostFrom_6 : decode cX5_mostFrom 6 = .ok (.if_icmp .ge 12, 3) := by decide +kernel
theorem dX5_mostFrom_9 : decode cX5_mostFrom 9 = .ok (.iload_n 2, 1) := by decide +kernel
theorem dX5_mostFrom_10 : decode cX5_mostFrom 10 = .ok (.aload_n 0, 1) := by decide +kernel
theorem dX5_mostFrom_11 : decode cX5_mostFrom 11 = .ok (.getfield 11, 3) := by decide +kernel
theorem dX5_mostFrom_14 : decode cX5_mostFrom 14 = .ok (.arraylength, 1) := by decide +kernel
theorem dX5_mostFrom_15 : decode cX5_mostFrom 15 = .ok (.if_icmp .lt 5, 3) := by decide +kernel
theorem dX5_mostFrom_18 : decode cX5_mostFrom 18 = .ok (.iconst 0, 1) := by decide +kernel
theorem dX5_mostFrom_19 : decode cX5_mostFrom 19 = .ok (.ireturn, 1) := by decide +kernel
theorem dX5_mostFrom_20 : decode cX5_mostFrom 20 = .ok (.aload_n 0, 1) := by decide +kernel
theorem dX5_mostFrom_21 : decode cX5_mostFrom 21 = .ok (.getfield 11, 3) := by decide +kernel
theorem dX5_mostFrom_24 : decode cX5_mostFrom 24 = .ok (.iload_n 2, 1) := by decide +kernel
theorem dX5_mostFrom_25 : decode cX5_mostFrom 25 = .ok (.aaload, 1) := by decide +kernel
theorem dX5_mostFrom_26 : decode cX5_mostFrom 26 = .ok (.astore 4, 2) := by decide +kernel
theorem dX5_mostFrom_28 : decode cX5_mostFrom 28 = .ok (.aload 4, 2) := by decide +kernel
theorem dX5_mostFrom_30 : decode cX5_mostFrom 30 = .ok (.invokevirtual 30, 3) := by decide +kernel
theorem dX5_mostFrom_33 : decode cX5_mostFrom 33 = .ok (.ifCond .eq 22, 3) := by decide +kernel
theorem dX5_mostFrom_36 : decode cX5_mostFrom 36 = .ok (.aload_n 0, 1) := by decide +kernel
theorem dX5_mostFrom_37 : decode cX5_mostFrom 37 = .ok (.aload_n 1, 1) := by decide +kernel
theorem dX5_mostFrom_38 : decode cX5_mostFrom 38 = .ok (.iload_n 2, 1) := by decide +kernel
theorem dX5_mostFrom_39 : decode cX5_mostFrom 39 = .ok (.iload_n 3, 1) := by decide +kernel
theorem dX5_mostFrom_40 : decode cX5_mostFrom 40 = .ok (.iconst (-1), 1) := by decide +kernel
theorem dX5_mostFrom_41 : decode cX5_mostFrom 41 = .ok (.invokevirtual 34, 3) := by decide +kernel
theorem dX5_mostFrom_44 : decode cX5_mostFrom 44 = .ok (.istore 5, 2) := by decide +kernel
theorem dX5_mostFrom_46 : decode cX5_mostFrom 46 = .ok (.aload_n 0, 1) := by decide +kernel
theorem dX5_mostFrom_47 : decode cX5_mostFrom 47 = .ok (.iload_n 2, 1) := by decide +kernel
theorem dX5_mostFrom_48 : decode cX5_mostFrom 48 = .ok (.iconst (-1), 1) := by decide +kernel
theorem dX5_mostFrom_49 : decode cX5_mostFrom 49 = .ok (.invokevirtual 38, 3) := by decide +kernel
theorem dX5_mostFrom_52 : decode cX5_mostFrom 52 = .ok (.iload 5, 2) := by decide +kernel
theorem dX5_mostFrom_54 : decode cX5_mostFrom 54 = .ok (.ireturn, 1) := by decide +kernel
theorem dX5_mostFrom_55 : decode cX5_mostFrom 55 = .ok (.iconst (-1), 1) := by decide +kernel
theorem dX5_mostFrom_56 : decode cX5_mostFrom 56 = .ok (.istore 5, 2) := by decide +kernel
theorem dX5_mostFrom_58 : decode cX5_mostFrom 58 = .ok (.iconst 0, 1) := by decide +kernel
theorem dX5_mostFrom_59 : decode cX5_mostFrom 59 = .ok (.istore 6, 2) := by decide +kernel
theorem dX5_mostFrom_61 : decode cX5_mostFrom 61 = .ok (.iload 6, 2) := by decide +kernel
theorem dX5_mostFrom_63 : decode cX5_mostFrom 63 = .ok (.aload 4, 2) := by decide +kernel
theorem dX5_mostFrom_65 : decode cX5_mostFrom 65 = .ok (.invokevirtual 42, 3) := by decide +kernel
theorem dX5_mostFrom_68 : decode cX5_mostFrom 68 = .ok (.if_icmp .ge 63, 3) := by decide +kernel
theorem dX5_mostFrom_71 : decode cX5_mostFrom 71 = .ok (.aload 4, 2) := by decide +kernel
theorem dX5_mostFrom_73 : decode cX5_mostFrom 73 = .ok (.iload 6, 2) := by decide +kernel
theorem dX5_mostFrom_75 : decode cX5_mostFrom 75 = .ok (.invokevirtual 46, 3) := by decide +kernel
theorem dX5_mostFrom_78 : decode cX5_mostFrom 78 = .ok (.istore 7, 2) := by decide +kernel
theorem dX5_mostFrom_80 : decode cX5_mostFrom 80 = .ok (.iload 7, 2) := by decide +kernel
theorem dX5_mostFrom_82 : decode cX5_mostFrom 82 = .ok (.iconst (-1), 1) := by decide +kernel
theorem dX5_mostFrom_83 : decode cX5_mostFrom 83 = .ok (.if_icmp .ne 6, 3) := by decide +kernel
theorem dX5_mostFrom_86 : decode cX5_mostFrom 86 = .ok (.goto 39, 3) := by decide +kernel
theorem dX5_mostFrom_89 : decode cX5_mostFrom 89 = .ok (.aload_n 1, 1) := by decide +kernel
theorem dX5_mostFrom_90 : decode cX5_mostFrom 90 = .ok (.iload 7, 2) := by decide +kernel
theorem dX5_mostFrom_92 : decode cX5_mostFrom 92 = .ok (.invokevirtual 50, 3) := by decide +kernel
theorem dX5_mostFrom_95 : decode cX5_mostFrom 95 = .ok (.aload_n 0, 1) := by decide +kernel
theorem dX5_mostFrom_96 : decode cX5_mostFrom 96 = .ok (.aload_n 1, 1) := by decide +kernel
theorem dX5_mostFrom_97 : decode cX5_mostFrom 97 = .ok (.iload_n 2, 1) := by decide +kernel
theorem dX5_mostFrom_98 : decode cX5_mostFrom 98 = .ok (.iload_n 3, 1) := by decide +kernel
theorem dX5_mostFrom_99 : decode cX5_mostFrom 99 = .ok (.iload 6, 2) := by decide +kernel
theorem dX5_mostFrom_101 : decode cX5_mostFrom 101 = .ok (.invokevirtual 34, 3) := by decide +kernel
theorem dX5_mostFrom_104 : decode cX5_mostFrom 104 = .ok (.iadd, 1) := by decide +kernel
theorem dX5_mostFrom_105 : decode cX5_mostFrom 105 = .ok (.istore 8, 2) := by decide +kernel
theorem dX5_mostFrom_107 : decode cX5_mostFrom 107 = .ok (.iload 8, 2) := by decide +kernel
theorem dX5_mostFrom_109 : decode cX5_mostFrom 109 = .ok (.iload 5, 2) := by decide +kernel
theorem dX5_mostFrom_111 : decode cX5_mostFrom 111 = .ok (.if_icmp .le 14, 3) := by decide +kernel
theorem dX5_mostFrom_114 : decode cX5_mostFrom 114 = .ok (.iload 8, 2) := by decide +kernel
theorem dX5_mostFrom_116 : decode cX5_mostFrom 116 = .ok (.istore 5, 2) := by decide +kernel
theorem dX5_mostFrom_118 : decode cX5_mostFrom 118 = .ok (.aload_n 0, 1) := by decide +kernel
theorem dX5_mostFrom_119 : decode cX5_mostFrom 119 = .ok (.iload_n 2, 1) := by decide +kernel
theorem dX5_mostFrom_120 : decode cX5_mostFrom 120 = .ok (.iload 6, 2) := by decide +kernel
theorem dX5_mostFrom_122 : decode cX5_mostFrom 122 = .ok (.invokevirtual 38, 3) := by decide +kernel
theorem dX5_mostFrom_125 : decode cX5_mostFrom 125 = .ok (.iinc 6 1, 3) := by decide +kernel
theorem dX5_mostFrom_128 : decode cX5_mostFrom 128 = .ok (.goto (-67), 3) := by decide +kernel
theorem dX5_mostFrom_131 : decode cX5_mostFrom 131 = .ok (.iload 5, 2) := by decide +kernel
theorem dX5_mostFrom_133 : decode cX5_mostFrom 133 = .ok (.ireturn, 1) := by decide +kernel
set_option maxRecDepth 20000 in
theorem ggX5_mostBehind_X7_copyFrom : GoodIn wsX5_mostBehind wsX7_copyFrom := goodIn_r _ [6, 7, 8, 9, 10, 11, 12, 13, 14, 15, 16, 17, 18, 19, 20, 21, 22, 23, 155, 156, 157, 158, 159, 160, 161, 162] (by decide +kernel) (by decide +kernel)
set_option maxRecDepth 20000 in
theorem gX5_mostBehind_X7_copyFrom : GoodIn wsX5_mostBehind (wsV RX5 22 RX7 yX7_copyFrom wsX7_copyFrom) := goodIn_app (goodIn_of _ (by decide +kernel)) ggX5_mostBehind_X7_copyFrom
set_option maxRecDepth 20000 in
theorem ggX5_mostBehind_X7_takeFrom : GoodIn wsX5_mostBehind wsX7_takeFrom := goodIn_r _ [27, 28, 29, 30, 5, 31, 7, 8, 32, 33, 34, 16, 35, 22, 21, 23, 36, 37, 38, 39, 19, 40, 155, 156, 157, 158, 159, 160, 161, 162] (by decide +kernel) (by decide +kernel)
set_option maxRecDepth 20000 in
theorem gX5_mostBehind_X7_takeFrom : GoodIn wsX5_mostBehind (wsV RX5 55 RX7 yX7_takeFrom wsX7_takeFrom) := goodIn_app (goodIn_of _ (by decide +kernel)) ggX5_mostBehind_X7_takeFrom
set_option maxRecDepth 20000 in
theorem ggX5_mostBehind_X7_standHour : GoodIn wsX5_mostBehind wsX7_standHour := goodIn_r _ [44, 7, 8, 45, 46, 47, 16, 48, 20, 49, 10, 11, 12, 21, 19, 22, 50, 51, 52, 53, 18, 155, 156, 157, 158, 159, 160, 161, 162] (by decide +kernel) (by decide +kernel)
set_option maxRecDepth 20000 in
theorem gX5_mostBehind_X7_standHour : GoodIn wsX5_mostBehind (wsV RX5 58 RX7 yX7_standHour wsX7_standHour) := goodIn_app (goodIn_of _ (by decide +kernel)) ggX5_mostBehind_X7_standHour
set_option maxRecDepth 20000 in
theorem ggX5_mostBehind_X5_mostFrom : GoodIn wsX5_mostBehind wsX5_mostFrom := goodIn_r _ [58, 1, 59, 60, 61, 5, 62, 7, 8, 32, 33, 34, 16, 35, 22, 21, 23, 63, 64, 65, 57, 66, 67, 68, 69, 70, 71, 72, 73, 74, 75, 76, 77, 78, 28, 29, 30, 31, 79, 80, 81, 82, 83, 84, 85, 86, 87, 88, 89, 90, 91, 92, 93, 94, 95, 96, 97, 98, 99, 100, 101, 102, 103, 104, 105, 106, 107, 108, 109, 110, 111, 112, 113, 114, 115, 116, 117, 118, 119, 120, 121, 122, 123, 124, 125, 126, 127, 128, 129, 130, 131, 132, 133, 134, 135, 136, 137, 138, 139, 140, 141, 142, 143, 144, 145, 146, 147, 148, 149, 150, 151, 152, 0, 2, 3, 4, 6, 9, 10, 11, 12, 13, 14, 15, 17, 18, 19, 20, 24, 25, 26, 27, 36, 37, 38, 39, 40, 41, 42, 43, 44, 45, 46, 47, 48, 49, 50, 51, 52, 53, 54, 55, 56, 153, 154, 155, 156, 157, 158, 159, 160, 161, 162] (by decide +kernel) (by decide +kernel)
set_option maxRecDepth 20000 in
theorem gX5_mostBehind_X5_mostFrom : GoodIn wsX5_mostBehind (wsV RX5 26 RX5 yX5_mostFrom wsX5_mostFrom) := goodIn_app (goodIn_of _ (by decide +kernel)) ggX5_mostBehind_X5_mostFrom
theorem dX5_mostBehind_0 : decode cX5_mostBehind 0 = .ok (.iload_n 2, 1) := by decide +kernel
theorem dX5_mostBehind_1 : decode cX5_mostBehind 1 = .ok (.iconst 1, 1) := by decide +kernel
theorem dX5_mostBehind_2 : decode cX5_mostBehind 2 = .ok (.iadd, 1) := by decide +kernel
theorem dX5_mostBehind_3 : decode cX5_mostBehind 3 = .ok (.istore 5, 2) := by decide +kernel
theorem dX5_mostBehind_5 : decode cX5_mostBehind 5 = .ok (.iload 5, 2) := by decide +kernel
theorem dX5_mostBehind_7 : decode cX5_mostBehind 7 = .ok (.iload_n 3, 1) := by decide +kernel
theorem dX5_mostBehind_8 : decode cX5_mostBehind 8 = .ok (.if_icmp .ge 13, 3) := by decide +kernel
theorem dX5_mostBehind_11 : decode cX5_mostBehind 11 = .ok (.iload 5, 2) := by decide +kernel
theorem dX5_mostBehind_13 : decode cX5_mostBehind 13 = .ok (.aload_n 0, 1) := by decide +kernel
theorem dX5_mostBehind_14 : decode cX5_mostBehind 14 = .ok (.getfield 11, 3) := by decide +kernel
theorem dX5_mostBehind_17 : decode cX5_mostBehind 17 = .ok (.arraylength, 1) := by decide +kernel
theorem dX5_mostBehind_18 : decode cX5_mostBehind 18 = .ok (.if_icmp .lt 5, 3) := by decide +kernel
theorem dX5_mostBehind_21 : decode cX5_mostBehind 21 = .ok (.iconst 0, 1) := by decide +kernel
theorem dX5_mostBehind_22 : decode cX5_mostBehind 22 = .ok (.ireturn, 1) := by decide +kernel
theorem dX5_mostBehind_23 : decode cX5_mostBehind 23 = .ok (.aload_n 0, 1) := by decide +kernel
theorem dX5_mostBehind_24 : decode cX5_mostBehind 24 = .ok (.getfield 11, 3) := by decide +kernel
theorem dX5_mostBehind_27 : decode cX5_mostBehind 27 = .ok (.iload 5, 2) := by decide +kernel
theorem dX5_mostBehind_29 : decode cX5_mostBehind 29 = .ok (.aaload, 1) := by decide +kernel
theorem dX5_mostBehind_30 : decode cX5_mostBehind 30 = .ok (.aload_n 0, 1) := by decide +kernel
theorem dX5_mostBehind_31 : decode cX5_mostBehind 31 = .ok (.getfield 11, 3) := by decide +kernel
theorem dX5_mostBehind_34 : decode cX5_mostBehind 34 = .ok (.iload_n 2, 1) := by decide +kernel
theorem dX5_mostBehind_35 : decode cX5_mostBehind 35 = .ok (.aaload, 1) := by decide +kernel
theorem dX5_mostBehind_36 : decode cX5_mostBehind 36 = .ok (.invokevirtual 22, 3) := by decide +kernel
theorem dX5_mostBehind_39 : decode cX5_mostBehind 39 = .ok (.aload_n 0, 1) := by decide +kernel
theorem dX5_mostBehind_40 : decode cX5_mostBehind 40 = .ok (.getfield 11, 3) := by decide +kernel
theorem dX5_mostBehind_43 : decode cX5_mostBehind 43 = .ok (.iload 5, 2) := by decide +kernel
theorem dX5_mostBehind_45 : decode cX5_mostBehind 45 = .ok (.aaload, 1) := by decide +kernel
theorem dX5_mostBehind_46 : decode cX5_mostBehind 46 = .ok (.iload 4, 2) := by decide +kernel
theorem dX5_mostBehind_48 : decode cX5_mostBehind 48 = .ok (.invokevirtual 55, 3) := by decide +kernel
theorem dX5_mostBehind_51 : decode cX5_mostBehind 51 = .ok (.pop, 1) := by decide +kernel
theorem dX5_mostBehind_52 : decode cX5_mostBehind 52 = .ok (.aload_n 0, 1) := by decide +kernel
theorem dX5_mostBehind_53 : decode cX5_mostBehind 53 = .ok (.getfield 11, 3) := by decide +kernel
theorem dX5_mostBehind_56 : decode cX5_mostBehind 56 = .ok (.iload 5, 2) := by decide +kernel
theorem dX5_mostBehind_58 : decode cX5_mostBehind 58 = .ok (.aaload, 1) := by decide +kernel
theorem dX5_mostBehind_59 : decode cX5_mostBehind 59 = .ok (.invokevirtual 58, 3) := by decide +kernel
theorem dX5_mostBehind_62 : decode cX5_mostBehind 62 = .ok (.aload_n 0, 1) := by decide +kernel
theorem dX5_mostBehind_63 : decode cX5_mostBehind 63 = .ok (.aload_n 1, 1) := by decide +kernel
theorem dX5_mostBehind_64 : decode cX5_mostBehind 64 = .ok (.iload 5, 2) := by decide +kernel
theorem dX5_mostBehind_66 : decode cX5_mostBehind 66 = .ok (.iload_n 3, 1) := by decide +kernel
theorem dX5_mostBehind_67 : decode cX5_mostBehind 67 = .ok (.invokevirtual 26, 3) := by decide +kernel
theorem dX5_mostBehind_70 : decode cX5_mostBehind 70 = .ok (.ireturn, 1) := by decide +kernel
theorem dX5_note_0 : decode cX5_note 0 = .ok (.aload_n 0, 1) := by decide +kernel
theorem dX5_note_1 : decode cX5_note 1 = .ok (.getfield 17, 3) := by decide +kernel
theorem dX5_note_4 : decode cX5_note 4 = .ok (.iload_n 1, 1) := by decide +kernel
theorem dX5_note_5 : decode cX5_note 5 = .ok (.iload_n 2, 1) := by decide +kernel
theorem dX5_note_6 : decode cX5_note 6 = .ok (.iconst 1, 1) := by decide +kernel
theorem dX5_note_7 : decode cX5_note 7 = .ok (.iadd, 1) := by decide +kernel
theorem dX5_note_8 : decode cX5_note 8 = .ok (.iconst 2, 1) := by decide +kernel
theorem dX5_note_9 : decode cX5_note 9 = .ok (.iload_n 1, 1) := by decide +kernel
theorem dX5_note_10 : decode cX5_note 10 = .ok (.imul, 1) := by decide +kernel
theorem dX5_note_11 : decode cX5_note 11 = .ok (.ishl, 1) := by decide +kernel
theorem dX5_note_12 : decode cX5_note 12 = .ok (.aload_n 0, 1) := by decide +kernel
theorem dX5_note_13 : decode cX5_note 13 = .ok (.getfield 17, 3) := by decide +kernel
theorem dX5_note_16 : decode cX5_note 16 = .ok (.iload_n 1, 1) := by decide +kernel
theorem dX5_note_17 : decode cX5_note 17 = .ok (.iconst 1, 1) := by decide +kernel
theorem dX5_note_18 : decode cX5_note 18 = .ok (.iadd, 1) := by decide +kernel
theorem dX5_note_19 : decode cX5_note 19 = .ok (.iaload, 1) := by decide +kernel
theorem dX5_note_20 : decode cX5_note 20 = .ok (.ior, 1) := by decide +kernel
theorem dX5_note_21 : decode cX5_note 21 = .ok (.iastore, 1) := by decide +kernel
theorem dX5_note_22 : decode cX5_note 22 = .ok (.return_, 1) := by decide +kernel
set_option maxRecDepth 20000 in
theorem ggX6_init_X0_init : GoodIn wsX6_init wsX0_init := goodIn_r _ [3, 4, 5, 6, 7, 8, 9, 10, 11, 12, 13, 14, 15, 16, 17, 18, 19] (by decide +kernel) (by decide +kernel)
set_option maxRecDepth 20000 in
theorem gX6_init_X0_init_n3 : GoodIn wsX6_init (wsX0_init) := ggX6_init_X0_init
theorem dX6_init_0 : decode cX6_init 0 = .ok (.aload_n 0, 1) := by decide +kernel
theorem dX6_init_1 : decode cX6_init 1 = .ok (.invokespecial 3, 3) := by decide +kernel
theorem dX6_init_4 : decode cX6_init 4 = .ok (.return_, 1) := by decide +kernel
theorem dX6_kind_0 : decode cX6_kind 0 = .ok (.iconst 2, 1) := by decide +kernel
theorem dX6_kind_1 : decode cX6_kind 1 = .ok (.ireturn, 1) := by decide +kernel
set_option maxRecDepth 20000 in
theorem ggX6_creamWorth_X0_creamWorth : GoodIn wsX6_creamWorth wsX0_creamWorth := goodIn_r _ [6] (by decide +kernel) (by decide +kernel)
set_option maxRecDepth 20000 in
theorem gX6_creamWorth_X0_creamWorth_s9 : GoodIn wsX6_creamWorth (va_wsSU RX6 9 yX0_creamWorth wsX0_creamWorth) := goodIn_app (goodIn_of _ (by decide +kernel)) ggX6_creamWorth_X0_creamWorth
theorem dX6_creamWorth_0 : decode cX6_creamWorth 0 = .ok (.aload_n 0, 1) := by decide +kernel
theorem dX6_creamWorth_1 : decode cX6_creamWorth 1 = .ok (.invokespecial 9, 3) := by decide +kernel
theorem dX6_creamWorth_4 : decode cX6_creamWorth 4 = .ok (.iconst 1, 1) := by decide +kernel
theorem dX6_creamWorth_5 : decode cX6_creamWorth 5 = .ok (.isub, 1) := by decide +kernel
theorem dX6_creamWorth_6 : decode cX6_creamWorth 6 = .ok (.ireturn, 1) := by decide +kernel
set_option maxRecDepth 20000 in
theorem ggX6_blueWorth_X0_blueWorth : GoodIn wsX6_blueWorth wsX0_blueWorth := goodIn_r _ [6] (by decide +kernel) (by decide +kernel)
set_option maxRecDepth 20000 in
theorem gX6_blueWorth_X0_blueWorth_s13 : GoodIn wsX6_blueWorth (va_wsSU RX6 13 yX0_blueWorth wsX0_blueWorth) := goodIn_app (goodIn_of _ (by decide +kernel)) ggX6_blueWorth_X0_blueWorth
theorem dX6_blueWorth_0 : decode cX6_blueWorth 0 = .ok (.aload_n 0, 1) := by decide +kernel
theorem dX6_blueWorth_1 : decode cX6_blueWorth 1 = .ok (.invokespecial 13, 3) := by decide +kernel
theorem dX6_blueWorth_4 : decode cX6_blueWorth 4 = .ok (.iconst 1, 1) := by decide +kernel
theorem dX6_blueWorth_5 : decode cX6_blueWorth 5 = .ok (.iadd, 1) := by decide +kernel
theorem dX6_blueWorth_6 : decode cX6_blueWorth 6 = .ok (.ireturn, 1) := by decide +kernel
set_option maxRecDepth 20000 in
theorem ggX7_init_X4_init : GoodIn wsX7_init wsX4_init := goodIn_r _ [9, 10, 2, 3] (by decide +kernel) (by decide +kernel)
set_option maxRecDepth 20000 in
theorem gX7_init_X4_init_n17 : GoodIn wsX7_init (wsX4_init) := ggX7_init_X4_init
theorem dX7_init_0 : decode cX7_init 0 = .ok (.aload_n 0, 1) := by decide +kernel
theorem dX7_init_1 : decode cX7_init 1 = .ok (.invokespecial 3, 3) := by decide +kernel
theorem dX7_init_4 : decode cX7_init 4 = .ok (.aload_n 0, 1) := by decide +kernel
theorem dX7_init_5 : decode cX7_init 5 = .ok (.iconst 3, 1) := by decide +kernel
theorem dX7_init_6 : decode cX7_init 6 = .ok (.anewarray 9, 3) := by decide +kernel
theorem dX7_init_9 : decode cX7_init 9 = .ok (.putfield 11, 3) := by decide +kernel
theorem dX7_init_12 : decode cX7_init 12 = .ok (.iconst 0, 1) := by decide +kernel
theorem dX7_init_13 : decode cX7_init 13 = .ok (.istore_n 1, 1) := by decide +kernel
theorem dX7_init_14 : decode cX7_init 14 = .ok (.iload_n 1, 1) := by decide +kernel
theorem dX7_init_15 : decode cX7_init 15 = .ok (.aload_n 0, 1) := by decide +kernel
theorem dX7_init_16 : decode cX7_init 16 = .ok (.getfield 11, 3) := by decide +kernel
theorem dX7_init_19 : decode cX7_init 19 = .ok (.arraylength, 1) := by decide +kernel
theorem dX7_init_20 : decode cX7_init 20 = .ok (.if_icmp .ge 22, 3) := by decide +kernel
theorem dX7_init_23 : decode cX7_init 23 = .ok (.aload_n 0, 1) := by decide +kernel
theorem dX7_init_24 : decode cX7_init 24 = .ok (.getfield 11, 3) := by decide +kernel
theorem dX7_init_27 : decode cX7_init 27 = .ok (.iload_n 1, 1) := by decide +kernel
theorem dX7_init_28 : decode cX7_init 28 = .ok (.new 9, 3) := by decide +kernel
theorem dX7_init_31 : decode cX7_init 31 = .ok (.dup, 1) := by decide +kernel
theorem dX7_init_32 : decode cX7_init 32 = .ok (.invokespecial 17, 3) := by decide +kernel
theorem dX7_init_35 : decode cX7_init 35 = .ok (.aastore, 1) := by decide +kernel
theorem dX7_init_36 : decode cX7_init 36 = .ok (.iinc 1 1, 3) := by decide +kernel
theorem dX7_init_39 : decode cX7_init 39 = .ok (.goto (-25), 3) := by decide +kernel
theorem dX7_init_42 : decode cX7_init 42 = .ok (.return_, 1) := by decide +kernel
theorem dX7_size_0 : decode cX7_size 0 = .ok (.aload_n 0, 1) := by decide +kernel
theorem dX7_size_1 : decode cX7_size 1 = .ok (.getfield 18, 3) := by decide +kernel
theorem dX7_size_4 : decode cX7_size 4 = .ok (.ireturn, 1) := by decide +kernel
theorem dX7_at_0 : decode cX7_at 0 = .ok (.iload_n 1, 1) := by decide +kernel
theorem dX7_at_1 : decode cX7_at 1 = .ok (.ifCond .lt 29, 3) := by decide +kernel
theorem dX7_at_4 : decode cX7_at 4 = .ok (.iload_n 1, 1) := by decide +kernel
theorem dX7_at_5 : decode cX7_at 5 = .ok (.aload_n 0, 1) := by decide +kernel
theorem dX7_at_6 : decode cX7_at 6 = .ok (.getfield 18, 3) := by decide +kernel
theorem dX7_at_9 : decode cX7_at 9 = .ok (.if_icmp .ge 21, 3) := by decide +kernel
theorem dX7_at_12 : decode cX7_at 12 = .ok (.iload_n 1, 1) := by decide +kernel
theorem dX7_at_13 : decode cX7_at 13 = .ok (.aload_n 0, 1) := by decide +kernel
theorem dX7_at_14 : decode cX7_at 14 = .ok (.getfield 11, 3) := by decide +kernel
theorem dX7_at_17 : decode cX7_at 17 = .ok (.arraylength, 1) := by decide +kernel
theorem dX7_at_18 : decode cX7_at 18 = .ok (.if_icmp .ge 12, 3) := by decide +kernel
theorem dX7_at_21 : decode cX7_at 21 = .ok (.aload_n 0, 1) := by decide +kernel
theorem dX7_at_22 : decode cX7_at 22 = .ok (.getfield 11, 3) := by decide +kernel
theorem dX7_at_25 : decode cX7_at 25 = .ok (.iload_n 1, 1) := by decide +kernel
theorem dX7_at_26 : decode cX7_at 26 = .ok (.aaload, 1) := by decide +kernel
theorem dX7_at_27 : decode cX7_at 27 = .ok (.goto 4, 3) := by decide +kernel
theorem dX7_at_30 : decode cX7_at 30 = .ok (.aconst_null, 1) := by decide +kernel
theorem dX7_at_31 : decode cX7_at 31 = .ok (.areturn, 1) := by decide +kernel
theorem dX7_clear_0 : decode cX7_clear 0 = .ok (.aload_n 0, 1) := by decide +kernel
theorem dX7_clear_1 : decode cX7_clear 1 = .ok (.iconst 0, 1) := by decide +kernel
theorem dX7_clear_2 : decode cX7_clear 2 = .ok (.putfield 18, 3) := by decide +kernel
theorem dX7_clear_5 : decode cX7_clear 5 = .ok (.return_, 1) := by decide +kernel
set_option maxRecDepth 20000 in
theorem ggX7_add_X4_fill : GoodIn wsX7_add wsX4_fill := goodIn_r _ [7, 8, 9, 10, 11, 12, 13, 16, 17, 18, 19, 20, 21] (by decide +kernel) (by decide +kernel)
set_option maxRecDepth 20000 in
theorem gX7_add_X4_fill : GoodIn wsX7_add (wsV RX7 22 RX4 yX4_fill wsX4_fill) := goodIn_app (goodIn_of _ (by decide +kernel)) ggX7_add_X4_fill
theorem dX7_add_0 : decode cX7_add 0 = .ok (.aload_n 0, 1) := by decide +kernel
theorem dX7_add_1 : decode cX7_add 1 = .ok (.getfield 18, 3) := by decide +kernel
theorem dX7_add_4 : decode cX7_add 4 = .ok (.aload_n 0, 1) := by decide +kernel
theorem dX7_add_5 : decode cX7_add 5 = .ok (.getfield 11, 3) := by decide +kernel
theorem dX7_add_8 : decode cX7_add 8 = .ok (.arraylength, 1) := by decide +kernel
theorem dX7_add_9 : decode cX7_add 9 = .ok (.if_icmp .ge 28, 3) := by decide +kernel
theorem dX7_add_12 : decode cX7_add 12 = .ok (.aload_n 0, 1) := by decide +kernel
theorem dX7_add_13 : decode cX7_add 13 = .ok (.getfield 11, 3) := by decide +kernel
theorem dX7_add_16 : decode cX7_add 16 = .ok (.aload_n 0, 1) := by decide +kernel
theorem dX7_add_17 : decode cX7_add 17 = .ok (.getfield 18, 3) := by decide +kernel
theorem dX7_add_20 : decode cX7_add 20 = .ok (.aaload, 1) := by decide +kernel
theorem dX7_add_21 : decode cX7_add 21 = .ok (.iload_n 1, 1) := by decide +kernel
theorem dX7_add_22 : decode cX7_add 22 = .ok (.iload_n 2, 1) := by decide +kernel
theorem dX7_add_23 : decode cX7_add 23 = .ok (.iload_n 3, 1) := by decide +kernel
theorem dX7_add_24 : decode cX7_add 24 = .ok (.invokevirtual 22, 3) := by decide +kernel
theorem dX7_add_27 : decode cX7_add 27 = .ok (.aload_n 0, 1) := by decide +kernel
theorem dX7_add_28 : decode cX7_add 28 = .ok (.dup, 1) := by decide +kernel
theorem dX7_add_29 : decode cX7_add 29 = .ok (.getfield 18, 3) := by decide +kernel
theorem dX7_add_32 : decode cX7_add 32 = .ok (.iconst 1, 1) := by decide +kernel
theorem dX7_add_33 : decode cX7_add 33 = .ok (.iadd, 1) := by decide +kernel
theorem dX7_add_34 : decode cX7_add 34 = .ok (.putfield 18, 3) := by decide +kernel
theorem dX7_add_37 : decode cX7_add 37 = .ok (.return_, 1) := by decide +kernel
set_option maxRecDepth 20000 in
theorem ggX7_copyFrom_X4_copyFrom : GoodIn wsX7_copyFrom wsX4_copyFrom := goodIn_r _ [11, 12, 13, 14, 15, 16, 17, 20, 21, 22, 23, 24, 25] (by decide +kernel) (by decide +kernel)
set_option maxRecDepth 20000 in
theorem gX7_copyFrom_X4_copyFrom : GoodIn wsX7_copyFrom (wsV RX7 32 RX4 yX4_copyFrom wsX4_copyFrom) := goodIn_app (goodIn_of _ (by decide +kernel)) ggX7_copyFrom_X4_copyFrom
theorem dX7_copyFrom_0 : decode cX7_copyFrom 0 = .ok (.aload_n 0, 1) := by decide +kernel
theorem dX7_copyFrom_1 : decode cX7_copyFrom 1 = .ok (.aload_n 1, 1) := by decide +kernel
theorem dX7_copyFrom_2 : decode cX7_copyFrom 2 = .ok (.getfield 18, 3) := by decide +kernel
theorem dX7_copyFrom_5 : decode cX7_copyFrom 5 = .ok (.aload_n 0, 1) := by decide +kernel
theorem dX7_copyFrom_6 : decode cX7_copyFrom 6 = .ok (.getfield 11, 3) := by decide +kernel
theorem dX7_copyFrom_9 : decode cX7_copyFrom 9 = .ok (.arraylength, 1) := by decide +kernel
theorem dX7_copyFrom_10 : decode cX7_copyFrom 10 = .ok (.invokestatic 26, 3) := by decide +kernel
theorem dX7_copyFrom_13 : decode cX7_copyFrom 13 = .ok (.putfield 18, 3) := by decide +kernel
theorem dX7_copyFrom_16 : decode cX7_copyFrom 16 = .ok (.iconst 0, 1) := by decide +kernel
theorem dX7_copyFrom_17 : decode cX7_copyFrom 17 = .ok (.istore_n 2, 1) := by decide +kernel
theorem dX7_copyFrom_18 : decode cX7_copyFrom 18 = .ok (.iload_n 2, 1) := by decide +kernel
theorem dX7_copyFrom_19 : decode cX7_copyFrom 19 = .ok (.aload_n 0, 1) := by decide +kernel
theorem dX7_copyFrom_20 : decode cX7_copyFrom 20 = .ok (.getfield 18, 3) := by decide +kernel
theorem dX7_copyFrom_23 : decode cX7_copyFrom 23 = .ok (.if_icmp .ge 24, 3) := by decide +kernel
theorem dX7_copyFrom_26 : decode cX7_copyFrom 26 = .ok (.aload_n 0, 1) := by decide +kernel
theorem dX7_copyFrom_27 : decode cX7_copyFrom 27 = .ok (.getfield 11, 3) := by decide +kernel
theorem dX7_copyFrom_30 : decode cX7_copyFrom 30 = .ok (.iload_n 2, 1) := by decide +kernel
theorem dX7_copyFrom_31 : decode cX7_copyFrom 31 = .ok (.aaload, 1) := by decide +kernel
theorem dX7_copyFrom_32 : decode cX7_copyFrom 32 = .ok (.aload_n 1, 1) := by decide +kernel
theorem dX7_copyFrom_33 : decode cX7_copyFrom 33 = .ok (.getfield 11, 3) := by decide +kernel
theorem dX7_copyFrom_36 : decode cX7_copyFrom 36 = .ok (.iload_n 2, 1) := by decide +kernel
theorem dX7_copyFrom_37 : decode cX7_copyFrom 37 = .ok (.aaload, 1) := by decide +kernel
theorem dX7_copyFrom_38 : decode cX7_copyFrom 38 = .ok (.invokevirtual 32, 3) := by decide +kernel
theorem dX7_copyFrom_41 : decode cX7_copyFrom 41 = .ok (.iinc 2 1, 3) := by decide +kernel
theorem dX7_copyFrom_44 : decode cX7_copyFrom 44 = .ok (.goto (-26), 3) := by decide +kernel
theorem dX7_copyFrom_47 : decode cX7_copyFrom 47 = .ok (.return_, 1) := by decide +kernel
set_option maxRecDepth 20000 in
theorem ggX7_standHour_X4_standHour : GoodIn wsX7_standHour wsX4_standHour := goodIn_r _ [7, 8, 9, 10, 11, 12, 13, 14, 15, 16, 17, 18, 6, 19, 20, 23, 24, 25, 26, 27, 28] (by decide +kernel) (by decide +kernel)
set_option maxRecDepth 20000 in
theorem gX7_standHour_X4_standHour : GoodIn wsX7_standHour (wsV RX7 36 RX4 yX4_standHour wsX4_standHour) := goodIn_app (goodIn_of _ (by decide +kernel)) ggX7_standHour_X4_standHour
theorem dX7_standHour_0 : decode cX7_standHour 0 = .ok (.iconst 0, 1) := by decide +kernel
theorem dX7_standHour_1 : decode cX7_standHour 1 = .ok (.istore_n 1, 1) := by decide +kernel
theorem dX7_standHour_2 : decode cX7_standHour 2 = .ok (.iload_n 1, 1) := by decide +kernel
theorem dX7_standHour_3 : decode cX7_standHour 3 = .ok (.aload_n 0, 1) := by decide +kernel
theorem dX7_standHour_4 : decode cX7_standHour 4 = .ok (.getfield 18, 3) := by decide +kernel
theorem dX7_standHour_7 : decode cX7_standHour 7 = .ok (.if_icmp .ge 18, 3) := by decide +kernel
theorem dX7_standHour_10 : decode cX7_standHour 10 = .ok (.aload_n 0, 1) := by decide +kernel
theorem dX7_standHour_11 : decode cX7_standHour 11 = .ok (.getfield 11, 3) := by decide +kernel
theorem dX7_standHour_14 : decode cX7_standHour 14 = .ok (.iload_n 1, 1) := by decide +kernel
theorem dX7_standHour_15 : decode cX7_standHour 15 = .ok (.aaload, 1) := by decide +kernel
theorem dX7_standHour_16 : decode cX7_standHour 16 = .ok (.invokevirtual 36, 3) := by decide +kernel
theorem dX7_standHour_19 : decode cX7_standHour 19 = .ok (.iinc 1 1, 3) := by decide +kernel
theorem dX7_standHour_22 : decode cX7_standHour 22 = .ok (.goto (-20), 3) := by decide +kernel
theorem dX7_standHour_25 : decode cX7_standHour 25 = .ok (.return_, 1) := by decide +kernel
set_option maxRecDepth 20000 in
theorem ggX7_topOf_X7_at : GoodIn wsX7_topOf wsX7_at := goodIn_r _ [5, 6, 7, 16, 17] (by decide +kernel) (by decide +kernel)
set_option maxRecDepth 20000 in
theorem gX7_topOf_X7_at : GoodIn wsX7_topOf (wsV RX7 39 RX7 yX7_at wsX7_at) := goodIn_app (goodIn_of _ (by decide +kernel)) ggX7_topOf_X7_at
set_option maxRecDepth 20000 in
theorem ggX7_topOf_X4_top : GoodIn wsX7_topOf wsX4_top := goodIn_r _ [12, 13, 14, 15, 18, 19, 20, 21, 22, 23] (by decide +kernel) (by decide +kernel)
set_option maxRecDepth 20000 in
theorem gX7_topOf_X4_top : GoodIn wsX7_topOf (wsV RX7 43 RX4 yX4_top wsX4_top) := goodIn_app (goodIn_of _ (by decide +kernel)) ggX7_topOf_X4_top
