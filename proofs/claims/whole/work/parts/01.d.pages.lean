theorem dX1_init_0 : decode cX1_init 0 = .ok (.aload_n 0, 1) := by decide +kernel
theorem dX1_init_1 : decode cX1_init 1 = .ok (.invokespecial 1, 3) := by decide +kernel
theorem dX1_init_4 : decode cX1_init 4 = .ok (.aload_n 0, 1) := by decide +kernel
theorem dX1_init_5 : decode cX1_init 5 = .ok (.sipush 512, 3) := by decide +kernel
theorem dX1_init_8 : decode cX1_init 8 = .ok (.newarray .int, 2) := by decide +kernel
theorem dX1_init_10 : decode cX1_init 10 = .ok (.putfield 9, 3) := by decide +kernel
theorem dX1_init_13 : decode cX1_init 13 = .ok (.aload_n 0, 1) := by decide +kernel
theorem dX1_init_14 : decode cX1_init 14 = .ok (.bipush 64, 2) := by decide +kernel
theorem dX1_init_16 : decode cX1_init 16 = .ok (.newarray .int, 2) := by decide +kernel
theorem dX1_init_18 : decode cX1_init 18 = .ok (.putfield 13, 3) := by decide +kernel
theorem dX1_init_21 : decode cX1_init 21 = .ok (.aload_n 0, 1) := by decide +kernel
theorem dX1_init_22 : decode cX1_init 22 = .ok (.sipush 512, 3) := by decide +kernel
theorem dX1_init_25 : decode cX1_init 25 = .ok (.newarray .int, 2) := by decide +kernel
theorem dX1_init_27 : decode cX1_init 27 = .ok (.putfield 16, 3) := by decide +kernel
theorem dX1_init_30 : decode cX1_init 30 = .ok (.aload_n 0, 1) := by decide +kernel
theorem dX1_init_31 : decode cX1_init 31 = .ok (.bipush 64, 2) := by decide +kernel
theorem dX1_init_33 : decode cX1_init 33 = .ok (.newarray .int, 2) := by decide +kernel
theorem dX1_init_35 : decode cX1_init 35 = .ok (.putfield 19, 3) := by decide +kernel
theorem dX1_init_38 : decode cX1_init 38 = .ok (.return_, 1) := by decide +kernel
theorem dX1_hasPage_0 : decode cX1_hasPage 0 = .ok (.iload_n 0, 1) := by decide +kernel
theorem dX1_hasPage_1 : decode cX1_hasPage 1 = .ok (.ifCond .lt 13, 3) := by decide +kernel
theorem dX1_hasPage_4 : decode cX1_hasPage 4 = .ok (.iload_n 0, 1) := by decide +kernel
theorem dX1_hasPage_5 : decode cX1_hasPage 5 = .ok (.bipush 64, 2) := by decide +kernel
theorem dX1_hasPage_7 : decode cX1_hasPage 7 = .ok (.if_icmp .ge 7, 3) := by decide +kernel
theorem dX1_hasPage_10 : decode cX1_hasPage 10 = .ok (.iconst 1, 1) := by decide +kernel
theorem dX1_hasPage_11 : decode cX1_hasPage 11 = .ok (.goto 4, 3) := by decide +kernel
theorem dX1_hasPage_14 : decode cX1_hasPage 14 = .ok (.iconst 0, 1) := by decide +kernel
theorem dX1_hasPage_15 : decode cX1_hasPage 15 = .ok (.ireturn, 1) := by decide +kernel
theorem dX1_hasPlace_0 : decode cX1_hasPlace 0 = .ok (.iload_n 0, 1) := by decide +kernel
theorem dX1_hasPlace_1 : decode cX1_hasPlace 1 = .ok (.ifCond .lt 23, 3) := by decide +kernel
theorem dX1_hasPlace_4 : decode cX1_hasPlace 4 = .ok (.iload_n 0, 1) := by decide +kernel
theorem dX1_hasPlace_5 : decode cX1_hasPlace 5 = .ok (.bipush 64, 2) := by decide +kernel
theorem dX1_hasPlace_7 : decode cX1_hasPlace 7 = .ok (.if_icmp .ge 17, 3) := by decide +kernel
theorem dX1_hasPlace_10 : decode cX1_hasPlace 10 = .ok (.iload_n 1, 1) := by decide +kernel
theorem dX1_hasPlace_11 : decode cX1_hasPlace 11 = .ok (.ifCond .lt 13, 3) := by decide +kernel
theorem dX1_hasPlace_14 : decode cX1_hasPlace 14 = .ok (.iload_n 1, 1) := by decide +kernel
theorem dX1_hasPlace_15 : decode cX1_hasPlace 15 = .ok (.bipush 8, 2) := by decide +kernel
theorem dX1_hasPlace_17 : decode cX1_hasPlace 17 = .ok (.if_icmp .ge 7, 3) := by decide +kernel
theorem dX1_hasPlace_20 : decode cX1_hasPlace 20 = .ok (.iconst 1, 1) := by decide +kernel
theorem dX1_hasPlace_21 : decode cX1_hasPlace 21 = .ok (.goto 4, 3) := by decide +kernel
theorem dX1_hasPlace_24 : decode cX1_hasPlace 24 = .ok (.iconst 0, 1) := by decide +kernel
theorem dX1_hasPlace_25 : decode cX1_hasPlace 25 = .ok (.ireturn, 1) := by decide +kernel
set_option maxRecDepth 20000 in
theorem ggX1_valueOf_X1_hasPlace : GoodIn wsX1_valueOf wsX1_hasPlace := goodIn_r _ [5] (by decide +kernel) (by decide +kernel)
set_option maxRecDepth 20000 in
theorem gX1_valueOf_X1_hasPlace : GoodIn wsX1_valueOf (va_wsS RX1 22 yX1_hasPlace wsX1_hasPlace) := goodIn_app (goodIn_of _ (by decide +kernel)) ggX1_valueOf_X1_hasPlace
theorem dX1_valueOf_0 : decode cX1_valueOf 0 = .ok (.iload_n 1, 1) := by decide +kernel
theorem dX1_valueOf_1 : decode cX1_valueOf 1 = .ok (.iload_n 2, 1) := by decide +kernel
theorem dX1_valueOf_2 : decode cX1_valueOf 2 = .ok (.invokestatic 22, 3) := by decide +kernel
theorem dX1_valueOf_5 : decode cX1_valueOf 5 = .ok (.ifCond .eq 17, 3) := by decide +kernel
theorem dX1_valueOf_8 : decode cX1_valueOf 8 = .ok (.aload_n 0, 1) := by decide +kernel
theorem dX1_valueOf_9 : decode cX1_valueOf 9 = .ok (.getfield 9, 3) := by decide +kernel
theorem dX1_valueOf_12 : decode cX1_valueOf 12 = .ok (.iload_n 1, 1) := by decide +kernel
theorem dX1_valueOf_13 : decode cX1_valueOf 13 = .ok (.bipush 8, 2) := by decide +kernel
theorem dX1_valueOf_15 : decode cX1_valueOf 15 = .ok (.imul, 1) := by decide +kernel
theorem dX1_valueOf_16 : decode cX1_valueOf 16 = .ok (.iload_n 2, 1) := by decide +kernel
theorem dX1_valueOf_17 : decode cX1_valueOf 17 = .ok (.iadd, 1) := by decide +kernel
theorem dX1_valueOf_18 : decode cX1_valueOf 18 = .ok (.iaload, 1) := by decide +kernel
theorem dX1_valueOf_19 : decode cX1_valueOf 19 = .ok (.goto 4, 3) := by decide +kernel
theorem dX1_valueOf_22 : decode cX1_valueOf 22 = .ok (.iconst 0, 1) := by decide +kernel
theorem dX1_valueOf_23 : decode cX1_valueOf 23 = .ok (.ireturn, 1) := by decide +kernel
set_option maxRecDepth 20000 in
theorem ggX1_markOf_X1_hasPage : GoodIn wsX1_markOf wsX1_hasPage := goodIn_r _ [5] (by decide +kernel) (by decide +kernel)
set_option maxRecDepth 20000 in
theorem gX1_markOf_X1_hasPage : GoodIn wsX1_markOf (va_wsS RX1 26 yX1_hasPage wsX1_hasPage) := goodIn_app (goodIn_of _ (by decide +kernel)) ggX1_markOf_X1_hasPage
theorem dX1_markOf_0 : decode cX1_markOf 0 = .ok (.iload_n 1, 1) := by decide +kernel
theorem dX1_markOf_1 : decode cX1_markOf 1 = .ok (.invokestatic 26, 3) := by decide +kernel
theorem dX1_markOf_4 : decode cX1_markOf 4 = .ok (.ifCond .eq 12, 3) := by decide +kernel
theorem dX1_markOf_7 : decode cX1_markOf 7 = .ok (.aload_n 0, 1) := by decide +kernel
theorem dX1_markOf_8 : decode cX1_markOf 8 = .ok (.getfield 13, 3) := by decide +kernel
theorem dX1_markOf_11 : decode cX1_markOf 11 = .ok (.iload_n 1, 1) := by decide +kernel
theorem dX1_markOf_12 : decode cX1_markOf 12 = .ok (.iaload, 1) := by decide +kernel
theorem dX1_markOf_13 : decode cX1_markOf 13 = .ok (.goto 4, 3) := by decide +kernel
theorem dX1_markOf_16 : decode cX1_markOf 16 = .ok (.iconst 0, 1) := by decide +kernel
theorem dX1_markOf_17 : decode cX1_markOf 17 = .ok (.ireturn, 1) := by decide +kernel
set_option maxRecDepth 20000 in
theorem ggX1_mediumMarkOf_X1_hasPage : GoodIn wsX1_mediumMarkOf wsX1_hasPage := goodIn_r _ [5] (by decide +kernel) (by decide +kernel)
set_option maxRecDepth 20000 in
theorem gX1_mediumMarkOf_X1_hasPage : GoodIn wsX1_mediumMarkOf (va_wsS RX1 26 yX1_hasPage wsX1_hasPage) := goodIn_app (goodIn_of _ (by decide +kernel)) ggX1_mediumMarkOf_X1_hasPage
theorem dX1_mediumMarkOf_0 : decode cX1_mediumMarkOf 0 = .ok (.iload_n 1, 1) := by decide +kernel
theorem dX1_mediumMarkOf_1 : decode cX1_mediumMarkOf 1 = .ok (.invokestatic 26, 3) := by decide +kernel
theorem dX1_mediumMarkOf_4 : decode cX1_mediumMarkOf 4 = .ok (.ifCond .eq 12, 3) := by decide +kernel
theorem dX1_mediumMarkOf_7 : decode cX1_mediumMarkOf 7 = .ok (.aload_n 0, 1) := by decide +kernel
theorem dX1_mediumMarkOf_8 : decode cX1_mediumMarkOf 8 = .ok (.getfield 19, 3) := by decide +kernel
theorem dX1_mediumMarkOf_11 : decode cX1_mediumMarkOf 11 = .ok (.iload_n 1, 1) := by decide +kernel
theorem dX1_mediumMarkOf_12 : decode cX1_mediumMarkOf 12 = .ok (.iaload, 1) := by decide +kernel
theorem dX1_mediumMarkOf_13 : decode cX1_mediumMarkOf 13 = .ok (.goto 4, 3) := by decide +kernel
theorem dX1_mediumMarkOf_16 : decode cX1_mediumMarkOf 16 = .ok (.iconst 0, 1) := by decide +kernel
theorem dX1_mediumMarkOf_17 : decode cX1_mediumMarkOf 17 = .ok (.ireturn, 1) := by decide +kernel
set_option maxRecDepth 20000 in
theorem ggX1_change_X1_hasPlace : GoodIn wsX1_change wsX1_hasPlace := goodIn_r _ [6] (by decide +kernel) (by decide +kernel)
set_option maxRecDepth 20000 in
theorem gX1_change_X1_hasPlace : GoodIn wsX1_change (va_wsS RX1 22 yX1_hasPlace wsX1_hasPlace) := goodIn_app (goodIn_of _ (by decide +kernel)) ggX1_change_X1_hasPlace
theorem dX1_change_0 : decode cX1_change 0 = .ok (.iload_n 1, 1) := by decide +kernel
theorem dX1_change_1 : decode cX1_change 1 = .ok (.iload_n 2, 1) := by decide +kernel
theorem dX1_change_2 : decode cX1_change 2 = .ok (.invokestatic 22, 3) := by decide +kernel
theorem dX1_change_5 : decode cX1_change 5 = .ok (.ifCond .eq 26, 3) := by decide +kernel
theorem dX1_change_8 : decode cX1_change 8 = .ok (.aload_n 0, 1) := by decide +kernel
theorem dX1_change_9 : decode cX1_change 9 = .ok (.getfield 9, 3) := by decide +kernel
theorem dX1_change_12 : decode cX1_change 12 = .ok (.iload_n 1, 1) := by decide +kernel
theorem dX1_change_13 : decode cX1_change 13 = .ok (.bipush 8, 2) := by decide +kernel
theorem dX1_change_15 : decode cX1_change 15 = .ok (.imul, 1) := by decide +kernel
theorem dX1_change_16 : decode cX1_change 16 = .ok (.iload_n 2, 1) := by decide +kernel
theorem dX1_change_17 : decode cX1_change 17 = .ok (.iadd, 1) := by decide +kernel
theorem dX1_change_18 : decode cX1_change 18 = .ok (.dup2, 1) := by decide +kernel
theorem dX1_change_19 : decode cX1_change 19 = .ok (.iaload, 1) := by decide +kernel
theorem dX1_change_20 : decode cX1_change 20 = .ok (.iload_n 3, 1) := by decide +kernel
theorem dX1_change_21 : decode cX1_change 21 = .ok (.iadd, 1) := by decide +kernel
theorem dX1_change_22 : decode cX1_change 22 = .ok (.iastore, 1) := by decide +kernel
theorem dX1_change_23 : decode cX1_change 23 = .ok (.aload_n 0, 1) := by decide +kernel
theorem dX1_change_24 : decode cX1_change 24 = .ok (.getfield 13, 3) := by decide +kernel
theorem dX1_change_27 : decode cX1_change 27 = .ok (.iload_n 1, 1) := by decide +kernel
theorem dX1_change_28 : decode cX1_change 28 = .ok (.iload 4, 2) := by decide +kernel
theorem dX1_change_30 : decode cX1_change 30 = .ok (.iastore, 1) := by decide +kernel
theorem dX1_change_31 : decode cX1_change 31 = .ok (.return_, 1) := by decide +kernel
set_option maxRecDepth 20000 in
theorem ggX1_copyToMedium_X1_hasPage : GoodIn wsX1_copyToMedium wsX1_hasPage := goodIn_r _ [12] (by decide +kernel) (by decide +kernel)
set_option maxRecDepth 20000 in
theorem gX1_copyToMedium_X1_hasPage : GoodIn wsX1_copyToMedium (va_wsS RX1 26 yX1_hasPage wsX1_hasPage) := goodIn_app (goodIn_of _ (by decide +kernel)) ggX1_copyToMedium_X1_hasPage
theorem dX1_copyToMedium_0 : decode cX1_copyToMedium 0 = .ok (.iload_n 1, 1) := by decide +kernel
theorem dX1_copyToMedium_1 : decode cX1_copyToMedium 1 = .ok (.invokestatic 26, 3) := by decide +kernel
theorem dX1_copyToMedium_4 : decode cX1_copyToMedium 4 = .ok (.ifCond .eq 36, 3) := by decide +kernel
theorem dX1_copyToMedium_7 : decode cX1_copyToMedium 7 = .ok (.aload_n 0, 1) := by decide +kernel
theorem dX1_copyToMedium_8 : decode cX1_copyToMedium 8 = .ok (.getfield 9, 3) := by decide +kernel
theorem dX1_copyToMedium_11 : decode cX1_copyToMedium 11 = .ok (.iload_n 1, 1) := by decide +kernel
theorem dX1_copyToMedium_12 : decode cX1_copyToMedium 12 = .ok (.bipush 8, 2) := by decide +kernel
theorem dX1_copyToMedium_14 : decode cX1_copyToMedium 14 = .ok (.imul, 1) := by decide +kernel
theorem dX1_copyToMedium_15 : decode cX1_copyToMedium 15 = .ok (.aload_n 0, 1) := by decide +kernel
theorem dX1_copyToMedium_16 : decode cX1_copyToMedium 16 = .ok (.getfield 16, 3) := by decide +kernel
theorem dX1_copyToMedium_19 : decode cX1_copyToMedium 19 = .ok (.iload_n 1, 1) := by decide +kernel
theorem dX1_copyToMedium_20 : decode cX1_copyToMedium 20 = .ok (.bipush 8, 2) := by decide +kernel
theorem dX1_copyToMedium_22 : decode cX1_copyToMedium 22 = .ok (.imul, 1) := by decide +kernel
theorem dX1_copyToMedium_23 : decode cX1_copyToMedium 23 = .ok (.bipush 8, 2) := by decide +kernel
theorem dX1_copyToMedium_25 : decode cX1_copyToMedium 25 = .ok (.invokestatic 30, 3) := by decide +kernel
theorem dX1_copyToMedium_28 : decode cX1_copyToMedium 28 = .ok (.aload_n 0, 1) := by decide +kernel
theorem dX1_copyToMedium_29 : decode cX1_copyToMedium 29 = .ok (.getfield 19, 3) := by decide +kernel
theorem dX1_copyToMedium_32 : decode cX1_copyToMedium 32 = .ok (.iload_n 1, 1) := by decide +kernel
theorem dX1_copyToMedium_33 : decode cX1_copyToMedium 33 = .ok (.aload_n 0, 1) := by decide +kernel
theorem dX1_copyToMedium_34 : decode cX1_copyToMedium 34 = .ok (.getfield 13, 3) := by decide +kernel
theorem dX1_copyToMedium_37 : decode cX1_copyToMedium 37 = .ok (.iload_n 1, 1) := by decide +kernel
theorem dX1_copyToMedium_38 : decode cX1_copyToMedium 38 = .ok (.iaload, 1) := by decide +kernel
theorem dX1_copyToMedium_39 : decode cX1_copyToMedium 39 = .ok (.iastore, 1) := by decide +kernel
theorem dX1_copyToMedium_40 : decode cX1_copyToMedium 40 = .ok (.return_, 1) := by decide +kernel
theorem dX1_readAllFromMedium_0 : decode cX1_readAllFromMedium 0 = .ok (.aload_n 0, 1) := by decide +kernel
theorem dX1_readAllFromMedium_1 : decode cX1_readAllFromMedium 1 = .ok (.getfield 16, 3) := by decide +kernel
theorem dX1_readAllFromMedium_4 : decode cX1_readAllFromMedium 4 = .ok (.iconst 0, 1) := by decide +kernel
theorem dX1_readAllFromMedium_5 : decode cX1_readAllFromMedium 5 = .ok (.aload_n 0, 1) := by decide +kernel
theorem dX1_readAllFromMedium_6 : decode cX1_readAllFromMedium 6 = .ok (.getfield 9, 3) := by decide +kernel
theorem dX1_readAllFromMedium_9 : decode cX1_readAllFromMedium 9 = .ok (.iconst 0, 1) := by decide +kernel
theorem dX1_readAllFromMedium_10 : decode cX1_readAllFromMedium 10 = .ok (.sipush 512, 3) := by decide +kernel
theorem dX1_readAllFromMedium_13 : decode cX1_readAllFromMedium 13 = .ok (.invokestatic 30, 3) := by decide +kernel
theorem dX1_readAllFromMedium_16 : decode cX1_readAllFromMedium 16 = .ok (.aload_n 0, 1) := by decide +kernel
theorem dX1_readAllFromMedium_17 : decode cX1_readAllFromMedium 17 = .ok (.getfield 19, 3) := by decide +kernel
theorem dX1_readAllFromMedium_20 : decode cX1_readAllFromMedium 20 = .ok (.iconst 0, 1) := by decide +kernel
theorem dX1_readAllFromMedium_21 : decode cX1_readAllFromMedium 21 = .ok (.aload_n 0, 1) := by decide +kernel
theorem dX1_readAllFromMedium_22 : decode cX1_readAllFromMedium 22 = .ok (.getfield 13, 3) := by decide +kernel
theorem dX1_readAllFromMedium_25 : decode cX1_readAllFromMedium 25 = .ok (.iconst 0, 1) := by decide +kernel
theorem dX1_readAllFromMedium_26 : decode cX1_readAllFromMedium 26 = .ok (.bipush 64, 2) := by decide +kernel
theorem dX1_readAllFromMedium_28 : decode cX1_readAllFromMedium 28 = .ok (.invokestatic 30, 3) := by decide +kernel
theorem dX1_readAllFromMedium_31 : decode cX1_readAllFromMedium 31 = .ok (.return_, 1) := by decide +kernel
