set_option maxRecDepth 20000 in
theorem ggX3_init_X0_init : GoodIn wsX3_init wsX0_init := goodIn_r _ [27, 28, 2, 3, 29, 30, 31, 32, 33, 50, 51, 52, 53] (by decide +kernel) (by decide +kernel)
set_option maxRecDepth 20000 in
theorem gX3_init_X0_init_n9 : GoodIn wsX3_init (wsX0_init) := ggX3_init_X0_init
set_option maxRecDepth 20000 in
theorem ggX3_init_X1_init : GoodIn wsX3_init wsX1_init := goodIn_r _ [35, 36, 2, 3, 29, 37, 38, 39, 40, 67, 68, 69, 70] (by decide +kernel) (by decide +kernel)
set_option maxRecDepth 20000 in
theorem gX3_init_X1_init_n18 : GoodIn wsX3_init (wsX1_init) := ggX3_init_X1_init
set_option maxRecDepth 20000 in
theorem ggX3_init_X2_init : GoodIn wsX3_init wsX2_init := goodIn_r _ [42, 43, 2, 3, 44, 29, 45, 46, 47, 48, 49, 71, 72, 73, 74, 75, 76] (by decide +kernel) (by decide +kernel)
set_option maxRecDepth 20000 in
theorem gX3_init_X2_init_n25 : GoodIn wsX3_init (wsX2_init) := ggX3_init_X2_init
theorem dX3_init_0 : decode cX3_init 0 = .ok (.aload_n 0, 1) := by decide +kernel
theorem dX3_init_1 : decode cX3_init 1 = .ok (.invokespecial 1, 3) := by decide +kernel
theorem dX3_init_4 : decode cX3_init 4 = .ok (.aload_n 0, 1) := by decide +kernel
theorem dX3_init_5 : decode cX3_init 5 = .ok (.new 7, 3) := by decide +kernel
theorem dX3_init_8 : decode cX3_init 8 = .ok (.dup, 1) := by decide +kernel
theorem dX3_init_9 : decode cX3_init 9 = .ok (.invokespecial 9, 3) := by decide +kernel
theorem dX3_init_12 : decode cX3_init 12 = .ok (.putfield 10, 3) := by decide +kernel
theorem dX3_init_15 : decode cX3_init 15 = .ok (.aload_n 0, 1) := by decide +kernel
theorem dX3_init_16 : decode cX3_init 16 = .ok (.new 16, 3) := by decide +kernel
theorem dX3_init_19 : decode cX3_init 19 = .ok (.dup, 1) := by decide +kernel
theorem dX3_init_20 : decode cX3_init 20 = .ok (.invokespecial 18, 3) := by decide +kernel
theorem dX3_init_23 : decode cX3_init 23 = .ok (.putfield 19, 3) := by decide +kernel
theorem dX3_init_26 : decode cX3_init 26 = .ok (.aload_n 0, 1) := by decide +kernel
theorem dX3_init_27 : decode cX3_init 27 = .ok (.new 23, 3) := by decide +kernel
theorem dX3_init_30 : decode cX3_init 30 = .ok (.dup, 1) := by decide +kernel
theorem dX3_init_31 : decode cX3_init 31 = .ok (.invokespecial 25, 3) := by decide +kernel
theorem dX3_init_34 : decode cX3_init 34 = .ok (.putfield 26, 3) := by decide +kernel
theorem dX3_init_37 : decode cX3_init 37 = .ok (.aload_n 0, 1) := by decide +kernel
theorem dX3_init_38 : decode cX3_init 38 = .ok (.new 23, 3) := by decide +kernel
theorem dX3_init_41 : decode cX3_init 41 = .ok (.dup, 1) := by decide +kernel
theorem dX3_init_42 : decode cX3_init 42 = .ok (.invokespecial 25, 3) := by decide +kernel
theorem dX3_init_45 : decode cX3_init 45 = .ok (.putfield 30, 3) := by decide +kernel
theorem dX3_init_48 : decode cX3_init 48 = .ok (.aload_n 0, 1) := by decide +kernel
theorem dX3_init_49 : decode cX3_init 49 = .ok (.iconst 0, 1) := by decide +kernel
theorem dX3_init_50 : decode cX3_init 50 = .ok (.putfield 33, 3) := by decide +kernel
theorem dX3_init_53 : decode cX3_init 53 = .ok (.aload_n 0, 1) := by decide +kernel
theorem dX3_init_54 : decode cX3_init 54 = .ok (.iconst 0, 1) := by decide +kernel
theorem dX3_init_55 : decode cX3_init 55 = .ok (.putfield 37, 3) := by decide +kernel
theorem dX3_init_58 : decode cX3_init 58 = .ok (.aload_n 0, 1) := by decide +kernel
theorem dX3_init_59 : decode cX3_init 59 = .ok (.iconst 0, 1) := by decide +kernel
theorem dX3_init_60 : decode cX3_init 60 = .ok (.putfield 40, 3) := by decide +kernel
theorem dX3_init_63 : decode cX3_init 63 = .ok (.aload_n 0, 1) := by decide +kernel
theorem dX3_init_64 : decode cX3_init 64 = .ok (.iconst 0, 1) := by decide +kernel
theorem dX3_init_65 : decode cX3_init 65 = .ok (.putfield 43, 3) := by decide +kernel
theorem dX3_init_68 : decode cX3_init 68 = .ok (.aload_n 0, 1) := by decide +kernel
theorem dX3_init_69 : decode cX3_init 69 = .ok (.iconst 0, 1) := by decide +kernel
theorem dX3_init_70 : decode cX3_init 70 = .ok (.putfield 46, 3) := by decide +kernel
theorem dX3_init_73 : decode cX3_init 73 = .ok (.aload_n 0, 1) := by decide +kernel
theorem dX3_init_74 : decode cX3_init 74 = .ok (.iconst 0, 1) := by decide +kernel
theorem dX3_init_75 : decode cX3_init 75 = .ok (.putfield 49, 3) := by decide +kernel
theorem dX3_init_78 : decode cX3_init 78 = .ok (.aload_n 0, 1) := by decide +kernel
theorem dX3_init_79 : decode cX3_init 79 = .ok (.iconst 0, 1) := by decide +kernel
theorem dX3_init_80 : decode cX3_init 80 = .ok (.putfield 52, 3) := by decide +kernel
theorem dX3_init_83 : decode cX3_init 83 = .ok (.aload_n 0, 1) := by decide +kernel
theorem dX3_init_84 : decode cX3_init 84 = .ok (.iconst 0, 1) := by decide +kernel
theorem dX3_init_85 : decode cX3_init 85 = .ok (.putfield 55, 3) := by decide +kernel
theorem dX3_init_88 : decode cX3_init 88 = .ok (.aload_n 0, 1) := by decide +kernel
theorem dX3_init_89 : decode cX3_init 89 = .ok (.iconst 0, 1) := by decide +kernel
theorem dX3_init_90 : decode cX3_init 90 = .ok (.putfield 58, 3) := by decide +kernel
theorem dX3_init_93 : decode cX3_init 93 = .ok (.return_, 1) := by decide +kernel
set_option maxRecDepth 20000 in
theorem ggX3_begin_X2_isFull : GoodIn wsX3_begin wsX2_isFull := goodIn_r _ [8, 9, 40, 41, 42, 43, 44, 45] (by decide +kernel) (by decide +kernel)
set_option maxRecDepth 20000 in
theorem gX3_begin_X2_isFull : GoodIn wsX3_begin (wsV RX3 61 RX2 yX2_isFull wsX2_isFull) := goodIn_app (goodIn_of _ (by decide +kernel)) ggX3_begin_X2_isFull
set_option maxRecDepth 20000 in
theorem ggX3_begin_X2_bringIn : GoodIn wsX3_begin wsX2_bringIn := goodIn_r _ [13, 9, 14, 15, 16, 17, 18, 5, 6, 7, 8, 19, 20, 21, 22, 23, 24, 25, 26, 40, 41, 42, 43, 44, 45] (by decide +kernel) (by decide +kernel)
set_option maxRecDepth 20000 in
theorem gX3_begin_X2_bringIn : GoodIn wsX3_begin (wsV RX3 65 RX2 yX2_bringIn wsX2_bringIn) := goodIn_app (goodIn_of _ (by decide +kernel)) ggX3_begin_X2_bringIn
theorem dX3_begin_0 : decode cX3_begin 0 = .ok (.aload_n 0, 1) := by decide +kernel
theorem dX3_begin_1 : decode cX3_begin 1 = .ok (.getfield 43, 3) := by decide +kernel
theorem dX3_begin_4 : decode cX3_begin 4 = .ok (.ifCond .eq 6, 3) := by decide +kernel
theorem dX3_begin_7 : decode cX3_begin 7 = .ok (.bipush (-105), 2) := by decide +kernel
theorem dX3_begin_9 : decode cX3_begin 9 = .ok (.ireturn, 1) := by decide +kernel
theorem dX3_begin_10 : decode cX3_begin 10 = .ok (.aload_n 0, 1) := by decide +kernel
theorem dX3_begin_11 : decode cX3_begin 11 = .ok (.getfield 40, 3) := by decide +kernel
theorem dX3_begin_14 : decode cX3_begin 14 = .ok (.sipush 200, 3) := by decide +kernel
theorem dX3_begin_17 : decode cX3_begin 17 = .ok (.if_icmp .ge 13, 3) := by decide +kernel
theorem dX3_begin_20 : decode cX3_begin 20 = .ok (.aload_n 0, 1) := by decide +kernel
theorem dX3_begin_21 : decode cX3_begin 21 = .ok (.getfield 26, 3) := by decide +kernel
theorem dX3_begin_24 : decode cX3_begin 24 = .ok (.invokevirtual 61, 3) := by decide +kernel
theorem dX3_begin_27 : decode cX3_begin 27 = .ok (.ifCond .eq 6, 3) := by decide +kernel
theorem dX3_begin_30 : decode cX3_begin 30 = .ok (.bipush (-104), 2) := by decide +kernel
theorem dX3_begin_32 : decode cX3_begin 32 = .ok (.ireturn, 1) := by decide +kernel
theorem dX3_begin_33 : decode cX3_begin 33 = .ok (.aload_n 0, 1) := by decide +kernel
theorem dX3_begin_34 : decode cX3_begin 34 = .ok (.dup, 1) := by decide +kernel
theorem dX3_begin_35 : decode cX3_begin 35 = .ok (.getfield 40, 3) := by decide +kernel
theorem dX3_begin_38 : decode cX3_begin 38 = .ok (.iconst 1, 1) := by decide +kernel
theorem dX3_begin_39 : decode cX3_begin 39 = .ok (.iadd, 1) := by decide +kernel
theorem dX3_begin_40 : decode cX3_begin 40 = .ok (.putfield 40, 3) := by decide +kernel
theorem dX3_begin_43 : decode cX3_begin 43 = .ok (.aload_n 0, 1) := by decide +kernel
theorem dX3_begin_44 : decode cX3_begin 44 = .ok (.getfield 26, 3) := by decide +kernel
theorem dX3_begin_47 : decode cX3_begin 47 = .ok (.aload_n 0, 1) := by decide +kernel
theorem dX3_begin_48 : decode cX3_begin 48 = .ok (.getfield 40, 3) := by decide +kernel
theorem dX3_begin_51 : decode cX3_begin 51 = .ok (.invokevirtual 65, 3) := by decide +kernel
theorem dX3_begin_54 : decode cX3_begin 54 = .ok (.aload_n 0, 1) := by decide +kernel
theorem dX3_begin_55 : decode cX3_begin 55 = .ok (.getfield 40, 3) := by decide +kernel
theorem dX3_begin_58 : decode cX3_begin 58 = .ok (.ireturn, 1) := by decide +kernel
set_option maxRecDepth 20000 in
theorem ggX3_add_X3_refusalFor : GoodIn wsX3_add wsX3_refusalFor := goodIn_r _ [7, 8, 1, 9, 10, 11, 12, 13, 14, 15, 16, 17, 18, 19, 126, 127, 128, 129, 130, 131, 132, 133, 134, 135, 136, 137, 138, 139, 140, 141, 142, 143, 144] (by decide +kernel) (by decide +kernel)
set_option maxRecDepth 20000 in
theorem gX3_add_X3_refusalFor : GoodIn wsX3_add (wsV RX3 69 RX3 yX3_refusalFor wsX3_refusalFor) := goodIn_app (goodIn_of _ (by decide +kernel)) ggX3_add_X3_refusalFor
set_option maxRecDepth 20000 in
theorem ggX3_add_X1_hasPlace : GoodIn wsX3_add wsX1_hasPlace := goodIn_r _ [23] (by decide +kernel) (by decide +kernel)
set_option maxRecDepth 20000 in
theorem gX3_add_X1_hasPlace : GoodIn wsX3_add (va_wsS RX3 73 yX1_hasPlace wsX1_hasPlace) := goodIn_app (goodIn_of _ (by decide +kernel)) ggX3_add_X1_hasPlace
set_option maxRecDepth 20000 in
theorem ggX3_add_X2_stateOf : GoodIn wsX3_add wsX2_stateOf := goodIn_r _ [27, 28, 14, 15, 16, 12, 17, 18, 19, 139, 140, 141, 142, 143, 144] (by decide +kernel) (by decide +kernel)
set_option maxRecDepth 20000 in
theorem gX3_add_X2_stateOf : GoodIn wsX3_add (wsV RX3 77 RX2 yX2_stateOf wsX2_stateOf) := goodIn_app (goodIn_of _ (by decide +kernel)) ggX3_add_X2_stateOf
set_option maxRecDepth 20000 in
theorem ggX3_add_X0_changesHeld : GoodIn wsX3_add wsX0_changesHeld := goodIn_r _ [33, 34, 145, 146, 147, 148] (by decide +kernel) (by decide +kernel)
set_option maxRecDepth 20000 in
theorem gX3_add_X0_changesHeld : GoodIn wsX3_add (wsV RX3 80 RX0 yX0_changesHeld wsX0_changesHeld) := goodIn_app (goodIn_of _ (by decide +kernel)) ggX3_add_X0_changesHeld
set_option maxRecDepth 20000 in
theorem ggX3_add_X2_lastOf : GoodIn wsX3_add wsX2_lastOf := goodIn_r _ [38, 39, 14, 15, 16, 12, 17, 18, 19, 139, 140, 141, 142, 143, 144] (by decide +kernel) (by decide +kernel)
set_option maxRecDepth 20000 in
theorem gX3_add_X2_lastOf : GoodIn wsX3_add (wsV RX3 84 RX2 yX2_lastOf wsX2_lastOf) := goodIn_app (goodIn_of _ (by decide +kernel)) ggX3_add_X2_lastOf
set_option maxRecDepth 20000 in
theorem ggX3_add_X0_append : GoodIn wsX3_add wsX0_append := goodIn_r _ [43, 44, 45, 34, 46, 47, 48, 49, 50, 51, 52, 53, 54, 55, 56, 57, 58, 59, 60, 61, 62, 63, 64, 145, 146, 147, 148] (by decide +kernel) (by decide +kernel)
set_option maxRecDepth 20000 in
theorem gX3_add_X0_append : GoodIn wsX3_add (wsV RX3 87 RX0 yX0_append wsX0_append) := goodIn_app (goodIn_of _ (by decide +kernel)) ggX3_add_X0_append
set_option maxRecDepth 20000 in
theorem ggX3_add_X3_takeIntoTables : GoodIn wsX3_add wsX3_takeIntoTables := goodIn_r _ [68, 2, 1, 69, 70, 71, 32, 72, 45, 73, 74, 75, 76, 44, 77, 78, 79, 12, 80, 18, 19, 28, 39, 81, 82, 83, 84, 85, 14, 15, 16, 17, 86, 87, 88, 89, 90, 91, 92, 93, 94, 95, 96, 97, 98, 99, 100, 101, 102, 103, 104, 22, 105, 106, 107, 108, 109, 110, 111, 112, 113, 126, 127, 128, 129, 130, 131, 132, 133, 134, 135, 136, 137, 138, 145, 146, 147, 148, 139, 140, 141, 142, 143, 144] (by decide +kernel) (by decide +kernel)
set_option maxRecDepth 20000 in
theorem gX3_add_X3_takeIntoTables : GoodIn wsX3_add (wsV RX3 91 RX3 yX3_takeIntoTables wsX3_takeIntoTables) := goodIn_app (goodIn_of _ (by decide +kernel)) ggX3_add_X3_takeIntoTables
set_option maxRecDepth 20000 in
theorem ggX3_add_X3_carryOut : GoodIn wsX3_add wsX3_carryOut := goodIn_r _ [117, 118, 2, 69, 70, 71, 32, 72, 45, 73, 74, 75, 76, 44, 119, 120, 121, 22, 122, 123, 124, 125, 21, 23, 126, 127, 128, 129, 130, 131, 132, 133, 134, 135, 136, 137, 138, 145, 146, 147, 148, 149, 150, 151, 152] (by decide +kernel) (by decide +kernel)
set_option maxRecDepth 20000 in
theorem gX3_add_X3_carryOut : GoodIn wsX3_add (wsV RX3 94 RX3 yX3_carryOut wsX3_carryOut) := goodIn_app (goodIn_of _ (by decide +kernel)) ggX3_add_X3_carryOut
theorem dX3_add_0 : decode cX3_add 0 = .ok (.aload_n 0, 1) := by decide +kernel
theorem dX3_add_1 : decode cX3_add 1 = .ok (.iload_n 1, 1) := by decide +kernel
theorem dX3_add_2 : decode cX3_add 2 = .ok (.invokevirtual 69, 3) := by decide +kernel
theorem dX3_add_5 : decode cX3_add 5 = .ok (.istore 5, 2) := by decide +kernel
theorem dX3_add_7 : decode cX3_add 7 = .ok (.iload 5, 2) := by decide +kernel
theorem dX3_add_9 : decode cX3_add 9 = .ok (.ifCond .eq 6, 3) := by decide +kernel
theorem dX3_add_12 : decode cX3_add 12 = .ok (.iload 5, 2) := by decide +kernel
theorem dX3_add_14 : decode cX3_add 14 = .ok (.ireturn, 1) := by decide +kernel
theorem dX3_add_15 : decode cX3_add 15 = .ok (.iload_n 2, 1) := by decide +kernel
theorem dX3_add_16 : decode cX3_add 16 = .ok (.iload_n 3, 1) := by decide +kernel
theorem dX3_add_17 : decode cX3_add 17 = .ok (.invokestatic 73, 3) := by decide +kernel
theorem dX3_add_20 : decode cX3_add 20 = .ok (.ifCond .ne 6, 3) := by decide +kernel
theorem dX3_add_23 : decode cX3_add 23 = .ok (.bipush (-102), 2) := by decide +kernel
theorem dX3_add_25 : decode cX3_add 25 = .ok (.ireturn, 1) := by decide +kernel
theorem dX3_add_26 : decode cX3_add 26 = .ok (.aload_n 0, 1) := by decide +kernel
theorem dX3_add_27 : decode cX3_add 27 = .ok (.getfield 26, 3) := by decide +kernel
theorem dX3_add_30 : decode cX3_add 30 = .ok (.iload_n 1, 1) := by decide +kernel
theorem dX3_add_31 : decode cX3_add 31 = .ok (.invokevirtual 77, 3) := by decide +kernel
theorem dX3_add_34 : decode cX3_add 34 = .ok (.iconst 1, 1) := by decide +kernel
theorem dX3_add_35 : decode cX3_add 35 = .ok (.if_icmp .eq 6, 3) := by decide +kernel
theorem dX3_add_38 : decode cX3_add 38 = .ok (.bipush (-103), 2) := by decide +kernel
theorem dX3_add_40 : decode cX3_add 40 = .ok (.ireturn, 1) := by decide +kernel
theorem dX3_add_41 : decode cX3_add 41 = .ok (.aload_n 0, 1) := by decide +kernel
theorem dX3_add_42 : decode cX3_add 42 = .ok (.getfield 10, 3) := by decide +kernel
theorem dX3_add_45 : decode cX3_add 45 = .ok (.invokevirtual 80, 3) := by decide +kernel
theorem dX3_add_48 : decode cX3_add 48 = .ok (.sipush 2000, 3) := by decide +kernel
theorem dX3_add_51 : decode cX3_add 51 = .ok (.if_icmp .lt 6, 3) := by decide +kernel
theorem dX3_add_54 : decode cX3_add 54 = .ok (.bipush (-104), 2) := by decide +kernel
theorem dX3_add_56 : decode cX3_add 56 = .ok (.ireturn, 1) := by decide +kernel
theorem dX3_add_57 : decode cX3_add 57 = .ok (.aload_n 0, 1) := by decide +kernel
theorem dX3_add_58 : decode cX3_add 58 = .ok (.getfield 10, 3) := by decide +kernel
theorem dX3_add_61 : decode cX3_add 61 = .ok (.iconst 1, 1) := by decide +kernel
theorem dX3_add_62 : decode cX3_add 62 = .ok (.iload_n 1, 1) := by decide +kernel
theorem dX3_add_63 : decode cX3_add 63 = .ok (.aload_n 0, 1) := by decide +kernel
theorem dX3_add_64 : decode cX3_add 64 = .ok (.getfield 26, 3) := by decide +kernel
theorem dX3_add_67 : decode cX3_add 67 = .ok (.iload_n 1, 1) := by decide +kernel
theorem dX3_add_68 : decode cX3_add 68 = .ok (.invokevirtual 84, 3) := by decide +kernel
theorem dX3_add_71 : decode cX3_add 71 = .ok (.iload_n 2, 1) := by decide +kernel
theorem dX3_add_72 : decode cX3_add 72 = .ok (.iload_n 3, 1) := by decide +kernel
theorem dX3_add_73 : decode cX3_add 73 = .ok (.iload 4, 2) := by decide +kernel
theorem dX3_add_75 : decode cX3_add 75 = .ok (.iconst 0, 1) := by decide +kernel
theorem dX3_add_76 : decode cX3_add 76 = .ok (.invokevirtual 87, 3) := by decide +kernel
theorem dX3_add_79 : decode cX3_add 79 = .ok (.istore 6, 2) := by decide +kernel
theorem dX3_add_81 : decode cX3_add 81 = .ok (.aload_n 0, 1) := by decide +kernel
theorem dX3_add_82 : decode cX3_add 82 = .ok (.iload 6, 2) := by decide +kernel
theorem dX3_add_84 : decode cX3_add 84 = .ok (.invokevirtual 91, 3) := by decide +kernel
theorem dX3_add_87 : decode cX3_add 87 = .ok (.aload_n 0, 1) := by decide +kernel
theorem dX3_add_88 : decode cX3_add 88 = .ok (.iload 6, 2) := by decide +kernel
theorem dX3_add_90 : decode cX3_add 90 = .ok (.invokevirtual 94, 3) := by decide +kernel
theorem dX3_add_93 : decode cX3_add 93 = .ok (.iload 6, 2) := by decide +kernel
theorem dX3_add_95 : decode cX3_add 95 = .ok (.ireturn, 1) := by decide +kernel
set_option maxRecDepth 20000 in
theorem ggX3_back_X3_refusalFor : GoodIn wsX3_back wsX3_refusalFor := goodIn_r _ [6, 7, 1, 8, 9, 10, 11, 12, 13, 14, 15, 16, 17, 18, 142, 143, 144, 145, 146, 147, 148, 149, 150, 151, 152, 153, 154, 155, 156, 157, 158, 159, 160] (by decide +kernel) (by decide +kernel)
set_option maxRecDepth 20000 in
theorem gX3_back_X3_refusalFor : GoodIn wsX3_back (wsV RX3 69 RX3 yX3_refusalFor wsX3_refusalFor) := goodIn_app (goodIn_of _ (by decide +kernel)) ggX3_back_X3_refusalFor
set_option maxRecDepth 20000 in
theorem ggX3_back_X2_lastOf : GoodIn wsX3_back wsX2_lastOf := goodIn_r _ [22, 23, 13, 14, 15, 11, 16, 17, 18, 155, 156, 157, 158, 159, 160] (by decide +kernel) (by decide +kernel)
set_option maxRecDepth 20000 in
theorem gX3_back_X2_lastOf : GoodIn wsX3_back (wsV RX3 84 RX2 yX2_lastOf wsX2_lastOf) := goodIn_app (goodIn_of _ (by decide +kernel)) ggX3_back_X2_lastOf
set_option maxRecDepth 20000 in
theorem ggX3_back_X2_stateOf : GoodIn wsX3_back wsX2_stateOf := goodIn_r _ [27, 28, 13, 14, 15, 11, 16, 17, 18, 155, 156, 157, 158, 159, 160] (by decide +kernel) (by decide +kernel)
set_option maxRecDepth 20000 in
theorem gX3_back_X2_stateOf : GoodIn wsX3_back (wsV RX3 77 RX2 yX2_stateOf wsX2_stateOf) := goodIn_app (goodIn_of _ (by decide +kernel)) ggX3_back_X2_stateOf
set_option maxRecDepth 20000 in
theorem ggX3_back_X3_undoDownTo : GoodIn wsX3_back wsX3_undoDownTo := goodIn_r _ [32, 33, 1, 34, 35, 36, 37, 38, 39, 40, 41, 42, 11, 43, 44, 13, 14, 15, 16, 17, 18, 45, 46, 47, 5, 48, 19, 20, 21, 22, 23, 49, 50, 51, 52, 53, 54, 55, 56, 57, 58, 59, 60, 61, 62, 63, 64, 65, 66, 67, 68, 69, 70, 71, 72, 73, 74, 75, 76, 77, 78, 79, 80, 81, 82, 83, 84, 85, 86, 87, 88, 89, 90, 91, 92, 93, 94, 28, 95, 96, 97, 98, 99, 100, 101, 102, 103, 104, 105, 106, 107, 108, 109, 110, 111, 112, 113, 114, 115, 116, 117, 118, 119, 120, 121, 122, 123, 124, 125, 126, 127, 128, 129, 130, 131, 132, 133, 134, 135, 136, 137, 138, 139, 140, 141, 142, 143, 144, 145, 146, 147, 148, 149, 150, 151, 152, 153, 154, 161, 162, 163, 164, 155, 156, 157, 158, 159, 160, 165, 166, 167, 168] (by decide +kernel) (by decide +kernel)
set_option maxRecDepth 20000 in
theorem gX3_back_X3_undoDownTo : GoodIn wsX3_back (wsV RX3 97 RX3 yX3_undoDownTo wsX3_undoDownTo) := goodIn_app (goodIn_of _ (by decide +kernel)) ggX3_back_X3_undoDownTo
theorem dX3_back_0 : decode cX3_back 0 = .ok (.aload_n 0, 1) := by decide +kernel
theorem dX3_back_1 : decode cX3_back 1 = .ok (.iload_n 1, 1) := by decide +kernel
theorem dX3_back_2 : decode cX3_back 2 = .ok (.invokevirtual 69, 3) := by decide +kernel
theorem dX3_back_5 : decode cX3_back 5 = .ok (.istore_n 3, 1) := by decide +kernel
theorem dX3_back_6 : decode cX3_back 6 = .ok (.iload_n 3, 1) := by decide +kernel
theorem dX3_back_7 : decode cX3_back 7 = .ok (.ifCond .eq 5, 3) := by decide +kernel
theorem dX3_back_10 : decode cX3_back 10 = .ok (.iload_n 3, 1) := by decide +kernel
theorem dX3_back_11 : decode cX3_back 11 = .ok (.ireturn, 1) := by decide +kernel
theorem dX3_back_12 : decode cX3_back 12 = .ok (.iload_n 2, 1) := by decide +kernel
theorem dX3_back_13 : decode cX3_back 13 = .ok (.ifCond .lt 15, 3) := by decide +kernel
theorem dX3_back_16 : decode cX3_back 16 = .ok (.iload_n 2, 1) := by decide +kernel
theorem dX3_back_17 : decode cX3_back 17 = .ok (.aload_n 0, 1) := by decide +kernel
theorem dX3_back_18 : decode cX3_back 18 = .ok (.getfield 26, 3) := by decide +kernel
theorem dX3_back_21 : decode cX3_back 21 = .ok (.iload_n 1, 1) := by decide +kernel
theorem dX3_back_22 : decode cX3_back 22 = .ok (.invokevirtual 84, 3) := by decide +kernel
theorem dX3_back_25 : decode cX3_back 25 = .ok (.if_icmp .le 6, 3) := by decide +kernel
theorem dX3_back_28 : decode cX3_back 28 = .ok (.bipush (-102), 2) := by decide +kernel
theorem dX3_back_30 : decode cX3_back 30 = .ok (.ireturn, 1) := by decide +kernel
theorem dX3_back_31 : decode cX3_back 31 = .ok (.aload_n 0, 1) := by decide +kernel
theorem dX3_back_32 : decode cX3_back 32 = .ok (.getfield 26, 3) := by decide +kernel
theorem dX3_back_35 : decode cX3_back 35 = .ok (.iload_n 1, 1) := by decide +kernel
theorem dX3_back_36 : decode cX3_back 36 = .ok (.invokevirtual 77, 3) := by decide +kernel
theorem dX3_back_39 : decode cX3_back 39 = .ok (.iconst 1, 1) := by decide +kernel
theorem dX3_back_40 : decode cX3_back 40 = .ok (.if_icmp .eq 6, 3) := by decide +kernel
theorem dX3_back_43 : decode cX3_back 43 = .ok (.bipush (-103), 2) := by decide +kernel
theorem dX3_back_45 : decode cX3_back 45 = .ok (.ireturn, 1) := by decide +kernel
theorem dX3_back_46 : decode cX3_back 46 = .ok (.aload_n 0, 1) := by decide +kernel
theorem dX3_back_47 : decode cX3_back 47 = .ok (.iload_n 1, 1) := by decide +kernel
theorem dX3_back_48 : decode cX3_back 48 = .ok (.iload_n 2, 1) := by decide +kernel
theorem dX3_back_49 : decode cX3_back 49 = .ok (.invokevirtual 97, 3) := by decide +kernel
theorem dX3_back_52 : decode cX3_back 52 = .ok (.ireturn, 1) := by decide +kernel
set_option maxRecDepth 20000 in
theorem ggX3_prepare_X3_refusalFor : GoodIn wsX3_prepare wsX3_refusalFor := goodIn_r _ [7, 8, 1, 9, 10, 11, 12, 13, 14, 15, 16, 17, 18, 19, 120, 121, 122, 123, 124, 125, 126, 127, 128, 129, 130, 131, 132, 133, 134, 135, 136, 137, 138] (by decide +kernel) (by decide +kernel)
set_option maxRecDepth 20000 in
theorem gX3_prepare_X3_refusalFor : GoodIn wsX3_prepare (wsV RX3 69 RX3 yX3_refusalFor wsX3_refusalFor) := goodIn_app (goodIn_of _ (by decide +kernel)) ggX3_prepare_X3_refusalFor
set_option maxRecDepth 20000 in
theorem ggX3_prepare_X2_stateOf : GoodIn wsX3_prepare wsX2_stateOf := goodIn_r _ [23, 24, 14, 15, 16, 12, 17, 18, 19, 133, 134, 135, 136, 137, 138] (by decide +kernel) (by decide +kernel)
set_option maxRecDepth 20000 in
theorem gX3_prepare_X2_stateOf : GoodIn wsX3_prepare (wsV RX3 77 RX2 yX2_stateOf wsX2_stateOf) := goodIn_app (goodIn_of _ (by decide +kernel)) ggX3_prepare_X2_stateOf
set_option maxRecDepth 20000 in
theorem ggX3_prepare_X3_appendOfWork : GoodIn wsX3_prepare wsX3_appendOfWork := goodIn_r _ [28, 2, 1, 29, 30, 31, 12, 32, 33, 14, 15, 16, 17, 18, 19, 34, 35, 36, 37, 38, 39, 40, 41, 42, 43, 44, 45, 46, 47, 48, 49, 50, 51, 52, 53, 54, 55, 56, 57, 58, 59, 60, 61, 62, 63, 6, 64, 65, 66, 67, 68, 69, 70, 71, 72, 73, 74, 75, 76, 24, 77, 78, 79, 80, 81, 82, 83, 84, 85, 86, 87, 88, 89, 90, 91, 92, 93, 94, 95, 96, 97, 98, 99, 100, 101, 102, 103, 104, 105, 106, 107, 108, 109, 110, 120, 121, 122, 123, 124, 125, 126, 127, 128, 129, 130, 131, 132, 133, 134, 135, 136, 137, 138, 139, 140, 141, 142] (by decide +kernel) (by decide +kernel)
set_option maxRecDepth 20000 in
theorem gX3_prepare_X3_appendOfWork : GoodIn wsX3_prepare (wsV RX3 101 RX3 yX3_appendOfWork wsX3_appendOfWork) := goodIn_app (goodIn_of _ (by decide +kernel)) ggX3_prepare_X3_appendOfWork
set_option maxRecDepth 20000 in
theorem ggX3_prepare_X0_forceUpTo : GoodIn wsX3_prepare wsX0_forceUpTo := goodIn_r _ [114, 115, 39, 116, 54, 55, 56, 117, 118, 119, 139, 140, 141, 142] (by decide +kernel) (by decide +kernel)
set_option maxRecDepth 20000 in
theorem gX3_prepare_X0_forceUpTo : GoodIn wsX3_prepare (wsV RX3 104 RX0 yX0_forceUpTo wsX0_forceUpTo) := goodIn_app (goodIn_of _ (by decide +kernel)) ggX3_prepare_X0_forceUpTo
theorem dX3_prepare_0 : decode cX3_prepare 0 = .ok (.aload_n 0, 1) := by decide +kernel
theorem dX3_prepare_1 : decode cX3_prepare 1 = .ok (.iload_n 1, 1) := by decide +kernel
theorem dX3_prepare_2 : decode cX3_prepare 2 = .ok (.invokevirtual 69, 3) := by decide +kernel
theorem dX3_prepare_5 : decode cX3_prepare 5 = .ok (.istore_n 2, 1) := by decide +kernel
theorem dX3_prepare_6 : decode cX3_prepare 6 = .ok (.iload_n 2, 1) := by decide +kernel
theorem dX3_prepare_7 : decode cX3_prepare 7 = .ok (.ifCond .eq 5, 3) := by decide +kernel
theorem dX3_prepare_10 : decode cX3_prepare 10 = .ok (.iload_n 2, 1) := by decide +kernel
theorem dX3_prepare_11 : decode cX3_prepare 11 = .ok (.ireturn, 1) := by decide +kernel
theorem dX3_prepare_12 : decode cX3_prepare 12 = .ok (.aload_n 0, 1) := by decide +kernel
theorem dX3_prepare_13 : decode cX3_prepare 13 = .ok (.getfield 26, 3) := by decide +kernel
theorem dX3_prepare_16 : decode cX3_prepare 16 = .ok (.iload_n 1, 1) := by decide +kernel
theorem dX3_prepare_17 : decode cX3_prepare 17 = .ok (.invokevirtual 77, 3) := by decide +kernel
theorem dX3_prepare_20 : decode cX3_prepare 20 = .ok (.iconst 1, 1) := by decide +kernel
theorem dX3_prepare_21 : decode cX3_prepare 21 = .ok (.if_icmp .eq 6, 3) := by decide +kernel
theorem dX3_prepare_24 : decode cX3_prepare 24 = .ok (.bipush (-103), 2) := by decide +kernel
theorem dX3_prepare_26 : decode cX3_prepare 26 = .ok (.ireturn, 1) := by decide +kernel
theorem dX3_prepare_27 : decode cX3_prepare 27 = .ok (.aload_n 0, 1) := by decide +kernel
theorem dX3_prepare_28 : decode cX3_prepare 28 = .ok (.bipush 6, 2) := by decide +kernel
theorem dX3_prepare_30 : decode cX3_prepare 30 = .ok (.iload_n 1, 1) := by decide +kernel
theorem dX3_prepare_31 : decode cX3_prepare 31 = .ok (.invokevirtual 101, 3) := by decide +kernel
theorem dX3_prepare_34 : decode cX3_prepare 34 = .ok (.istore_n 3, 1) := by decide +kernel
theorem dX3_prepare_35 : decode cX3_prepare 35 = .ok (.aload_n 0, 1) := by decide +kernel
theorem dX3_prepare_36 : decode cX3_prepare 36 = .ok (.getfield 10, 3) := by decide +kernel
theorem dX3_prepare_39 : decode cX3_prepare 39 = .ok (.iload_n 3, 1) := by decide +kernel
theorem dX3_prepare_40 : decode cX3_prepare 40 = .ok (.invokevirtual 104, 3) := by decide +kernel
theorem dX3_prepare_43 : decode cX3_prepare 43 = .ok (.iload_n 3, 1) := by decide +kernel
theorem dX3_prepare_44 : decode cX3_prepare 44 = .ok (.ireturn, 1) := by decide +kernel
set_option maxRecDepth 20000 in
theorem ggX3_commit_X3_refusalFor : GoodIn wsX3_commit wsX3_refusalFor := goodIn_r _ [6, 7, 8, 9, 10, 11, 12, 13, 14, 15, 16, 17, 18, 19, 116, 117, 118, 119, 120, 121, 122, 123, 124, 125, 126, 127, 128, 129, 130, 131, 132, 133, 134] (by decide +kernel) (by decide +kernel)
set_option maxRecDepth 20000 in
theorem gX3_commit_X3_refusalFor : GoodIn wsX3_commit (wsV RX3 69 RX3 yX3_refusalFor wsX3_refusalFor) := goodIn_app (goodIn_of _ (by decide +kernel)) ggX3_commit_X3_refusalFor
set_option maxRecDepth 20000 in
theorem ggX3_commit_X3_appendOfWork : GoodIn wsX3_commit wsX3_appendOfWork := goodIn_r _ [23, 1, 8, 24, 25, 26, 12, 27, 28, 14, 15, 16, 17, 18, 19, 29, 30, 31, 32, 33, 34, 35, 36, 37, 38, 39, 40, 41, 42, 43, 44, 45, 46, 47, 48, 49, 50, 51, 52, 53, 54, 55, 56, 57, 58, 5, 59, 60, 61, 62, 63, 64, 65, 66, 67, 68, 69, 70, 71, 72, 73, 74, 75, 76, 77, 78, 79, 80, 81, 82, 83, 84, 85, 86, 87, 88, 89, 90, 91, 92, 93, 94, 95, 96, 97, 98, 99, 100, 101, 102, 103, 104, 105, 106, 116, 117, 118, 119, 120, 121, 122, 123, 124, 125, 126, 127, 128, 129, 130, 131, 132, 133, 134, 135, 136, 137, 138] (by decide +kernel) (by decide +kernel)
set_option maxRecDepth 20000 in
theorem gX3_commit_X3_appendOfWork : GoodIn wsX3_commit (wsV RX3 101 RX3 yX3_appendOfWork wsX3_appendOfWork) := goodIn_app (goodIn_of _ (by decide +kernel)) ggX3_commit_X3_appendOfWork
set_option maxRecDepth 20000 in
theorem ggX3_commit_X0_forceUpTo : GoodIn wsX3_commit wsX0_forceUpTo := goodIn_r _ [110, 111, 34, 112, 49, 50, 51, 113, 114, 115, 135, 136, 137, 138] (by decide +kernel) (by decide +kernel)
set_option maxRecDepth 20000 in
theorem gX3_commit_X0_forceUpTo : GoodIn wsX3_commit (wsV RX3 104 RX0 yX0_forceUpTo wsX0_forceUpTo) := goodIn_app (goodIn_of _ (by decide +kernel)) ggX3_commit_X0_forceUpTo
theorem dX3_commit_0 : decode cX3_commit 0 = .ok (.aload_n 0, 1) := by decide +kernel
theorem dX3_commit_1 : decode cX3_commit 1 = .ok (.iload_n 1, 1) := by decide +kernel
theorem dX3_commit_2 : decode cX3_commit 2 = .ok (.invokevirtual 69, 3) := by decide +kernel
theorem dX3_commit_5 : decode cX3_commit 5 = .ok (.istore_n 2, 1) := by decide +kernel
theorem dX3_commit_6 : decode cX3_commit 6 = .ok (.iload_n 2, 1) := by decide +kernel
theorem dX3_commit_7 : decode cX3_commit 7 = .ok (.ifCond .eq 5, 3) := by decide +kernel
theorem dX3_commit_10 : decode cX3_commit 10 = .ok (.iload_n 2, 1) := by decide +kernel
theorem dX3_commit_11 : decode cX3_commit 11 = .ok (.ireturn, 1) := by decide +kernel
theorem dX3_commit_12 : decode cX3_commit 12 = .ok (.aload_n 0, 1) := by decide +kernel
theorem dX3_commit_13 : decode cX3_commit 13 = .ok (.iconst 3, 1) := by decide +kernel
theorem dX3_commit_14 : decode cX3_commit 14 = .ok (.iload_n 1, 1) := by decide +kernel
theorem dX3_commit_15 : decode cX3_commit 15 = .ok (.invokevirtual 101, 3) := by decide +kernel
theorem dX3_commit_18 : decode cX3_commit 18 = .ok (.istore_n 3, 1) := by decide +kernel
theorem dX3_commit_19 : decode cX3_commit 19 = .ok (.aload_n 0, 1) := by decide +kernel
theorem dX3_commit_20 : decode cX3_commit 20 = .ok (.getfield 10, 3) := by decide +kernel
theorem dX3_commit_23 : decode cX3_commit 23 = .ok (.iload_n 3, 1) := by decide +kernel
theorem dX3_commit_24 : decode cX3_commit 24 = .ok (.invokevirtual 104, 3) := by decide +kernel
theorem dX3_commit_27 : decode cX3_commit 27 = .ok (.aload_n 0, 1) := by decide +kernel
theorem dX3_commit_28 : decode cX3_commit 28 = .ok (.iconst 5, 1) := by decide +kernel
theorem dX3_commit_29 : decode cX3_commit 29 = .ok (.iload_n 1, 1) := by decide +kernel
theorem dX3_commit_30 : decode cX3_commit 30 = .ok (.invokevirtual 101, 3) := by decide +kernel
theorem dX3_commit_33 : decode cX3_commit 33 = .ok (.pop, 1) := by decide +kernel
theorem dX3_commit_34 : decode cX3_commit 34 = .ok (.iload_n 3, 1) := by decide +kernel
theorem dX3_commit_35 : decode cX3_commit 35 = .ok (.ireturn, 1) := by decide +kernel
set_option maxRecDepth 20000 in
theorem ggX3_abort_X3_refusalFor : GoodIn wsX3_abort wsX3_refusalFor := goodIn_r _ [5, 6, 7, 8, 9, 10, 11, 12, 13, 14, 15, 16, 17, 18, 142, 143, 144, 145, 146, 147, 148, 149, 150, 151, 152, 153, 154, 155, 156, 157, 158, 159, 160] (by decide +kernel) (by decide +kernel)
set_option maxRecDepth 20000 in
theorem gX3_abort_X3_refusalFor : GoodIn wsX3_abort (wsV RX3 69 RX3 yX3_refusalFor wsX3_refusalFor) := goodIn_app (goodIn_of _ (by decide +kernel)) ggX3_abort_X3_refusalFor
set_option maxRecDepth 20000 in
theorem ggX3_abort_X3_appendOfWork : GoodIn wsX3_abort wsX3_appendOfWork := goodIn_r _ [22, 23, 7, 24, 25, 26, 11, 27, 28, 13, 14, 15, 16, 17, 18, 29, 30, 31, 32, 33, 34, 35, 36, 37, 38, 39, 40, 41, 42, 43, 44, 45, 46, 47, 48, 49, 50, 51, 52, 53, 54, 55, 56, 57, 58, 4, 59, 60, 61, 62, 63, 64, 65, 66, 67, 68, 69, 70, 71, 72, 73, 74, 75, 76, 77, 78, 79, 80, 81, 82, 83, 84, 85, 86, 87, 88, 89, 90, 91, 92, 93, 94, 95, 96, 97, 98, 99, 100, 101, 102, 103, 104, 105, 106, 142, 143, 144, 145, 146, 147, 148, 149, 150, 151, 152, 153, 154, 155, 156, 157, 158, 159, 160, 161, 162, 163, 164] (by decide +kernel) (by decide +kernel)
set_option maxRecDepth 20000 in
theorem gX3_abort_X3_appendOfWork : GoodIn wsX3_abort (wsV RX3 101 RX3 yX3_appendOfWork wsX3_appendOfWork) := goodIn_app (goodIn_of _ (by decide +kernel)) ggX3_abort_X3_appendOfWork
set_option maxRecDepth 20000 in
theorem ggX3_abort_X3_undoDownTo : GoodIn wsX3_abort wsX3_undoDownTo := goodIn_r _ [110, 23, 7, 111, 112, 113, 32, 114, 34, 115, 116, 117, 11, 118, 73, 13, 14, 15, 16, 17, 18, 119, 120, 121, 4, 122, 24, 25, 26, 27, 28, 60, 61, 62, 63, 35, 64, 65, 66, 67, 123, 124, 125, 126, 127, 29, 30, 31, 33, 36, 37, 38, 39, 40, 41, 42, 43, 44, 45, 46, 47, 48, 49, 50, 51, 52, 53, 54, 55, 56, 57, 58, 59, 68, 69, 70, 71, 72, 74, 75, 76, 77, 78, 79, 80, 81, 82, 83, 84, 85, 86, 87, 88, 89, 90, 91, 92, 93, 94, 95, 96, 97, 98, 99, 100, 101, 102, 103, 104, 105, 106, 128, 129, 130, 131, 132, 133, 134, 135, 136, 137, 138, 139, 140, 141, 142, 143, 144, 145, 146, 147, 148, 149, 150, 151, 152, 153, 154, 161, 162, 163, 164, 155, 156, 157, 158, 159, 160, 165, 166, 167, 168] (by decide +kernel) (by decide +kernel)
set_option maxRecDepth 20000 in
theorem gX3_abort_X3_undoDownTo : GoodIn wsX3_abort (wsV RX3 97 RX3 yX3_undoDownTo wsX3_undoDownTo) := goodIn_app (goodIn_of _ (by decide +kernel)) ggX3_abort_X3_undoDownTo
theorem dX3_abort_0 : decode cX3_abort 0 = .ok (.aload_n 0, 1) := by decide +kernel
theorem dX3_abort_1 : decode cX3_abort 1 = .ok (.iload_n 1, 1) := by decide +kernel
theorem dX3_abort_2 : decode cX3_abort 2 = .ok (.invokevirtual 69, 3) := by decide +kernel
theorem dX3_abort_5 : decode cX3_abort 5 = .ok (.istore_n 2, 1) := by decide +kernel
theorem dX3_abort_6 : decode cX3_abort 6 = .ok (.iload_n 2, 1) := by decide +kernel
theorem dX3_abort_7 : decode cX3_abort 7 = .ok (.ifCond .eq 5, 3) := by decide +kernel
theorem dX3_abort_10 : decode cX3_abort 10 = .ok (.iload_n 2, 1) := by decide +kernel
theorem dX3_abort_11 : decode cX3_abort 11 = .ok (.ireturn, 1) := by decide +kernel
theorem dX3_abort_12 : decode cX3_abort 12 = .ok (.aload_n 0, 1) := by decide +kernel
theorem dX3_abort_13 : decode cX3_abort 13 = .ok (.iconst 4, 1) := by decide +kernel
theorem dX3_abort_14 : decode cX3_abort 14 = .ok (.iload_n 1, 1) := by decide +kernel
theorem dX3_abort_15 : decode cX3_abort 15 = .ok (.invokevirtual 101, 3) := by decide +kernel
theorem dX3_abort_18 : decode cX3_abort 18 = .ok (.pop, 1) := by decide +kernel
theorem dX3_abort_19 : decode cX3_abort 19 = .ok (.aload_n 0, 1) := by decide +kernel
theorem dX3_abort_20 : decode cX3_abort 20 = .ok (.iload_n 1, 1) := by decide +kernel
theorem dX3_abort_21 : decode cX3_abort 21 = .ok (.iconst 0, 1) := by decide +kernel
theorem dX3_abort_22 : decode cX3_abort 22 = .ok (.invokevirtual 97, 3) := by decide +kernel
theorem dX3_abort_25 : decode cX3_abort 25 = .ok (.istore_n 3, 1) := by decide +kernel
theorem dX3_abort_26 : decode cX3_abort 26 = .ok (.aload_n 0, 1) := by decide +kernel
theorem dX3_abort_27 : decode cX3_abort 27 = .ok (.iconst 5, 1) := by decide +kernel
theorem dX3_abort_28 : decode cX3_abort 28 = .ok (.iload_n 1, 1) := by decide +kernel
theorem dX3_abort_29 : decode cX3_abort 29 = .ok (.invokevirtual 101, 3) := by decide +kernel
theorem dX3_abort_32 : decode cX3_abort 32 = .ok (.pop, 1) := by decide +kernel
theorem dX3_abort_33 : decode cX3_abort 33 = .ok (.iload_n 3, 1) := by decide +kernel
theorem dX3_abort_34 : decode cX3_abort 34 = .ok (.ireturn, 1) := by decide +kernel
set_option maxRecDepth 20000 in
theorem ggX3_write_X1_hasPage : GoodIn wsX3_write wsX1_hasPage := goodIn_r _ [8] (by decide +kernel) (by decide +kernel)
set_option maxRecDepth 20000 in
theorem gX3_write_X1_hasPage : GoodIn wsX3_write (va_wsS RX3 107 yX1_hasPage wsX1_hasPage) := goodIn_app (goodIn_of _ (by decide +kernel)) ggX3_write_X1_hasPage
set_option maxRecDepth 20000 in
theorem ggX3_write_X2_baseOf : GoodIn wsX3_write wsX2_baseOf := goodIn_r _ [13, 14, 15, 6, 7, 8, 64, 65, 66, 67, 68, 69] (by decide +kernel) (by decide +kernel)
set_option maxRecDepth 20000 in
theorem gX3_write_X2_baseOf : GoodIn wsX3_write (wsV RX3 111 RX2 yX2_baseOf wsX2_baseOf) := goodIn_app (goodIn_of _ (by decide +kernel)) ggX3_write_X2_baseOf
set_option maxRecDepth 20000 in
theorem ggX3_write_X1_markOf : GoodIn wsX3_write wsX1_markOf := goodIn_r _ [19, 20, 21, 6, 7, 8, 70, 71, 72, 73] (by decide +kernel) (by decide +kernel)
set_option maxRecDepth 20000 in
theorem gX3_write_X1_markOf : GoodIn wsX3_write (wsV RX3 114 RX1 yX1_markOf wsX1_markOf) := goodIn_app (goodIn_of _ (by decide +kernel)) ggX3_write_X1_markOf
set_option maxRecDepth 20000 in
theorem ggX3_write_X0_forceUpTo : GoodIn wsX3_write wsX0_forceUpTo := goodIn_r _ [26, 27, 28, 29, 30, 31, 32, 33, 34, 35, 74, 75, 76, 77] (by decide +kernel) (by decide +kernel)
set_option maxRecDepth 20000 in
theorem gX3_write_X0_forceUpTo : GoodIn wsX3_write (wsV RX3 104 RX0 yX0_forceUpTo wsX0_forceUpTo) := goodIn_app (goodIn_of _ (by decide +kernel)) ggX3_write_X0_forceUpTo
set_option maxRecDepth 20000 in
theorem ggX3_write_X1_copyToMedium : GoodIn wsX3_write wsX1_copyToMedium := goodIn_r _ [39, 40, 41, 42, 43, 44, 45, 46, 20, 21, 6, 7, 8, 70, 71, 72, 73] (by decide +kernel) (by decide +kernel)
set_option maxRecDepth 20000 in
theorem gX3_write_X1_copyToMedium : GoodIn wsX3_write (wsV RX3 117 RX1 yX1_copyToMedium wsX1_copyToMedium) := goodIn_app (goodIn_of _ (by decide +kernel)) ggX3_write_X1_copyToMedium
set_option maxRecDepth 20000 in
theorem ggX3_write_X2_makeClean : GoodIn wsX3_write wsX2_makeClean := goodIn_r _ [50, 14, 15, 6, 7, 8, 64, 65, 66, 67, 68, 69] (by decide +kernel) (by decide +kernel)
set_option maxRecDepth 20000 in
theorem gX3_write_X2_makeClean : GoodIn wsX3_write (wsV RX3 120 RX2 yX2_makeClean wsX2_makeClean) := goodIn_app (goodIn_of _ (by decide +kernel)) ggX3_write_X2_makeClean
theorem dX3_write_0 : decode cX3_write 0 = .ok (.aload_n 0, 1) := by decide +kernel
theorem dX3_write_1 : decode cX3_write 1 = .ok (.getfield 43, 3) := by decide +kernel
theorem dX3_write_4 : decode cX3_write 4 = .ok (.ifCond .eq 6, 3) := by decide +kernel
theorem dX3_write_7 : decode cX3_write 7 = .ok (.bipush (-105), 2) := by decide +kernel
theorem dX3_write_9 : decode cX3_write 9 = .ok (.ireturn, 1) := by decide +kernel
theorem dX3_write_10 : decode cX3_write 10 = .ok (.iload_n 1, 1) := by decide +kernel
theorem dX3_write_11 : decode cX3_write 11 = .ok (.invokestatic 107, 3) := by decide +kernel
theorem dX3_write_14 : decode cX3_write 14 = .ok (.ifCond .ne 6, 3) := by decide +kernel
theorem dX3_write_17 : decode cX3_write 17 = .ok (.bipush (-102), 2) := by decide +kernel
theorem dX3_write_19 : decode cX3_write 19 = .ok (.ireturn, 1) := by decide +kernel
theorem dX3_write_20 : decode cX3_write 20 = .ok (.aload_n 0, 1) := by decide +kernel
theorem dX3_write_21 : decode cX3_write 21 = .ok (.getfield 26, 3) := by decide +kernel
theorem dX3_write_24 : decode cX3_write 24 = .ok (.iload_n 1, 1) := by decide +kernel
theorem dX3_write_25 : decode cX3_write 25 = .ok (.invokevirtual 111, 3) := by decide +kernel
theorem dX3_write_28 : decode cX3_write 28 = .ok (.ifCond .ne 5, 3) := by decide +kernel
theorem dX3_write_31 : decode cX3_write 31 = .ok (.iconst 0, 1) := by decide +kernel
theorem dX3_write_32 : decode cX3_write 32 = .ok (.ireturn, 1) := by decide +kernel
theorem dX3_write_33 : decode cX3_write 33 = .ok (.aload_n 0, 1) := by decide +kernel
theorem dX3_write_34 : decode cX3_write 34 = .ok (.getfield 10, 3) := by decide +kernel
theorem dX3_write_37 : decode cX3_write 37 = .ok (.aload_n 0, 1) := by decide +kernel
theorem dX3_write_38 : decode cX3_write 38 = .ok (.getfield 19, 3) := by decide +kernel
theorem dX3_write_41 : decode cX3_write 41 = .ok (.iload_n 1, 1) := by decide +kernel
theorem dX3_write_42 : decode cX3_write 42 = .ok (.invokevirtual 114, 3) := by decide +kernel
theorem dX3_write_45 : decode cX3_write 45 = .ok (.invokevirtual 104, 3) := by decide +kernel
theorem dX3_write_48 : decode cX3_write 48 = .ok (.aload_n 0, 1) := by decide +kernel
theorem dX3_write_49 : decode cX3_write 49 = .ok (.getfield 19, 3) := by decide +kernel
theorem dX3_write_52 : decode cX3_write 52 = .ok (.iload_n 1, 1) := by decide +kernel
theorem dX3_write_53 : decode cX3_write 53 = .ok (.invokevirtual 117, 3) := by decide +kernel
theorem dX3_write_56 : decode cX3_write 56 = .ok (.aload_n 0, 1) := by decide +kernel
theorem dX3_write_57 : decode cX3_write 57 = .ok (.getfield 26, 3) := by decide +kernel
theorem dX3_write_60 : decode cX3_write 60 = .ok (.iload_n 1, 1) := by decide +kernel
theorem dX3_write_61 : decode cX3_write 61 = .ok (.invokevirtual 120, 3) := by decide +kernel
theorem dX3_write_64 : decode cX3_write 64 = .ok (.iconst 1, 1) := by decide +kernel
theorem dX3_write_65 : decode cX3_write 65 = .ok (.ireturn, 1) := by decide +kernel
set_option maxRecDepth 20000 in
theorem ggX3_force_X0_forceUpTo : GoodIn wsX3_force wsX0_forceUpTo := goodIn_r _ [7, 8, 9, 10, 11, 12, 13, 14, 15, 16, 34, 35, 36, 37] (by decide +kernel) (by decide +kernel)
set_option maxRecDepth 20000 in
theorem gX3_force_X0_forceUpTo : GoodIn wsX3_force (wsV RX3 104 RX0 yX0_forceUpTo wsX0_forceUpTo) := goodIn_app (goodIn_of _ (by decide +kernel)) ggX3_force_X0_forceUpTo
set_option maxRecDepth 20000 in
theorem ggX3_force_X0_forcedHeld : GoodIn wsX3_force wsX0_forcedHeld := goodIn_r _ [20, 8, 34, 35, 36, 37] (by decide +kernel) (by decide +kernel)
set_option maxRecDepth 20000 in
theorem gX3_force_X0_forcedHeld : GoodIn wsX3_force (wsV RX3 123 RX0 yX0_forcedHeld wsX0_forcedHeld) := goodIn_app (goodIn_of _ (by decide +kernel)) ggX3_force_X0_forcedHeld
theorem dX3_force_0 : decode cX3_force 0 = .ok (.aload_n 0, 1) := by decide +kernel
theorem dX3_force_1 : decode cX3_force 1 = .ok (.getfield 43, 3) := by decide +kernel
theorem dX3_force_4 : decode cX3_force 4 = .ok (.ifCond .eq 6, 3) := by decide +kernel
theorem dX3_force_7 : decode cX3_force 7 = .ok (.bipush (-105), 2) := by decide +kernel
theorem dX3_force_9 : decode cX3_force 9 = .ok (.ireturn, 1) := by decide +kernel
theorem dX3_force_10 : decode cX3_force 10 = .ok (.iload_n 1, 1) := by decide +kernel
theorem dX3_force_11 : decode cX3_force 11 = .ok (.ifCond .ge 6, 3) := by decide +kernel
theorem dX3_force_14 : decode cX3_force 14 = .ok (.bipush (-102), 2) := by decide +kernel
theorem dX3_force_16 : decode cX3_force 16 = .ok (.ireturn, 1) := by decide +kernel
theorem dX3_force_17 : decode cX3_force 17 = .ok (.aload_n 0, 1) := by decide +kernel
theorem dX3_force_18 : decode cX3_force 18 = .ok (.getfield 10, 3) := by decide +kernel
theorem dX3_force_21 : decode cX3_force 21 = .ok (.iload_n 1, 1) := by decide +kernel
theorem dX3_force_22 : decode cX3_force 22 = .ok (.invokevirtual 104, 3) := by decide +kernel
theorem dX3_force_25 : decode cX3_force 25 = .ok (.aload_n 0, 1) := by decide +kernel
theorem dX3_force_26 : decode cX3_force 26 = .ok (.getfield 10, 3) := by decide +kernel
theorem dX3_force_29 : decode cX3_force 29 = .ok (.invokevirtual 123, 3) := by decide +kernel
theorem dX3_force_32 : decode cX3_force 32 = .ok (.ireturn, 1) := by decide +kernel
set_option maxRecDepth 20000 in
theorem ggX3_point_X0_append : GoodIn wsX3_point wsX0_append := goodIn_r _ [11, 12, 13, 14, 15, 16, 17, 18, 19, 20, 21, 22, 23, 24, 25, 26, 27, 28, 29, 30, 31, 32, 33, 118, 119, 120, 121] (by decide +kernel) (by decide +kernel)
set_option maxRecDepth 20000 in
theorem gX3_point_X0_append : GoodIn wsX3_point (wsV RX3 87 RX0 yX0_append wsX0_append) := goodIn_app (goodIn_of _ (by decide +kernel)) ggX3_point_X0_append
set_option maxRecDepth 20000 in
theorem ggX3_point_X2_becomeLike : GoodIn wsX3_point wsX2_becomeLike := goodIn_r _ [38, 39, 40, 41, 37, 42, 43, 44, 45, 46, 17, 47, 48, 49, 50, 51, 52, 53, 54, 55, 56, 57, 58, 59, 60, 61, 62, 63, 64, 65, 66, 67, 68, 69, 70, 71, 72, 73, 74, 75, 76, 77, 78, 79, 80, 81, 82, 83, 84, 85, 86, 87, 88, 89, 90, 91, 92, 93, 94, 95, 122, 123, 124, 125, 126, 127] (by decide +kernel) (by decide +kernel)
set_option maxRecDepth 20000 in
theorem gX3_point_X2_becomeLike : GoodIn wsX3_point (wsV RX3 126 RX2 yX2_becomeLike wsX2_becomeLike) := goodIn_app (goodIn_of _ (by decide +kernel)) ggX3_point_X2_becomeLike
set_option maxRecDepth 20000 in
theorem ggX3_point_X0_forceUpTo : GoodIn wsX3_point wsX0_forceUpTo := goodIn_r _ [99, 100, 12, 101, 27, 28, 29, 102, 103, 104, 118, 119, 120, 121] (by decide +kernel) (by decide +kernel)
set_option maxRecDepth 20000 in
theorem gX3_point_X0_forceUpTo : GoodIn wsX3_point (wsV RX3 104 RX0 yX0_forceUpTo wsX0_forceUpTo) := goodIn_app (goodIn_of _ (by decide +kernel)) ggX3_point_X0_forceUpTo
theorem dX3_point_0 : decode cX3_point 0 = .ok (.aload_n 0, 1) := by decide +kernel
theorem dX3_point_1 : decode cX3_point 1 = .ok (.getfield 43, 3) := by decide +kernel
theorem dX3_point_4 : decode cX3_point 4 = .ok (.ifCond .eq 6, 3) := by decide +kernel
theorem dX3_point_7 : decode cX3_point 7 = .ok (.bipush (-105), 2) := by decide +kernel
theorem dX3_point_9 : decode cX3_point 9 = .ok (.ireturn, 1) := by decide +kernel
theorem dX3_point_10 : decode cX3_point 10 = .ok (.aload_n 0, 1) := by decide +kernel
theorem dX3_point_11 : decode cX3_point 11 = .ok (.getfield 37, 3) := by decide +kernel
theorem dX3_point_14 : decode cX3_point 14 = .ok (.bipush 100, 2) := by decide +kernel
theorem dX3_point_16 : decode cX3_point 16 = .ok (.if_icmp .lt 6, 3) := by decide +kernel
theorem dX3_point_19 : decode cX3_point 19 = .ok (.bipush (-104), 2) := by decide +kernel
theorem dX3_point_21 : decode cX3_point 21 = .ok (.ireturn, 1) := by decide +kernel
theorem dX3_point_22 : decode cX3_point 22 = .ok (.aload_n 0, 1) := by decide +kernel
theorem dX3_point_23 : decode cX3_point 23 = .ok (.dup, 1) := by decide +kernel
theorem dX3_point_24 : decode cX3_point 24 = .ok (.getfield 37, 3) := by decide +kernel
theorem dX3_point_27 : decode cX3_point 27 = .ok (.iconst 1, 1) := by decide +kernel
theorem dX3_point_28 : decode cX3_point 28 = .ok (.iadd, 1) := by decide +kernel
theorem dX3_point_29 : decode cX3_point 29 = .ok (.putfield 37, 3) := by decide +kernel
theorem dX3_point_32 : decode cX3_point 32 = .ok (.aload_n 0, 1) := by decide +kernel
theorem dX3_point_33 : decode cX3_point 33 = .ok (.aload_n 0, 1) := by decide +kernel
theorem dX3_point_34 : decode cX3_point 34 = .ok (.getfield 10, 3) := by decide +kernel
theorem dX3_point_37 : decode cX3_point 37 = .ok (.bipush 7, 2) := by decide +kernel
theorem dX3_point_39 : decode cX3_point 39 = .ok (.iconst 0, 1) := by decide +kernel
theorem dX3_point_40 : decode cX3_point 40 = .ok (.iconst 0, 1) := by decide +kernel
theorem dX3_point_41 : decode cX3_point 41 = .ok (.iconst 0, 1) := by decide +kernel
theorem dX3_point_42 : decode cX3_point 42 = .ok (.iconst 0, 1) := by decide +kernel
theorem dX3_point_43 : decode cX3_point 43 = .ok (.iconst 0, 1) := by decide +kernel
theorem dX3_point_44 : decode cX3_point 44 = .ok (.iconst 0, 1) := by decide +kernel
theorem dX3_point_45 : decode cX3_point 45 = .ok (.invokevirtual 87, 3) := by decide +kernel
theorem dX3_point_48 : decode cX3_point 48 = .ok (.putfield 33, 3) := by decide +kernel
theorem dX3_point_51 : decode cX3_point 51 = .ok (.aload_n 0, 1) := by decide +kernel
theorem dX3_point_52 : decode cX3_point 52 = .ok (.getfield 30, 3) := by decide +kernel
theorem dX3_point_55 : decode cX3_point 55 = .ok (.aload_n 0, 1) := by decide +kernel
theorem dX3_point_56 : decode cX3_point 56 = .ok (.getfield 26, 3) := by decide +kernel
theorem dX3_point_59 : decode cX3_point 59 = .ok (.invokevirtual 126, 3) := by decide +kernel
theorem dX3_point_62 : decode cX3_point 62 = .ok (.aload_n 0, 1) := by decide +kernel
theorem dX3_point_63 : decode cX3_point 63 = .ok (.getfield 10, 3) := by decide +kernel
theorem dX3_point_66 : decode cX3_point 66 = .ok (.aload_n 0, 1) := by decide +kernel
theorem dX3_point_67 : decode cX3_point 67 = .ok (.getfield 10, 3) := by decide +kernel
theorem dX3_point_70 : decode cX3_point 70 = .ok (.bipush 8, 2) := by decide +kernel
theorem dX3_point_72 : decode cX3_point 72 = .ok (.iconst 0, 1) := by decide +kernel
theorem dX3_point_73 : decode cX3_point 73 = .ok (.iconst 0, 1) := by decide +kernel
theorem dX3_point_74 : decode cX3_point 74 = .ok (.iconst 0, 1) := by decide +kernel
theorem dX3_point_75 : decode cX3_point 75 = .ok (.iconst 0, 1) := by decide +kernel
theorem dX3_point_76 : decode cX3_point 76 = .ok (.iconst 0, 1) := by decide +kernel
theorem dX3_point_77 : decode cX3_point 77 = .ok (.iconst 0, 1) := by decide +kernel
theorem dX3_point_78 : decode cX3_point 78 = .ok (.invokevirtual 87, 3) := by decide +kernel
theorem dX3_point_81 : decode cX3_point 81 = .ok (.invokevirtual 104, 3) := by decide +kernel
theorem dX3_point_84 : decode cX3_point 84 = .ok (.aload_n 0, 1) := by decide +kernel
theorem dX3_point_85 : decode cX3_point 85 = .ok (.getfield 33, 3) := by decide +kernel
theorem dX3_point_88 : decode cX3_point 88 = .ok (.ireturn, 1) := by decide +kernel
set_option maxRecDepth 20000 in
theorem ggX3_loss_X0_loseBehind : GoodIn wsX3_loss wsX0_loseBehind := goodIn_r _ [15, 16, 17, 18, 19, 8, 20, 21, 22, 23, 24, 14, 25, 26, 27, 28, 29, 30, 92, 93, 94, 95] (by decide +kernel) (by decide +kernel)
set_option maxRecDepth 20000 in
theorem gX3_loss_X0_loseBehind : GoodIn wsX3_loss (wsV RX3 130 RX0 yX0_loseBehind wsX0_loseBehind) := goodIn_app (goodIn_of _ (by decide +kernel)) ggX3_loss_X0_loseBehind
set_option maxRecDepth 20000 in
theorem ggX3_loss_X1_readAllFromMedium : GoodIn wsX3_loss wsX1_readAllFromMedium := goodIn_r _ [35, 36, 37, 38, 39, 40, 41, 42, 43, 96, 97, 98, 99] (by decide +kernel) (by decide +kernel)
set_option maxRecDepth 20000 in
theorem gX3_loss_X1_readAllFromMedium : GoodIn wsX3_loss (wsV RX3 133 RX1 yX1_readAllFromMedium wsX1_readAllFromMedium) := goodIn_app (goodIn_of _ (by decide +kernel)) ggX3_loss_X1_readAllFromMedium
set_option maxRecDepth 20000 in
theorem ggX3_loss_X2_makeEmpty : GoodIn wsX3_loss wsX2_makeEmpty := goodIn_r _ [48, 49, 50, 51, 52, 53, 54, 100, 101, 102, 103, 104, 105] (by decide +kernel) (by decide +kernel)
set_option maxRecDepth 20000 in
theorem gX3_loss_X2_makeEmpty : GoodIn wsX3_loss (wsV RX3 136 RX2 yX2_makeEmpty wsX2_makeEmpty) := goodIn_app (goodIn_of _ (by decide +kernel)) ggX3_loss_X2_makeEmpty
set_option maxRecDepth 20000 in
theorem ggX3_loss_X3_passOverPartsWithoutSteps : GoodIn wsX3_loss wsX3_passOverPartsWithoutSteps := goodIn_r _ [59, 4, 10, 1, 3, 60, 61, 62, 14, 63, 17, 64, 65, 66, 47, 67, 50, 68, 69, 70, 71, 49, 72, 73, 74, 75, 76, 77, 78, 79, 80, 81, 82, 83, 84, 85, 86, 87, 88, 89, 90, 91, 92, 93, 94, 95, 100, 101, 102, 103, 104, 105] (by decide +kernel) (by decide +kernel)
set_option maxRecDepth 20000 in
theorem gX3_loss_X3_passOverPartsWithoutSteps : GoodIn wsX3_loss (wsV RX3 144 RX3 yX3_passOverPartsWithoutSteps wsX3_passOverPartsWithoutSteps) := goodIn_app (goodIn_of _ (by decide +kernel)) ggX3_loss_X3_passOverPartsWithoutSteps
set_option maxRecDepth 20000 in
theorem ggX3_loss_X0_recordsHeld : GoodIn wsX3_loss wsX0_recordsHeld := goodIn_r _ [63, 17, 92, 93, 94, 95] (by decide +kernel) (by decide +kernel)
set_option maxRecDepth 20000 in
theorem gX3_loss_X0_recordsHeld : GoodIn wsX3_loss (wsV RX3 147 RX0 yX0_recordsHeld wsX0_recordsHeld) := goodIn_app (goodIn_of _ (by decide +kernel)) ggX3_loss_X0_recordsHeld
theorem dX3_loss_0 : decode cX3_loss 0 = .ok (.iload_n 1, 1) := by decide +kernel
theorem dX3_loss_1 : decode cX3_loss 1 = .ok (.ifCond .ge 6, 3) := by decide +kernel
theorem dX3_loss_4 : decode cX3_loss 4 = .ok (.bipush (-102), 2) := by decide +kernel
theorem dX3_loss_6 : decode cX3_loss 6 = .ok (.ireturn, 1) := by decide +kernel
theorem dX3_loss_7 : decode cX3_loss 7 = .ok (.aload_n 0, 1) := by decide +kernel
theorem dX3_loss_8 : decode cX3_loss 8 = .ok (.getfield 10, 3) := by decide +kernel
theorem dX3_loss_11 : decode cX3_loss 11 = .ok (.iload_n 1, 1) := by decide +kernel
theorem dX3_loss_12 : decode cX3_loss 12 = .ok (.invokevirtual 130, 3) := by decide +kernel
theorem dX3_loss_15 : decode cX3_loss 15 = .ok (.aload_n 0, 1) := by decide +kernel
theorem dX3_loss_16 : decode cX3_loss 16 = .ok (.getfield 19, 3) := by decide +kernel
theorem dX3_loss_19 : decode cX3_loss 19 = .ok (.invokevirtual 133, 3) := by decide +kernel
theorem dX3_loss_22 : decode cX3_loss 22 = .ok (.aload_n 0, 1) := by decide +kernel
theorem dX3_loss_23 : decode cX3_loss 23 = .ok (.getfield 26, 3) := by decide +kernel
theorem dX3_loss_26 : decode cX3_loss 26 = .ok (.invokevirtual 136, 3) := by decide +kernel
theorem dX3_loss_29 : decode cX3_loss 29 = .ok (.aload_n 0, 1) := by decide +kernel
theorem dX3_loss_30 : decode cX3_loss 30 = .ok (.iconst 1, 1) := by decide +kernel
theorem dX3_loss_31 : decode cX3_loss 31 = .ok (.putfield 43, 3) := by decide +kernel
theorem dX3_loss_34 : decode cX3_loss 34 = .ok (.aload_n 0, 1) := by decide +kernel
theorem dX3_loss_35 : decode cX3_loss 35 = .ok (.aload_n 0, 1) := by decide +kernel
theorem dX3_loss_36 : decode cX3_loss 36 = .ok (.getfield 33, 3) := by decide +kernel
theorem dX3_loss_39 : decode cX3_loss 39 = .ok (.iconst 1, 1) := by decide +kernel
theorem dX3_loss_40 : decode cX3_loss 40 = .ok (.invokestatic 139, 3) := by decide +kernel
theorem dX3_loss_43 : decode cX3_loss 43 = .ok (.putfield 46, 3) := by decide +kernel
theorem dX3_loss_46 : decode cX3_loss 46 = .ok (.aload_n 0, 1) := by decide +kernel
theorem dX3_loss_47 : decode cX3_loss 47 = .ok (.invokevirtual 144, 3) := by decide +kernel
theorem dX3_loss_50 : decode cX3_loss 50 = .ok (.aload_n 0, 1) := by decide +kernel
theorem dX3_loss_51 : decode cX3_loss 51 = .ok (.getfield 10, 3) := by decide +kernel
theorem dX3_loss_54 : decode cX3_loss 54 = .ok (.invokevirtual 147, 3) := by decide +kernel
theorem dX3_loss_57 : decode cX3_loss 57 = .ok (.ireturn, 1) := by decide +kernel
set_option maxRecDepth 20000 in
theorem ggX3_restart_X3_makeStep : GoodIn wsX3_restart wsX3_makeStep := goodIn_r _ [6, 1, 7, 8, 9, 10, 11, 5, 12, 13, 14, 15, 16, 17, 18, 19, 20, 21, 22, 23, 24, 25, 26, 27, 28, 29, 30, 31, 32, 33, 34, 35, 36, 37, 38, 39, 40, 41, 42, 43, 44, 45, 46, 47, 48, 49, 50, 51, 52, 53, 54, 55, 56, 57, 58, 59, 60, 61, 62, 63, 64, 65, 66, 67, 68, 69, 70, 71, 72, 73, 74, 75, 76, 77, 78, 79, 80, 81, 82, 83, 84, 85, 86, 87, 88, 89, 90, 91, 92, 93, 94, 95, 96, 97, 98, 99, 100, 101, 102, 103, 104, 105, 106, 107, 108, 109, 110, 111, 112, 113, 114, 115, 116, 117, 118, 119, 120, 121, 122, 123, 124, 125, 126, 127, 128, 129, 130, 131, 132, 133, 134, 135, 136, 137, 138, 139, 140, 141, 142, 143, 144, 145, 146, 147, 148, 149, 150, 151, 152, 153, 154, 155, 156, 157, 158, 159, 160, 161, 162, 163, 164, 165, 166, 167, 168, 169, 170, 171, 172, 173, 174, 175, 176, 177, 178, 179, 180, 181, 182, 183, 184, 185, 186, 187, 188, 189, 190, 191, 192, 193, 194, 195, 196, 197, 198, 199, 200, 201, 202, 203, 204, 205, 206, 207, 208, 209, 210, 211, 212, 213, 214, 215, 216, 217, 218, 219, 220] (by decide +kernel) (by decide +kernel)
set_option maxRecDepth 20000 in
theorem gX3_restart_X3_makeStep : GoodIn wsX3_restart (wsV RX3 150 RX3 yX3_makeStep wsX3_makeStep) := goodIn_app (goodIn_of _ (by decide +kernel)) ggX3_restart_X3_makeStep
theorem dX3_restart_0 : decode cX3_restart 0 = .ok (.iload_n 1, 1) := by decide +kernel
theorem dX3_restart_1 : decode cX3_restart 1 = .ok (.ifCond .ge 6, 3) := by decide +kernel
theorem dX3_restart_4 : decode cX3_restart 4 = .ok (.bipush (-102), 2) := by decide +kernel
theorem dX3_restart_6 : decode cX3_restart 6 = .ok (.ireturn, 1) := by decide +kernel
theorem dX3_restart_7 : decode cX3_restart 7 = .ok (.iconst 0, 1) := by decide +kernel
theorem dX3_restart_8 : decode cX3_restart 8 = .ok (.istore_n 2, 1) := by decide +kernel
theorem dX3_restart_9 : decode cX3_restart 9 = .ok (.iload_n 2, 1) := by decide +kernel
theorem dX3_restart_10 : decode cX3_restart 10 = .ok (.iload_n 1, 1) := by decide +kernel
theorem dX3_restart_11 : decode cX3_restart 11 = .ok (.if_icmp .ge 20, 3) := by decide +kernel
theorem dX3_restart_14 : decode cX3_restart 14 = .ok (.aload_n 0, 1) := by decide +kernel
theorem dX3_restart_15 : decode cX3_restart 15 = .ok (.getfield 43, 3) := by decide +kernel
theorem dX3_restart_18 : decode cX3_restart 18 = .ok (.ifCond .eq 13, 3) := by decide +kernel
theorem dX3_restart_21 : decode cX3_restart 21 = .ok (.aload_n 0, 1) := by decide +kernel
theorem dX3_restart_22 : decode cX3_restart 22 = .ok (.invokevirtual 150, 3) := by decide +kernel
theorem dX3_restart_25 : decode cX3_restart 25 = .ok (.iinc 2 1, 3) := by decide +kernel
theorem dX3_restart_28 : decode cX3_restart 28 = .ok (.goto (-19), 3) := by decide +kernel
theorem dX3_restart_31 : decode cX3_restart 31 = .ok (.iload_n 2, 1) := by decide +kernel
theorem dX3_restart_32 : decode cX3_restart 32 = .ok (.ireturn, 1) := by decide +kernel
theorem dX3_part_0 : decode cX3_part 0 = .ok (.aload_n 0, 1) := by decide +kernel
theorem dX3_part_1 : decode cX3_part 1 = .ok (.getfield 43, 3) := by decide +kernel
theorem dX3_part_4 : decode cX3_part 4 = .ok (.ireturn, 1) := by decide +kernel
set_option maxRecDepth 20000 in
theorem ggX3_word_X1_valueOf : GoodIn wsX3_word wsX1_valueOf := goodIn_r _ [6, 7, 8, 9, 5, 10, 24, 25, 26, 27] (by decide +kernel) (by decide +kernel)
set_option maxRecDepth 20000 in
theorem gX3_word_X1_valueOf : GoodIn wsX3_word (wsV RX3 153 RX1 yX1_valueOf wsX1_valueOf) := goodIn_app (goodIn_of _ (by decide +kernel)) ggX3_word_X1_valueOf
theorem dX3_word_0 : decode cX3_word 0 = .ok (.aload_n 0, 1) := by decide +kernel
theorem dX3_word_1 : decode cX3_word 1 = .ok (.getfield 19, 3) := by decide +kernel
theorem dX3_word_4 : decode cX3_word 4 = .ok (.iload_n 1, 1) := by decide +kernel
theorem dX3_word_5 : decode cX3_word 5 = .ok (.iload_n 2, 1) := by decide +kernel
theorem dX3_word_6 : decode cX3_word 6 = .ok (.invokevirtual 153, 3) := by decide +kernel
theorem dX3_word_9 : decode cX3_word 9 = .ok (.ireturn, 1) := by decide +kernel
set_option maxRecDepth 20000 in
theorem ggX3_page_X1_hasPage : GoodIn wsX3_page wsX1_hasPage := goodIn_r _ [6] (by decide +kernel) (by decide +kernel)
set_option maxRecDepth 20000 in
theorem gX3_page_X1_hasPage : GoodIn wsX3_page (va_wsS RX3 107 yX1_hasPage wsX1_hasPage) := goodIn_app (goodIn_of _ (by decide +kernel)) ggX3_page_X1_hasPage
set_option maxRecDepth 20000 in
theorem ggX3_page_X1_markOf : GoodIn wsX3_page wsX1_markOf := goodIn_r _ [10, 11, 12, 4, 5, 6, 38, 39, 40, 41] (by decide +kernel) (by decide +kernel)
set_option maxRecDepth 20000 in
theorem gX3_page_X1_markOf : GoodIn wsX3_page (wsV RX3 114 RX1 yX1_markOf wsX1_markOf) := goodIn_app (goodIn_of _ (by decide +kernel)) ggX3_page_X1_markOf
set_option maxRecDepth 20000 in
theorem ggX3_page_X2_baseOf : GoodIn wsX3_page wsX2_baseOf := goodIn_r _ [17, 18, 19, 4, 5, 6, 42, 43, 44, 45, 46, 47] (by decide +kernel) (by decide +kernel)
set_option maxRecDepth 20000 in
theorem gX3_page_X2_baseOf : GoodIn wsX3_page (wsV RX3 111 RX2 yX2_baseOf wsX2_baseOf) := goodIn_app (goodIn_of _ (by decide +kernel)) ggX3_page_X2_baseOf
set_option maxRecDepth 20000 in
theorem ggX3_page_X1_mediumMarkOf : GoodIn wsX3_page wsX1_mediumMarkOf := goodIn_r _ [23, 24, 12, 4, 5, 6, 38, 39, 40, 41] (by decide +kernel) (by decide +kernel)
set_option maxRecDepth 20000 in
theorem gX3_page_X1_mediumMarkOf : GoodIn wsX3_page (wsV RX3 156 RX1 yX1_mediumMarkOf wsX1_mediumMarkOf) := goodIn_app (goodIn_of _ (by decide +kernel)) ggX3_page_X1_mediumMarkOf
theorem dX3_page_0 : decode cX3_page 0 = .ok (.iload_n 1, 1) := by decide +kernel
theorem dX3_page_1 : decode cX3_page 1 = .ok (.invokestatic 107, 3) := by decide +kernel
theorem dX3_page_4 : decode cX3_page 4 = .ok (.ifCond .ne 6, 3) := by decide +kernel
theorem dX3_page_7 : decode cX3_page 7 = .ok (.bipush (-102), 2) := by decide +kernel
theorem dX3_page_9 : decode cX3_page 9 = .ok (.ireturn, 1) := by decide +kernel
theorem dX3_page_10 : decode cX3_page 10 = .ok (.iload_n 2, 1) := by decide +kernel
theorem dX3_page_11 : decode cX3_page 11 = .ok (.tableswitch 67 0 2 #[25, 34, 58], 25) := by decide +kernel
theorem dX3_page_36 : decode cX3_page 36 = .ok (.aload_n 0, 1) := by decide +kernel
theorem dX3_page_37 : decode cX3_page 37 = .ok (.getfield 19, 3) := by decide +kernel
theorem dX3_page_40 : decode cX3_page 40 = .ok (.iload_n 1, 1) := by decide +kernel
theorem dX3_page_41 : decode cX3_page 41 = .ok (.invokevirtual 114, 3) := by decide +kernel
theorem dX3_page_44 : decode cX3_page 44 = .ok (.ireturn, 1) := by decide +kernel
theorem dX3_page_45 : decode cX3_page 45 = .ok (.aload_n 0, 1) := by decide +kernel
theorem dX3_page_46 : decode cX3_page 46 = .ok (.getfield 26, 3) := by decide +kernel
theorem dX3_page_49 : decode cX3_page 49 = .ok (.iload_n 1, 1) := by decide +kernel
theorem dX3_page_50 : decode cX3_page 50 = .ok (.invokevirtual 111, 3) := by decide +kernel
theorem dX3_page_53 : decode cX3_page 53 = .ok (.ifCond .ne 7, 3) := by decide +kernel
theorem dX3_page_56 : decode cX3_page 56 = .ok (.iconst (-1), 1) := by decide +kernel
theorem dX3_page_57 : decode cX3_page 57 = .ok (.goto 11, 3) := by decide +kernel
theorem dX3_page_60 : decode cX3_page 60 = .ok (.aload_n 0, 1) := by decide +kernel
theorem dX3_page_61 : decode cX3_page 61 = .ok (.getfield 26, 3) := by decide +kernel
theorem dX3_page_64 : decode cX3_page 64 = .ok (.iload_n 1, 1) := by decide +kernel
theorem dX3_page_65 : decode cX3_page 65 = .ok (.invokevirtual 111, 3) := by decide +kernel
theorem dX3_page_68 : decode cX3_page 68 = .ok (.ireturn, 1) := by decide +kernel
theorem dX3_page_69 : decode cX3_page 69 = .ok (.aload_n 0, 1) := by decide +kernel
theorem dX3_page_70 : decode cX3_page 70 = .ok (.getfield 19, 3) := by decide +kernel
theorem dX3_page_73 : decode cX3_page 73 = .ok (.iload_n 1, 1) := by decide +kernel
theorem dX3_page_74 : decode cX3_page 74 = .ok (.invokevirtual 156, 3) := by decide +kernel
theorem dX3_page_77 : decode cX3_page 77 = .ok (.ireturn, 1) := by decide +kernel
theorem dX3_page_78 : decode cX3_page 78 = .ok (.bipush (-102), 2) := by decide +kernel
theorem dX3_page_80 : decode cX3_page 80 = .ok (.ireturn, 1) := by decide +kernel
set_option maxRecDepth 20000 in
theorem ggX3_table_X2_workAt : GoodIn wsX3_table wsX2_workAt := goodIn_r _ [6, 7, 8, 41, 42, 43, 44, 45, 46] (by decide +kernel) (by decide +kernel)
set_option maxRecDepth 20000 in
theorem gX3_table_X2_workAt : GoodIn wsX3_table (wsV RX3 159 RX2 yX2_workAt wsX2_workAt) := goodIn_app (goodIn_of _ (by decide +kernel)) ggX3_table_X2_workAt
set_option maxRecDepth 20000 in
theorem ggX3_table_X2_stateOf : GoodIn wsX3_table wsX2_stateOf := goodIn_r _ [12, 13, 14, 15, 16, 5, 17, 7, 8, 41, 42, 43, 44, 45, 46] (by decide +kernel) (by decide +kernel)
set_option maxRecDepth 20000 in
theorem gX3_table_X2_stateOf : GoodIn wsX3_table (wsV RX3 77 RX2 yX2_stateOf wsX2_stateOf) := goodIn_app (goodIn_of _ (by decide +kernel)) ggX3_table_X2_stateOf
set_option maxRecDepth 20000 in
theorem ggX3_table_X2_lastOf : GoodIn wsX3_table wsX2_lastOf := goodIn_r _ [21, 22, 14, 15, 16, 5, 17, 7, 8, 41, 42, 43, 44, 45, 46] (by decide +kernel) (by decide +kernel)
set_option maxRecDepth 20000 in
theorem gX3_table_X2_lastOf : GoodIn wsX3_table (wsV RX3 84 RX2 yX2_lastOf wsX2_lastOf) := goodIn_app (goodIn_of _ (by decide +kernel)) ggX3_table_X2_lastOf
set_option maxRecDepth 20000 in
theorem ggX3_table_X2_nextOf : GoodIn wsX3_table wsX2_nextOf := goodIn_r _ [26, 27, 14, 15, 16, 5, 17, 7, 8, 41, 42, 43, 44, 45, 46] (by decide +kernel) (by decide +kernel)
set_option maxRecDepth 20000 in
theorem gX3_table_X2_nextOf : GoodIn wsX3_table (wsV RX3 162 RX2 yX2_nextOf wsX2_nextOf) := goodIn_app (goodIn_of _ (by decide +kernel)) ggX3_table_X2_nextOf
theorem dX3_table_0 : decode cX3_table 0 = .ok (.aload_n 0, 1) := by decide +kernel
theorem dX3_table_1 : decode cX3_table 1 = .ok (.getfield 26, 3) := by decide +kernel
theorem dX3_table_4 : decode cX3_table 4 = .ok (.iload_n 1, 1) := by decide +kernel
theorem dX3_table_5 : decode cX3_table 5 = .ok (.invokevirtual 159, 3) := by decide +kernel
theorem dX3_table_8 : decode cX3_table 8 = .ok (.istore_n 3, 1) := by decide +kernel
theorem dX3_table_9 : decode cX3_table 9 = .ok (.iload_n 3, 1) := by decide +kernel
theorem dX3_table_10 : decode cX3_table 10 = .ok (.ifCond .ne 5, 3) := by decide +kernel
theorem dX3_table_13 : decode cX3_table 13 = .ok (.iconst (-1), 1) := by decide +kernel
theorem dX3_table_14 : decode cX3_table 14 = .ok (.ireturn, 1) := by decide +kernel
theorem dX3_table_15 : decode cX3_table 15 = .ok (.iload_n 2, 1) := by decide +kernel
theorem dX3_table_16 : decode cX3_table 16 = .ok (.tableswitch 61 0 3 #[32, 34, 43, 52], 32) := by decide +kernel
theorem dX3_table_48 : decode cX3_table 48 = .ok (.iload_n 3, 1) := by decide +kernel
theorem dX3_table_49 : decode cX3_table 49 = .ok (.ireturn, 1) := by decide +kernel
theorem dX3_table_50 : decode cX3_table 50 = .ok (.aload_n 0, 1) := by decide +kernel
theorem dX3_table_51 : decode cX3_table 51 = .ok (.getfield 26, 3) := by decide +kernel
theorem dX3_table_54 : decode cX3_table 54 = .ok (.iload_n 3, 1) := by decide +kernel
theorem dX3_table_55 : decode cX3_table 55 = .ok (.invokevirtual 77, 3) := by decide +kernel
theorem dX3_table_58 : decode cX3_table 58 = .ok (.ireturn, 1) := by decide +kernel
theorem dX3_table_59 : decode cX3_table 59 = .ok (.aload_n 0, 1) := by decide +kernel
theorem dX3_table_60 : decode cX3_table 60 = .ok (.getfield 26, 3) := by decide +kernel
theorem dX3_table_63 : decode cX3_table 63 = .ok (.iload_n 3, 1) := by decide +kernel
theorem dX3_table_64 : decode cX3_table 64 = .ok (.invokevirtual 84, 3) := by decide +kernel
theorem dX3_table_67 : decode cX3_table 67 = .ok (.ireturn, 1) := by decide +kernel
theorem dX3_table_68 : decode cX3_table 68 = .ok (.aload_n 0, 1) := by decide +kernel
theorem dX3_table_69 : decode cX3_table 69 = .ok (.getfield 26, 3) := by decide +kernel
theorem dX3_table_72 : decode cX3_table 72 = .ok (.iload_n 3, 1) := by decide +kernel
theorem dX3_table_73 : decode cX3_table 73 = .ok (.invokevirtual 162, 3) := by decide +kernel
theorem dX3_table_76 : decode cX3_table 76 = .ok (.ireturn, 1) := by decide +kernel
theorem dX3_table_77 : decode cX3_table 77 = .ok (.iconst (-1), 1) := by decide +kernel
theorem dX3_table_78 : decode cX3_table 78 = .ok (.ireturn, 1) := by decide +kernel
set_option maxRecDepth 20000 in
theorem ggX3_record_X0_holds : GoodIn wsX3_record wsX0_holds := goodIn_r _ [6, 7, 27, 28, 29, 30] (by decide +kernel) (by decide +kernel)
set_option maxRecDepth 20000 in
theorem gX3_record_X0_holds : GoodIn wsX3_record (wsV RX3 165 RX0 yX0_holds wsX0_holds) := goodIn_app (goodIn_of _ (by decide +kernel)) ggX3_record_X0_holds
set_option maxRecDepth 20000 in
theorem ggX3_record_X0_read : GoodIn wsX3_record wsX0_read := goodIn_r _ [11, 12, 13, 3, 4, 5, 6, 7, 27, 28, 29, 30] (by decide +kernel) (by decide +kernel)
set_option maxRecDepth 20000 in
theorem gX3_record_X0_read : GoodIn wsX3_record (wsV RX3 168 RX0 yX0_read wsX0_read) := goodIn_app (goodIn_of _ (by decide +kernel)) ggX3_record_X0_read
theorem dX3_record_0 : decode cX3_record 0 = .ok (.aload_n 0, 1) := by decide +kernel
theorem dX3_record_1 : decode cX3_record 1 = .ok (.getfield 10, 3) := by decide +kernel
theorem dX3_record_4 : decode cX3_record 4 = .ok (.iload_n 1, 1) := by decide +kernel
theorem dX3_record_5 : decode cX3_record 5 = .ok (.invokevirtual 165, 3) := by decide +kernel
theorem dX3_record_8 : decode cX3_record 8 = .ok (.ifCond .eq 13, 3) := by decide +kernel
theorem dX3_record_11 : decode cX3_record 11 = .ok (.iload_n 2, 1) := by decide +kernel
theorem dX3_record_12 : decode cX3_record 12 = .ok (.ifCond .lt 9, 3) := by decide +kernel
theorem dX3_record_15 : decode cX3_record 15 = .ok (.iload_n 2, 1) := by decide +kernel
theorem dX3_record_16 : decode cX3_record 16 = .ok (.bipush 6, 2) := by decide +kernel
theorem dX3_record_18 : decode cX3_record 18 = .ok (.if_icmp .le 5, 3) := by decide +kernel
theorem dX3_record_21 : decode cX3_record 21 = .ok (.iconst (-1), 1) := by decide +kernel
theorem dX3_record_22 : decode cX3_record 22 = .ok (.ireturn, 1) := by decide +kernel
theorem dX3_record_23 : decode cX3_record 23 = .ok (.aload_n 0, 1) := by decide +kernel
theorem dX3_record_24 : decode cX3_record 24 = .ok (.getfield 10, 3) := by decide +kernel
theorem dX3_record_27 : decode cX3_record 27 = .ok (.iload_n 1, 1) := by decide +kernel
theorem dX3_record_28 : decode cX3_record 28 = .ok (.iload_n 2, 1) := by decide +kernel
theorem dX3_record_29 : decode cX3_record 29 = .ok (.invokevirtual 168, 3) := by decide +kernel
theorem dX3_record_32 : decode cX3_record 32 = .ok (.ireturn, 1) := by decide +kernel
set_option maxRecDepth 20000 in
theorem ggX3_count_X0_recordsHeld : GoodIn wsX3_count wsX0_recordsHeld := goodIn_r _ [10, 11, 30, 31, 32, 33] (by decide +kernel) (by decide +kernel)
set_option maxRecDepth 20000 in
theorem gX3_count_X0_recordsHeld : GoodIn wsX3_count (wsV RX3 147 RX0 yX0_recordsHeld wsX0_recordsHeld) := goodIn_app (goodIn_of _ (by decide +kernel)) ggX3_count_X0_recordsHeld
set_option maxRecDepth 20000 in
theorem ggX3_count_X0_forcedHeld : GoodIn wsX3_count wsX0_forcedHeld := goodIn_r _ [15, 16, 30, 31, 32, 33] (by decide +kernel) (by decide +kernel)
set_option maxRecDepth 20000 in
theorem gX3_count_X0_forcedHeld : GoodIn wsX3_count (wsV RX3 123 RX0 yX0_forcedHeld wsX0_forcedHeld) := goodIn_app (goodIn_of _ (by decide +kernel)) ggX3_count_X0_forcedHeld
theorem dX3_count_0 : decode cX3_count 0 = .ok (.iload_n 1, 1) := by decide +kernel
theorem dX3_count_1 : decode cX3_count 1 = .ok (.tableswitch 75 0 5 #[39, 47, 55, 60, 65, 70], 39) := by decide +kernel
theorem dX3_count_40 : decode cX3_count 40 = .ok (.aload_n 0, 1) := by decide +kernel
theorem dX3_count_41 : decode cX3_count 41 = .ok (.getfield 10, 3) := by decide +kernel
theorem dX3_count_44 : decode cX3_count 44 = .ok (.invokevirtual 147, 3) := by decide +kernel
theorem dX3_count_47 : decode cX3_count 47 = .ok (.ireturn, 1) := by decide +kernel
theorem dX3_count_48 : decode cX3_count 48 = .ok (.aload_n 0, 1) := by decide +kernel
theorem dX3_count_49 : decode cX3_count 49 = .ok (.getfield 10, 3) := by decide +kernel
theorem dX3_count_52 : decode cX3_count 52 = .ok (.invokevirtual 123, 3) := by decide +kernel
theorem dX3_count_55 : decode cX3_count 55 = .ok (.ireturn, 1) := by decide +kernel
theorem dX3_count_56 : decode cX3_count 56 = .ok (.aload_n 0, 1) := by decide +kernel
theorem dX3_count_57 : decode cX3_count 57 = .ok (.getfield 49, 3) := by decide +kernel
theorem dX3_count_60 : decode cX3_count 60 = .ok (.ireturn, 1) := by decide +kernel
theorem dX3_count_61 : decode cX3_count 61 = .ok (.aload_n 0, 1) := by decide +kernel
theorem dX3_count_62 : decode cX3_count 62 = .ok (.getfield 52, 3) := by decide +kernel
theorem dX3_count_65 : decode cX3_count 65 = .ok (.ireturn, 1) := by decide +kernel
theorem dX3_count_66 : decode cX3_count 66 = .ok (.aload_n 0, 1) := by decide +kernel
theorem dX3_count_67 : decode cX3_count 67 = .ok (.getfield 55, 3) := by decide +kernel
theorem dX3_count_70 : decode cX3_count 70 = .ok (.ireturn, 1) := by decide +kernel
theorem dX3_count_71 : decode cX3_count 71 = .ok (.aload_n 0, 1) := by decide +kernel
theorem dX3_count_72 : decode cX3_count 72 = .ok (.getfield 58, 3) := by decide +kernel
theorem dX3_count_75 : decode cX3_count 75 = .ok (.ireturn, 1) := by decide +kernel
theorem dX3_count_76 : decode cX3_count 76 = .ok (.bipush (-102), 2) := by decide +kernel
theorem dX3_count_78 : decode cX3_count 78 = .ok (.ireturn, 1) := by decide +kernel
set_option maxRecDepth 20000 in
theorem ggX3_refusalFor_X2_holds : GoodIn wsX3_refusalFor wsX2_holds := goodIn_r _ [7, 8, 9, 10, 6, 11, 12, 13, 27, 28, 29, 30, 31, 32] (by decide +kernel) (by decide +kernel)
set_option maxRecDepth 20000 in
theorem gX3_refusalFor_X2_holds : GoodIn wsX3_refusalFor (wsV RX3 171 RX2 yX2_holds wsX2_holds) := goodIn_app (goodIn_of _ (by decide +kernel)) ggX3_refusalFor_X2_holds
theorem dX3_refusalFor_0 : decode cX3_refusalFor 0 = .ok (.aload_n 0, 1) := by decide +kernel
theorem dX3_refusalFor_1 : decode cX3_refusalFor 1 = .ok (.getfield 43, 3) := by decide +kernel
theorem dX3_refusalFor_4 : decode cX3_refusalFor 4 = .ok (.ifCond .eq 6, 3) := by decide +kernel
theorem dX3_refusalFor_7 : decode cX3_refusalFor 7 = .ok (.bipush (-105), 2) := by decide +kernel
theorem dX3_refusalFor_9 : decode cX3_refusalFor 9 = .ok (.ireturn, 1) := by decide +kernel
theorem dX3_refusalFor_10 : decode cX3_refusalFor 10 = .ok (.aload_n 0, 1) := by decide +kernel
theorem dX3_refusalFor_11 : decode cX3_refusalFor 11 = .ok (.getfield 26, 3) := by decide +kernel
theorem dX3_refusalFor_14 : decode cX3_refusalFor 14 = .ok (.iload_n 1, 1) := by decide +kernel
theorem dX3_refusalFor_15 : decode cX3_refusalFor 15 = .ok (.invokevirtual 171, 3) := by decide +kernel
theorem dX3_refusalFor_18 : decode cX3_refusalFor 18 = .ok (.ifCond .eq 7, 3) := by decide +kernel
theorem dX3_refusalFor_21 : decode cX3_refusalFor 21 = .ok (.iconst 0, 1) := by decide +kernel
theorem dX3_refusalFor_22 : decode cX3_refusalFor 22 = .ok (.goto 5, 3) := by decide +kernel
theorem dX3_refusalFor_25 : decode cX3_refusalFor 25 = .ok (.bipush (-101), 2) := by decide +kernel
theorem dX3_refusalFor_27 : decode cX3_refusalFor 27 = .ok (.ireturn, 1) := by decide +kernel
set_option maxRecDepth 20000 in
theorem ggX3_appendOfWork_X2_lastOf : GoodIn wsX3_appendOfWork wsX2_lastOf := goodIn_r _ [7, 8, 9, 10, 11, 6, 12, 13, 14, 107, 108, 109, 110, 111, 112] (by decide +kernel) (by decide +kernel)
set_option maxRecDepth 20000 in
theorem gX3_appendOfWork_X2_lastOf : GoodIn wsX3_appendOfWork (wsV RX3 84 RX2 yX2_lastOf wsX2_lastOf) := goodIn_app (goodIn_of _ (by decide +kernel)) ggX3_appendOfWork_X2_lastOf
set_option maxRecDepth 20000 in
theorem ggX3_appendOfWork_X0_append : GoodIn wsX3_appendOfWork wsX0_append := goodIn_r _ [19, 20, 21, 22, 23, 24, 25, 26, 27, 28, 29, 30, 31, 32, 33, 34, 35, 36, 37, 38, 39, 40, 41, 113, 114, 115, 116] (by decide +kernel) (by decide +kernel)
set_option maxRecDepth 20000 in
theorem gX3_appendOfWork_X0_append : GoodIn wsX3_appendOfWork (wsV RX3 87 RX0 yX0_append wsX0_append) := goodIn_app (goodIn_of _ (by decide +kernel)) ggX3_appendOfWork_X0_append
set_option maxRecDepth 20000 in
theorem ggX3_appendOfWork_X3_takeIntoTables : GoodIn wsX3_appendOfWork wsX3_takeIntoTables := goodIn_r _ [46, 1, 2, 47, 48, 49, 18, 50, 21, 51, 52, 53, 54, 20, 55, 56, 57, 6, 58, 13, 14, 59, 8, 60, 61, 62, 63, 64, 9, 10, 11, 12, 65, 66, 67, 68, 69, 70, 71, 72, 73, 74, 75, 76, 77, 78, 79, 80, 81, 82, 83, 84, 85, 86, 87, 88, 89, 90, 91, 92, 93, 94, 95, 96, 97, 98, 99, 100, 101, 102, 103, 104, 105, 106, 113, 114, 115, 116, 107, 108, 109, 110, 111, 112] (by decide +kernel) (by decide +kernel)
set_option maxRecDepth 20000 in
theorem gX3_appendOfWork_X3_takeIntoTables : GoodIn wsX3_appendOfWork (wsV RX3 91 RX3 yX3_takeIntoTables wsX3_takeIntoTables) := goodIn_app (goodIn_of _ (by decide +kernel)) ggX3_appendOfWork_X3_takeIntoTables
theorem dX3_appendOfWork_0 : decode cX3_appendOfWork 0 = .ok (.aload_n 0, 1) := by decide +kernel
theorem dX3_appendOfWork_1 : decode cX3_appendOfWork 1 = .ok (.getfield 10, 3) := by decide +kernel
theorem dX3_appendOfWork_4 : decode cX3_appendOfWork 4 = .ok (.iload_n 1, 1) := by decide +kernel
theorem dX3_appendOfWork_5 : decode cX3_appendOfWork 5 = .ok (.iload_n 2, 1) := by decide +kernel
theorem dX3_appendOfWork_6 : decode cX3_appendOfWork 6 = .ok (.aload_n 0, 1) := by decide +kernel
theorem dX3_appendOfWork_7 : decode cX3_appendOfWork 7 = .ok (.getfield 26, 3) := by decide +kernel
theorem dX3_appendOfWork_10 : decode cX3_appendOfWork 10 = .ok (.iload_n 2, 1) := by decide +kernel
theorem dX3_appendOfWork_11 : decode cX3_appendOfWork 11 = .ok (.invokevirtual 84, 3) := by decide +kernel
theorem dX3_appendOfWork_14 : decode cX3_appendOfWork 14 = .ok (.iconst 0, 1) := by decide +kernel
theorem dX3_appendOfWork_15 : decode cX3_appendOfWork 15 = .ok (.iconst 0, 1) := by decide +kernel
theorem dX3_appendOfWork_16 : decode cX3_appendOfWork 16 = .ok (.iconst 0, 1) := by decide +kernel
theorem dX3_appendOfWork_17 : decode cX3_appendOfWork 17 = .ok (.iconst 0, 1) := by decide +kernel
theorem dX3_appendOfWork_18 : decode cX3_appendOfWork 18 = .ok (.invokevirtual 87, 3) := by decide +kernel
theorem dX3_appendOfWork_21 : decode cX3_appendOfWork 21 = .ok (.istore_n 3, 1) := by decide +kernel
theorem dX3_appendOfWork_22 : decode cX3_appendOfWork 22 = .ok (.aload_n 0, 1) := by decide +kernel
theorem dX3_appendOfWork_23 : decode cX3_appendOfWork 23 = .ok (.iload_n 3, 1) := by decide +kernel
theorem dX3_appendOfWork_24 : decode cX3_appendOfWork 24 = .ok (.invokevirtual 91, 3) := by decide +kernel
theorem dX3_appendOfWork_27 : decode cX3_appendOfWork 27 = .ok (.iload_n 3, 1) := by decide +kernel
theorem dX3_appendOfWork_28 : decode cX3_appendOfWork 28 = .ok (.ireturn, 1) := by decide +kernel
set_option maxRecDepth 20000 in
theorem ggX3_undoDownTo_X0_recordsHeld : GoodIn wsX3_undoDownTo wsX0_recordsHeld := goodIn_r _ [7, 8, 138, 139, 140, 141] (by decide +kernel) (by decide +kernel)
set_option maxRecDepth 20000 in
theorem gX3_undoDownTo_X0_recordsHeld : GoodIn wsX3_undoDownTo (wsV RX3 147 RX0 yX0_recordsHeld wsX0_recordsHeld) := goodIn_app (goodIn_of _ (by decide +kernel)) ggX3_undoDownTo_X0_recordsHeld
set_option maxRecDepth 20000 in
theorem ggX3_undoDownTo_X2_nextOf : GoodIn wsX3_undoDownTo wsX2_nextOf := goodIn_r _ [13, 14, 15, 16, 17, 12, 18, 19, 20, 142, 143, 144, 145, 146, 147] (by decide +kernel) (by decide +kernel)
set_option maxRecDepth 20000 in
theorem gX3_undoDownTo_X2_nextOf : GoodIn wsX3_undoDownTo (wsV RX3 162 RX2 yX2_nextOf wsX2_nextOf) := goodIn_app (goodIn_of _ (by decide +kernel)) ggX3_undoDownTo_X2_nextOf
set_option maxRecDepth 20000 in
theorem ggX3_undoDownTo_X3_undoNext : GoodIn wsX3_undoDownTo wsX3_undoNext := goodIn_r _ [25, 2, 1, 9, 10, 11, 12, 13, 14, 15, 16, 17, 18, 19, 20, 26, 27, 28, 29, 30, 31, 32, 33, 6, 34, 35, 36, 37, 38, 39, 8, 40, 41, 42, 43, 44, 45, 46, 47, 48, 49, 50, 51, 52, 53, 54, 55, 56, 57, 58, 59, 60, 61, 62, 63, 64, 65, 66, 67, 68, 69, 70, 71, 24, 72, 73, 74, 75, 76, 77, 78, 79, 80, 81, 82, 83, 84, 85, 86, 87, 88, 89, 90, 91, 92, 93, 94, 95, 96, 97, 98, 99, 100, 101, 102, 103, 104, 105, 106, 107, 108, 109, 110, 111, 112, 113, 114, 115, 116, 117, 118, 119, 120, 121, 122, 123, 124, 125, 126, 127, 128, 129, 130, 131, 132, 133, 134, 135, 136, 137, 142, 143, 144, 145, 146, 147, 138, 139, 140, 141, 148, 149, 150, 151] (by decide +kernel) (by decide +kernel)
set_option maxRecDepth 20000 in
theorem gX3_undoDownTo_X3_undoNext : GoodIn wsX3_undoDownTo (wsV RX3 172 RX3 yX3_undoNext wsX3_undoNext) := goodIn_app (goodIn_of _ (by decide +kernel)) ggX3_undoDownTo_X3_undoNext
theorem dX3_undoDownTo_0 : decode cX3_undoDownTo 0 = .ok (.aload_n 0, 1) := by decide +kernel
theorem dX3_undoDownTo_1 : decode cX3_undoDownTo 1 = .ok (.getfield 10, 3) := by decide +kernel
theorem dX3_undoDownTo_4 : decode cX3_undoDownTo 4 = .ok (.invokevirtual 147, 3) := by decide +kernel
theorem dX3_undoDownTo_7 : decode cX3_undoDownTo 7 = .ok (.istore_n 3, 1) := by decide +kernel
theorem dX3_undoDownTo_8 : decode cX3_undoDownTo 8 = .ok (.iconst 0, 1) := by decide +kernel
theorem dX3_undoDownTo_9 : decode cX3_undoDownTo 9 = .ok (.istore 4, 2) := by decide +kernel
theorem dX3_undoDownTo_11 : decode cX3_undoDownTo 11 = .ok (.iload 4, 2) := by decide +kernel
theorem dX3_undoDownTo_13 : decode cX3_undoDownTo 13 = .ok (.iload_n 3, 1) := by decide +kernel
theorem dX3_undoDownTo_14 : decode cX3_undoDownTo 14 = .ok (.if_icmp .ge 26, 3) := by decide +kernel
theorem dX3_undoDownTo_17 : decode cX3_undoDownTo 17 = .ok (.aload_n 0, 1) := by decide +kernel
theorem dX3_undoDownTo_18 : decode cX3_undoDownTo 18 = .ok (.getfield 26, 3) := by decide +kernel
theorem dX3_undoDownTo_21 : decode cX3_undoDownTo 21 = .ok (.iload_n 1, 1) := by decide +kernel
theorem dX3_undoDownTo_22 : decode cX3_undoDownTo 22 = .ok (.invokevirtual 162, 3) := by decide +kernel
theorem dX3_undoDownTo_25 : decode cX3_undoDownTo 25 = .ok (.iload_n 2, 1) := by decide +kernel
theorem dX3_undoDownTo_26 : decode cX3_undoDownTo 26 = .ok (.if_icmp .le 14, 3) := by decide +kernel
theorem dX3_undoDownTo_29 : decode cX3_undoDownTo 29 = .ok (.aload_n 0, 1) := by decide +kernel
theorem dX3_undoDownTo_30 : decode cX3_undoDownTo 30 = .ok (.iload_n 1, 1) := by decide +kernel
theorem dX3_undoDownTo_31 : decode cX3_undoDownTo 31 = .ok (.invokevirtual 172, 3) := by decide +kernel
theorem dX3_undoDownTo_34 : decode cX3_undoDownTo 34 = .ok (.iinc 4 1, 3) := by decide +kernel
theorem dX3_undoDownTo_37 : decode cX3_undoDownTo 37 = .ok (.goto (-26), 3) := by decide +kernel
theorem dX3_undoDownTo_40 : decode cX3_undoDownTo 40 = .ok (.iload 4, 2) := by decide +kernel
theorem dX3_undoDownTo_42 : decode cX3_undoDownTo 42 = .ok (.ireturn, 1) := by decide +kernel
set_option maxRecDepth 20000 in
theorem ggX3_undoNext_X2_nextOf : GoodIn wsX3_undoNext wsX2_nextOf := goodIn_r _ [7, 8, 9, 10, 11, 6, 12, 13, 14, 130, 131, 132, 133, 134, 135] (by decide +kernel) (by decide +kernel)
set_option maxRecDepth 20000 in
theorem gX3_undoNext_X2_nextOf : GoodIn wsX3_undoNext (wsV RX3 162 RX2 yX2_nextOf wsX2_nextOf) := goodIn_app (goodIn_of _ (by decide +kernel)) ggX3_undoNext_X2_nextOf
set_option maxRecDepth 20000 in
theorem ggX3_undoNext_X2_lastOf : GoodIn wsX3_undoNext wsX2_lastOf := goodIn_r _ [18, 19, 9, 10, 11, 6, 12, 13, 14, 130, 131, 132, 133, 134, 135] (by decide +kernel) (by decide +kernel)
set_option maxRecDepth 20000 in
theorem gX3_undoNext_X2_lastOf : GoodIn wsX3_undoNext (wsV RX3 84 RX2 yX2_lastOf wsX2_lastOf) := goodIn_app (goodIn_of _ (by decide +kernel)) ggX3_undoNext_X2_lastOf
set_option maxRecDepth 20000 in
theorem ggX3_undoNext_X0_read : GoodIn wsX3_undoNext wsX0_read := goodIn_r _ [24, 25, 26, 27, 28, 23, 29, 30, 136, 137, 138, 139] (by decide +kernel) (by decide +kernel)
set_option maxRecDepth 20000 in
theorem gX3_undoNext_X0_read : GoodIn wsX3_undoNext (wsV RX3 168 RX0 yX0_read wsX0_read) := goodIn_app (goodIn_of _ (by decide +kernel)) ggX3_undoNext_X0_read
set_option maxRecDepth 20000 in
theorem ggX3_undoNext_X0_undoingBehind : GoodIn wsX3_undoNext wsX0_undoingBehind := goodIn_r _ [34, 35, 21, 22, 23, 24, 25, 26, 27, 28, 29, 30, 136, 137, 138, 139] (by decide +kernel) (by decide +kernel)
set_option maxRecDepth 20000 in
theorem gX3_undoNext_X0_undoingBehind : GoodIn wsX3_undoNext (wsV RX3 175 RX0 yX0_undoingBehind wsX0_undoingBehind) := goodIn_app (goodIn_of _ (by decide +kernel)) ggX3_undoNext_X0_undoingBehind
set_option maxRecDepth 20000 in
theorem ggX3_undoNext_X0_append : GoodIn wsX3_undoNext wsX0_append := goodIn_r _ [39, 30, 25, 40, 41, 42, 43, 44, 45, 46, 47, 48, 49, 50, 51, 52, 53, 54, 55, 56, 57, 58, 59, 136, 137, 138, 139] (by decide +kernel) (by decide +kernel)
set_option maxRecDepth 20000 in
theorem gX3_undoNext_X0_append : GoodIn wsX3_undoNext (wsV RX3 87 RX0 yX0_append wsX0_append) := goodIn_app (goodIn_of _ (by decide +kernel)) ggX3_undoNext_X0_append
set_option maxRecDepth 20000 in
theorem ggX3_undoNext_X3_takeIntoTables : GoodIn wsX3_undoNext wsX3_takeIntoTables := goodIn_r _ [64, 2, 1, 20, 21, 22, 23, 24, 25, 26, 27, 28, 29, 30, 65, 66, 67, 6, 68, 13, 14, 69, 19, 8, 70, 71, 72, 73, 9, 10, 11, 12, 74, 75, 76, 77, 78, 79, 80, 81, 82, 83, 84, 85, 86, 87, 88, 89, 90, 91, 92, 93, 94, 95, 96, 97, 98, 99, 100, 101, 102, 117, 118, 119, 120, 121, 122, 123, 124, 125, 126, 127, 128, 129, 136, 137, 138, 139, 130, 131, 132, 133, 134, 135] (by decide +kernel) (by decide +kernel)
set_option maxRecDepth 20000 in
theorem gX3_undoNext_X3_takeIntoTables : GoodIn wsX3_undoNext (wsV RX3 91 RX3 yX3_takeIntoTables wsX3_takeIntoTables) := goodIn_app (goodIn_of _ (by decide +kernel)) ggX3_undoNext_X3_takeIntoTables
set_option maxRecDepth 20000 in
theorem ggX3_undoNext_X3_carryOut : GoodIn wsX3_undoNext wsX3_carryOut := goodIn_r _ [106, 107, 2, 20, 21, 22, 23, 24, 25, 26, 27, 28, 29, 30, 108, 109, 110, 93, 111, 112, 113, 114, 115, 116, 117, 118, 119, 120, 121, 122, 123, 124, 125, 126, 127, 128, 129, 136, 137, 138, 139, 140, 141, 142, 143] (by decide +kernel) (by decide +kernel)
set_option maxRecDepth 20000 in
theorem gX3_undoNext_X3_carryOut : GoodIn wsX3_undoNext (wsV RX3 94 RX3 yX3_carryOut wsX3_carryOut) := goodIn_app (goodIn_of _ (by decide +kernel)) ggX3_undoNext_X3_carryOut
theorem dX3_undoNext_0 : decode cX3_undoNext 0 = .ok (.aload_n 0, 1) := by decide +kernel
theorem dX3_undoNext_1 : decode cX3_undoNext 1 = .ok (.getfield 26, 3) := by decide +kernel
theorem dX3_undoNext_4 : decode cX3_undoNext 4 = .ok (.iload_n 1, 1) := by decide +kernel
theorem dX3_undoNext_5 : decode cX3_undoNext 5 = .ok (.invokevirtual 162, 3) := by decide +kernel
theorem dX3_undoNext_8 : decode cX3_undoNext 8 = .ok (.istore_n 2, 1) := by decide +kernel
theorem dX3_undoNext_9 : decode cX3_undoNext 9 = .ok (.aload_n 0, 1) := by decide +kernel
theorem dX3_undoNext_10 : decode cX3_undoNext 10 = .ok (.getfield 10, 3) := by decide +kernel
theorem dX3_undoNext_13 : decode cX3_undoNext 13 = .ok (.iconst 2, 1) := by decide +kernel
theorem dX3_undoNext_14 : decode cX3_undoNext 14 = .ok (.iload_n 1, 1) := by decide +kernel
theorem dX3_undoNext_15 : decode cX3_undoNext 15 = .ok (.aload_n 0, 1) := by decide +kernel
theorem dX3_undoNext_16 : decode cX3_undoNext 16 = .ok (.getfield 26, 3) := by decide +kernel
theorem dX3_undoNext_19 : decode cX3_undoNext 19 = .ok (.iload_n 1, 1) := by decide +kernel
theorem dX3_undoNext_20 : decode cX3_undoNext 20 = .ok (.invokevirtual 84, 3) := by decide +kernel
theorem dX3_undoNext_23 : decode cX3_undoNext 23 = .ok (.aload_n 0, 1) := by decide +kernel
theorem dX3_undoNext_24 : decode cX3_undoNext 24 = .ok (.getfield 10, 3) := by decide +kernel
theorem dX3_undoNext_27 : decode cX3_undoNext 27 = .ok (.iload_n 2, 1) := by decide +kernel
theorem dX3_undoNext_28 : decode cX3_undoNext 28 = .ok (.iconst 3, 1) := by decide +kernel
theorem dX3_undoNext_29 : decode cX3_undoNext 29 = .ok (.invokevirtual 168, 3) := by decide +kernel
theorem dX3_undoNext_32 : decode cX3_undoNext 32 = .ok (.aload_n 0, 1) := by decide +kernel
theorem dX3_undoNext_33 : decode cX3_undoNext 33 = .ok (.getfield 10, 3) := by decide +kernel
theorem dX3_undoNext_36 : decode cX3_undoNext 36 = .ok (.iload_n 2, 1) := by decide +kernel
theorem dX3_undoNext_37 : decode cX3_undoNext 37 = .ok (.iconst 4, 1) := by decide +kernel
theorem dX3_undoNext_38 : decode cX3_undoNext 38 = .ok (.invokevirtual 168, 3) := by decide +kernel
theorem dX3_undoNext_41 : decode cX3_undoNext 41 = .ok (.aload_n 0, 1) := by decide +kernel
theorem dX3_undoNext_42 : decode cX3_undoNext 42 = .ok (.getfield 10, 3) := by decide +kernel
theorem dX3_undoNext_45 : decode cX3_undoNext 45 = .ok (.iload_n 2, 1) := by decide +kernel
theorem dX3_undoNext_46 : decode cX3_undoNext 46 = .ok (.iconst 5, 1) := by decide +kernel
theorem dX3_undoNext_47 : decode cX3_undoNext 47 = .ok (.invokevirtual 168, 3) := by decide +kernel
theorem dX3_undoNext_50 : decode cX3_undoNext 50 = .ok (.ineg, 1) := by decide +kernel
theorem dX3_undoNext_51 : decode cX3_undoNext 51 = .ok (.aload_n 0, 1) := by decide +kernel
theorem dX3_undoNext_52 : decode cX3_undoNext 52 = .ok (.getfield 10, 3) := by decide +kernel
theorem dX3_undoNext_55 : decode cX3_undoNext 55 = .ok (.iload_n 2, 1) := by decide +kernel
theorem dX3_undoNext_56 : decode cX3_undoNext 56 = .ok (.invokevirtual 175, 3) := by decide +kernel
theorem dX3_undoNext_59 : decode cX3_undoNext 59 = .ok (.invokevirtual 87, 3) := by decide +kernel
theorem dX3_undoNext_62 : decode cX3_undoNext 62 = .ok (.istore_n 3, 1) := by decide +kernel
theorem dX3_undoNext_63 : decode cX3_undoNext 63 = .ok (.aload_n 0, 1) := by decide +kernel
theorem dX3_undoNext_64 : decode cX3_undoNext 64 = .ok (.iload_n 3, 1) := by decide +kernel
theorem dX3_undoNext_65 : decode cX3_undoNext 65 = .ok (.invokevirtual 91, 3) := by decide +kernel
theorem dX3_undoNext_68 : decode cX3_undoNext 68 = .ok (.aload_n 0, 1) := by decide +kernel
theorem dX3_undoNext_69 : decode cX3_undoNext 69 = .ok (.iload_n 3, 1) := by decide +kernel
theorem dX3_undoNext_70 : decode cX3_undoNext 70 = .ok (.invokevirtual 94, 3) := by decide +kernel
theorem dX3_undoNext_73 : decode cX3_undoNext 73 = .ok (.return_, 1) := by decide +kernel
set_option maxRecDepth 20000 in
theorem ggX3_takeIntoTables_X0_read : GoodIn wsX3_takeIntoTables wsX0_read := goodIn_r _ [7, 8, 9, 10, 11, 6, 12, 13, 74, 75, 76, 77] (by decide +kernel) (by decide +kernel)
set_option maxRecDepth 20000 in
theorem gX3_takeIntoTables_X0_read : GoodIn wsX3_takeIntoTables (wsV RX3 168 RX0 yX0_read wsX0_read) := goodIn_app (goodIn_of _ (by decide +kernel)) ggX3_takeIntoTables_X0_read
set_option maxRecDepth 20000 in
theorem ggX3_takeIntoTables_X2_bringIn : GoodIn wsX3_takeIntoTables wsX2_bringIn := goodIn_r _ [18, 19, 20, 21, 22, 23, 24, 25, 26, 17, 27, 28, 29, 30, 31, 32, 33, 34, 35, 78, 79, 80, 81, 82, 83] (by decide +kernel) (by decide +kernel)
set_option maxRecDepth 20000 in
theorem gX3_takeIntoTables_X2_bringIn : GoodIn wsX3_takeIntoTables (wsV RX3 65 RX2 yX2_bringIn wsX2_bringIn) := goodIn_app (goodIn_of _ (by decide +kernel)) ggX3_takeIntoTables_X2_bringIn
set_option maxRecDepth 20000 in
theorem ggX3_takeIntoTables_X2_setLast : GoodIn wsX3_takeIntoTables wsX2_setLast := goodIn_r _ [39, 22, 28, 29, 30, 17, 31, 19, 20, 78, 79, 80, 81, 82, 83] (by decide +kernel) (by decide +kernel)
set_option maxRecDepth 20000 in
theorem gX3_takeIntoTables_X2_setLast : GoodIn wsX3_takeIntoTables (wsV RX3 178 RX2 yX2_setLast wsX2_setLast) := goodIn_app (goodIn_of _ (by decide +kernel)) ggX3_takeIntoTables_X2_setLast
set_option maxRecDepth 20000 in
theorem ggX3_takeIntoTables_X2_setNext : GoodIn wsX3_takeIntoTables wsX2_setNext := goodIn_r _ [43, 23, 28, 29, 30, 17, 31, 19, 20, 78, 79, 80, 81, 82, 83] (by decide +kernel) (by decide +kernel)
set_option maxRecDepth 20000 in
theorem gX3_takeIntoTables_X2_setNext : GoodIn wsX3_takeIntoTables (wsV RX3 182 RX2 yX2_setNext wsX2_setNext) := goodIn_app (goodIn_of _ (by decide +kernel)) ggX3_takeIntoTables_X2_setNext
set_option maxRecDepth 20000 in
theorem ggX3_takeIntoTables_X2_makeDirty : GoodIn wsX3_takeIntoTables wsX2_makeDirty := goodIn_r _ [47, 48, 49, 50, 51, 52, 78, 79, 80, 81, 82, 83] (by decide +kernel) (by decide +kernel)
set_option maxRecDepth 20000 in
theorem gX3_takeIntoTables_X2_makeDirty : GoodIn wsX3_takeIntoTables (wsV RX3 185 RX2 yX2_makeDirty wsX2_makeDirty) := goodIn_app (goodIn_of _ (by decide +kernel)) ggX3_takeIntoTables_X2_makeDirty
set_option maxRecDepth 20000 in
theorem ggX3_takeIntoTables_X2_setState : GoodIn wsX3_takeIntoTables wsX2_setState := goodIn_r _ [56, 21, 28, 29, 30, 17, 31, 19, 20, 78, 79, 80, 81, 82, 83] (by decide +kernel) (by decide +kernel)
set_option maxRecDepth 20000 in
theorem gX3_takeIntoTables_X2_setState : GoodIn wsX3_takeIntoTables (wsV RX3 188 RX2 yX2_setState wsX2_setState) := goodIn_app (goodIn_of _ (by decide +kernel)) ggX3_takeIntoTables_X2_setState
set_option maxRecDepth 20000 in
theorem ggX3_takeIntoTables_X2_takeOut : GoodIn wsX3_takeIntoTables wsX2_takeOut := goodIn_r _ [60, 19, 28, 29, 30, 17, 31, 20, 32, 33, 34, 35, 21, 22, 23, 78, 79, 80, 81, 82, 83] (by decide +kernel) (by decide +kernel)
set_option maxRecDepth 20000 in
theorem gX3_takeIntoTables_X2_takeOut : GoodIn wsX3_takeIntoTables (wsV RX3 191 RX2 yX2_takeOut wsX2_takeOut) := goodIn_app (goodIn_of _ (by decide +kernel)) ggX3_takeIntoTables_X2_takeOut
theorem dX3_takeIntoTables_0 : decode cX3_takeIntoTables 0 = .ok (.aload_n 0, 1) := by decide +kernel
theorem dX3_takeIntoTables_1 : decode cX3_takeIntoTables 1 = .ok (.getfield 10, 3) := by decide +kernel
theorem dX3_takeIntoTables_4 : decode cX3_takeIntoTables 4 = .ok (.iload_n 1, 1) := by decide +kernel
theorem dX3_takeIntoTables_5 : decode cX3_takeIntoTables 5 = .ok (.iconst 0, 1) := by decide +kernel
theorem dX3_takeIntoTables_6 : decode cX3_takeIntoTables 6 = .ok (.invokevirtual 168, 3) := by decide +kernel
theorem dX3_takeIntoTables_9 : decode cX3_takeIntoTables 9 = .ok (.istore_n 2, 1) := by decide +kernel
theorem dX3_takeIntoTables_10 : decode cX3_takeIntoTables 10 = .ok (.aload_n 0, 1) := by decide +kernel
theorem dX3_takeIntoTables_11 : decode cX3_takeIntoTables 11 = .ok (.getfield 10, 3) := by decide +kernel
theorem dX3_takeIntoTables_14 : decode cX3_takeIntoTables 14 = .ok (.iload_n 1, 1) := by decide +kernel
theorem dX3_takeIntoTables_15 : decode cX3_takeIntoTables 15 = .ok (.iconst 1, 1) := by decide +kernel
theorem dX3_takeIntoTables_16 : decode cX3_takeIntoTables 16 = .ok (.invokevirtual 168, 3) := by decide +kernel
theorem dX3_takeIntoTables_19 : decode cX3_takeIntoTables 19 = .ok (.istore_n 3, 1) := by decide +kernel
theorem dX3_takeIntoTables_20 : decode cX3_takeIntoTables 20 = .ok (.iload_n 3, 1) := by decide +kernel
theorem dX3_takeIntoTables_21 : decode cX3_takeIntoTables 21 = .ok (.ifCond .ne 4, 3) := by decide +kernel
theorem dX3_takeIntoTables_24 : decode cX3_takeIntoTables 24 = .ok (.return_, 1) := by decide +kernel
theorem dX3_takeIntoTables_25 : decode cX3_takeIntoTables 25 = .ok (.aload_n 0, 1) := by decide +kernel
theorem dX3_takeIntoTables_26 : decode cX3_takeIntoTables 26 = .ok (.getfield 26, 3) := by decide +kernel
theorem dX3_takeIntoTables_29 : decode cX3_takeIntoTables 29 = .ok (.iload_n 3, 1) := by decide +kernel
theorem dX3_takeIntoTables_30 : decode cX3_takeIntoTables 30 = .ok (.invokevirtual 65, 3) := by decide +kernel
theorem dX3_takeIntoTables_33 : decode cX3_takeIntoTables 33 = .ok (.aload_n 0, 1) := by decide +kernel
theorem dX3_takeIntoTables_34 : decode cX3_takeIntoTables 34 = .ok (.getfield 26, 3) := by decide +kernel
theorem dX3_takeIntoTables_37 : decode cX3_takeIntoTables 37 = .ok (.iload_n 3, 1) := by decide +kernel
theorem dX3_takeIntoTables_38 : decode cX3_takeIntoTables 38 = .ok (.iload_n 1, 1) := by decide +kernel
theorem dX3_takeIntoTables_39 : decode cX3_takeIntoTables 39 = .ok (.invokevirtual 178, 3) := by decide +kernel
theorem dX3_takeIntoTables_42 : decode cX3_takeIntoTables 42 = .ok (.iload_n 2, 1) := by decide +kernel
theorem dX3_takeIntoTables_43 : decode cX3_takeIntoTables 43 = .ok (.tableswitch 151 1 6 #[37, 66, 104, 116, 140, 128], 37) := by decide +kernel
theorem dX3_takeIntoTables_80 : decode cX3_takeIntoTables 80 = .ok (.aload_n 0, 1) := by decide +kernel
theorem dX3_takeIntoTables_81 : decode cX3_takeIntoTables 81 = .ok (.getfield 26, 3) := by decide +kernel
theorem dX3_takeIntoTables_84 : decode cX3_takeIntoTables 84 = .ok (.iload_n 3, 1) := by decide +kernel
theorem dX3_takeIntoTables_85 : decode cX3_takeIntoTables 85 = .ok (.iload_n 1, 1) := by decide +kernel
theorem dX3_takeIntoTables_86 : decode cX3_takeIntoTables 86 = .ok (.invokevirtual 182, 3) := by decide +kernel
theorem dX3_takeIntoTables_89 : decode cX3_takeIntoTables 89 = .ok (.aload_n 0, 1) := by decide +kernel
theorem dX3_takeIntoTables_90 : decode cX3_takeIntoTables 90 = .ok (.getfield 26, 3) := by decide +kernel
theorem dX3_takeIntoTables_93 : decode cX3_takeIntoTables 93 = .ok (.aload_n 0, 1) := by decide +kernel
theorem dX3_takeIntoTables_94 : decode cX3_takeIntoTables 94 = .ok (.getfield 10, 3) := by decide +kernel
theorem dX3_takeIntoTables_97 : decode cX3_takeIntoTables 97 = .ok (.iload_n 1, 1) := by decide +kernel
theorem dX3_takeIntoTables_98 : decode cX3_takeIntoTables 98 = .ok (.iconst 3, 1) := by decide +kernel
theorem dX3_takeIntoTables_99 : decode cX3_takeIntoTables 99 = .ok (.invokevirtual 168, 3) := by decide +kernel
theorem dX3_takeIntoTables_102 : decode cX3_takeIntoTables 102 = .ok (.iload_n 1, 1) := by decide +kernel
theorem dX3_takeIntoTables_103 : decode cX3_takeIntoTables 103 = .ok (.invokevirtual 185, 3) := by decide +kernel
theorem dX3_takeIntoTables_106 : decode cX3_takeIntoTables 106 = .ok (.goto 88, 3) := by decide +kernel
theorem dX3_takeIntoTables_109 : decode cX3_takeIntoTables 109 = .ok (.aload_n 0, 1) := by decide +kernel
theorem dX3_takeIntoTables_110 : decode cX3_takeIntoTables 110 = .ok (.getfield 26, 3) := by decide +kernel
theorem dX3_takeIntoTables_113 : decode cX3_takeIntoTables 113 = .ok (.iload_n 3, 1) := by decide +kernel
theorem dX3_takeIntoTables_114 : decode cX3_takeIntoTables 114 = .ok (.aload_n 0, 1) := by decide +kernel
theorem dX3_takeIntoTables_115 : decode cX3_takeIntoTables 115 = .ok (.getfield 10, 3) := by decide +kernel
theorem dX3_takeIntoTables_118 : decode cX3_takeIntoTables 118 = .ok (.iload_n 1, 1) := by decide +kernel
theorem dX3_takeIntoTables_119 : decode cX3_takeIntoTables 119 = .ok (.bipush 6, 2) := by decide +kernel
theorem dX3_takeIntoTables_121 : decode cX3_takeIntoTables 121 = .ok (.invokevirtual 168, 3) := by decide +kernel
theorem dX3_takeIntoTables_124 : decode cX3_takeIntoTables 124 = .ok (.invokevirtual 182, 3) := by decide +kernel
theorem dX3_takeIntoTables_127 : decode cX3_takeIntoTables 127 = .ok (.aload_n 0, 1) := by decide +kernel
theorem dX3_takeIntoTables_128 : decode cX3_takeIntoTables 128 = .ok (.getfield 26, 3) := by decide +kernel
theorem dX3_takeIntoTables_131 : decode cX3_takeIntoTables 131 = .ok (.aload_n 0, 1) := by decide +kernel
theorem dX3_takeIntoTables_132 : decode cX3_takeIntoTables 132 = .ok (.getfield 10, 3) := by decide +kernel
theorem dX3_takeIntoTables_135 : decode cX3_takeIntoTables 135 = .ok (.iload_n 1, 1) := by decide +kernel
theorem dX3_takeIntoTables_136 : decode cX3_takeIntoTables 136 = .ok (.iconst 3, 1) := by decide +kernel
theorem dX3_takeIntoTables_137 : decode cX3_takeIntoTables 137 = .ok (.invokevirtual 168, 3) := by decide +kernel
theorem dX3_takeIntoTables_140 : decode cX3_takeIntoTables 140 = .ok (.iload_n 1, 1) := by decide +kernel
theorem dX3_takeIntoTables_141 : decode cX3_takeIntoTables 141 = .ok (.invokevirtual 185, 3) := by decide +kernel
theorem dX3_takeIntoTables_144 : decode cX3_takeIntoTables 144 = .ok (.goto 50, 3) := by decide +kernel
theorem dX3_takeIntoTables_147 : decode cX3_takeIntoTables 147 = .ok (.aload_n 0, 1) := by decide +kernel
theorem dX3_takeIntoTables_148 : decode cX3_takeIntoTables 148 = .ok (.getfield 26, 3) := by decide +kernel
theorem dX3_takeIntoTables_151 : decode cX3_takeIntoTables 151 = .ok (.iload_n 3, 1) := by decide +kernel
theorem dX3_takeIntoTables_152 : decode cX3_takeIntoTables 152 = .ok (.iconst 4, 1) := by decide +kernel
theorem dX3_takeIntoTables_153 : decode cX3_takeIntoTables 153 = .ok (.invokevirtual 188, 3) := by decide +kernel
theorem dX3_takeIntoTables_156 : decode cX3_takeIntoTables 156 = .ok (.goto 38, 3) := by decide +kernel
theorem dX3_takeIntoTables_159 : decode cX3_takeIntoTables 159 = .ok (.aload_n 0, 1) := by decide +kernel
theorem dX3_takeIntoTables_160 : decode cX3_takeIntoTables 160 = .ok (.getfield 26, 3) := by decide +kernel
theorem dX3_takeIntoTables_163 : decode cX3_takeIntoTables 163 = .ok (.iload_n 3, 1) := by decide +kernel
theorem dX3_takeIntoTables_164 : decode cX3_takeIntoTables 164 = .ok (.iconst 2, 1) := by decide +kernel
theorem dX3_takeIntoTables_165 : decode cX3_takeIntoTables 165 = .ok (.invokevirtual 188, 3) := by decide +kernel
theorem dX3_takeIntoTables_168 : decode cX3_takeIntoTables 168 = .ok (.goto 26, 3) := by decide +kernel
theorem dX3_takeIntoTables_171 : decode cX3_takeIntoTables 171 = .ok (.aload_n 0, 1) := by decide +kernel
theorem dX3_takeIntoTables_172 : decode cX3_takeIntoTables 172 = .ok (.getfield 26, 3) := by decide +kernel
theorem dX3_takeIntoTables_175 : decode cX3_takeIntoTables 175 = .ok (.iload_n 3, 1) := by decide +kernel
theorem dX3_takeIntoTables_176 : decode cX3_takeIntoTables 176 = .ok (.iconst 3, 1) := by decide +kernel
theorem dX3_takeIntoTables_177 : decode cX3_takeIntoTables 177 = .ok (.invokevirtual 188, 3) := by decide +kernel
theorem dX3_takeIntoTables_180 : decode cX3_takeIntoTables 180 = .ok (.goto 14, 3) := by decide +kernel
theorem dX3_takeIntoTables_183 : decode cX3_takeIntoTables 183 = .ok (.aload_n 0, 1) := by decide +kernel
theorem dX3_takeIntoTables_184 : decode cX3_takeIntoTables 184 = .ok (.getfield 26, 3) := by decide +kernel
theorem dX3_takeIntoTables_187 : decode cX3_takeIntoTables 187 = .ok (.iload_n 3, 1) := by decide +kernel
theorem dX3_takeIntoTables_188 : decode cX3_takeIntoTables 188 = .ok (.invokevirtual 191, 3) := by decide +kernel
theorem dX3_takeIntoTables_191 : decode cX3_takeIntoTables 191 = .ok (.goto 3, 3) := by decide +kernel
theorem dX3_takeIntoTables_194 : decode cX3_takeIntoTables 194 = .ok (.return_, 1) := by decide +kernel
set_option maxRecDepth 20000 in
theorem ggX3_carryOut_X0_read : GoodIn wsX3_carryOut wsX0_read := goodIn_r _ [7, 8, 9, 10, 11, 6, 12, 13, 37, 38, 39, 40] (by decide +kernel) (by decide +kernel)
set_option maxRecDepth 20000 in
theorem gX3_carryOut_X0_read : GoodIn wsX3_carryOut (wsV RX3 168 RX0 yX0_read wsX0_read) := goodIn_app (goodIn_of _ (by decide +kernel)) ggX3_carryOut_X0_read
set_option maxRecDepth 20000 in
theorem ggX3_carryOut_X1_change : GoodIn wsX3_carryOut wsX1_change := goodIn_r _ [18, 19, 20, 21, 22, 17, 23, 41, 42, 43, 44] (by decide +kernel) (by decide +kernel)
set_option maxRecDepth 20000 in
theorem gX3_carryOut_X1_change : GoodIn wsX3_carryOut (wsV RX3 194 RX1 yX1_change wsX1_change) := goodIn_app (goodIn_of _ (by decide +kernel)) ggX3_carryOut_X1_change
theorem dX3_carryOut_0 : decode cX3_carryOut 0 = .ok (.aload_n 0, 1) := by decide +kernel
theorem dX3_carryOut_1 : decode cX3_carryOut 1 = .ok (.getfield 19, 3) := by decide +kernel
theorem dX3_carryOut_4 : decode cX3_carryOut 4 = .ok (.aload_n 0, 1) := by decide +kernel
theorem dX3_carryOut_5 : decode cX3_carryOut 5 = .ok (.getfield 10, 3) := by decide +kernel
theorem dX3_carryOut_8 : decode cX3_carryOut 8 = .ok (.iload_n 1, 1) := by decide +kernel
theorem dX3_carryOut_9 : decode cX3_carryOut 9 = .ok (.iconst 3, 1) := by decide +kernel
theorem dX3_carryOut_10 : decode cX3_carryOut 10 = .ok (.invokevirtual 168, 3) := by decide +kernel
theorem dX3_carryOut_13 : decode cX3_carryOut 13 = .ok (.aload_n 0, 1) := by decide +kernel
theorem dX3_carryOut_14 : decode cX3_carryOut 14 = .ok (.getfield 10, 3) := by decide +kernel
theorem dX3_carryOut_17 : decode cX3_carryOut 17 = .ok (.iload_n 1, 1) := by decide +kernel
theorem dX3_carryOut_18 : decode cX3_carryOut 18 = .ok (.iconst 4, 1) := by decide +kernel
theorem dX3_carryOut_19 : decode cX3_carryOut 19 = .ok (.invokevirtual 168, 3) := by decide +kernel
theorem dX3_carryOut_22 : decode cX3_carryOut 22 = .ok (.aload_n 0, 1) := by decide +kernel
theorem dX3_carryOut_23 : decode cX3_carryOut 23 = .ok (.getfield 10, 3) := by decide +kernel
theorem dX3_carryOut_26 : decode cX3_carryOut 26 = .ok (.iload_n 1, 1) := by decide +kernel
theorem dX3_carryOut_27 : decode cX3_carryOut 27 = .ok (.iconst 5, 1) := by decide +kernel
theorem dX3_carryOut_28 : decode cX3_carryOut 28 = .ok (.invokevirtual 168, 3) := by decide +kernel
theorem dX3_carryOut_31 : decode cX3_carryOut 31 = .ok (.iload_n 1, 1) := by decide +kernel
theorem dX3_carryOut_32 : decode cX3_carryOut 32 = .ok (.invokevirtual 194, 3) := by decide +kernel
theorem dX3_carryOut_35 : decode cX3_carryOut 35 = .ok (.return_, 1) := by decide +kernel
set_option maxRecDepth 20000 in
theorem ggX3_makeStep_X3_lookThrough : GoodIn wsX3_makeStep wsX3_lookThrough := goodIn_r _ [8, 9, 10, 3, 11, 12, 13, 14, 15, 16, 17, 18, 19, 20, 21, 22, 23, 24, 25, 26, 27, 28, 29, 30, 31, 32, 33, 34, 35, 36, 37, 38, 39, 40, 41, 42, 43, 44, 45, 46, 47, 48, 49, 50, 51, 52, 53, 54, 55, 56, 57, 58, 59, 60, 61, 62, 63, 64, 65, 66, 67, 68, 69, 70, 71, 72, 73, 74, 75, 76, 7, 77, 78, 79, 80, 81, 82, 83, 84, 85, 86, 190, 191, 192, 193, 194, 195, 196, 197, 198, 199, 200, 201, 202, 203, 204, 205, 206, 207, 208, 209, 210, 211, 212] (by decide +kernel) (by decide +kernel)
set_option maxRecDepth 20000 in
theorem gX3_makeStep_X3_lookThrough : GoodIn wsX3_makeStep (wsV RX3 198 RX3 yX3_lookThrough wsX3_lookThrough) := goodIn_app (goodIn_of _ (by decide +kernel)) ggX3_makeStep_X3_lookThrough
set_option maxRecDepth 20000 in
theorem ggX3_makeStep_X3_doAgainOrPassOver : GoodIn wsX3_makeStep wsX3_doAgainOrPassOver := goodIn_r _ [90, 10, 3, 91, 92, 93, 94, 95, 96, 15, 97, 98, 13, 14, 16, 17, 18, 19, 20, 21, 22, 12, 99, 100, 101, 26, 102, 33, 70, 71, 72, 73, 103, 104, 105, 106, 107, 108, 109, 110, 111, 7, 112, 113, 114, 115, 116, 117, 118, 119, 120, 190, 191, 192, 193, 194, 195, 196, 197, 198, 199, 200, 201, 202, 203, 204, 205, 206, 207, 208, 209, 210, 211, 212, 213, 214, 215, 216] (by decide +kernel) (by decide +kernel)
set_option maxRecDepth 20000 in
theorem gX3_makeStep_X3_doAgainOrPassOver : GoodIn wsX3_makeStep (wsV RX3 201 RX3 yX3_doAgainOrPassOver wsX3_doAgainOrPassOver) := goodIn_app (goodIn_of _ (by decide +kernel)) ggX3_makeStep_X3_doAgainOrPassOver
set_option maxRecDepth 20000 in
theorem ggX3_makeStep_X2_leastWorkIn : GoodIn wsX3_makeStep wsX2_leastWorkIn := goodIn_r _ [124, 28, 30, 29, 207, 208, 209, 210, 211, 212] (by decide +kernel) (by decide +kernel)
set_option maxRecDepth 20000 in
theorem gX3_makeStep_X2_leastWorkIn : GoodIn wsX3_makeStep (wsV RX3 204 RX2 yX2_leastWorkIn wsX2_leastWorkIn) := goodIn_app (goodIn_of _ (by decide +kernel)) ggX3_makeStep_X2_leastWorkIn
set_option maxRecDepth 20000 in
theorem ggX3_makeStep_X3_appendOfWork : GoodIn wsX3_makeStep wsX3_appendOfWork := goodIn_r _ [128, 10, 3, 129, 130, 131, 26, 132, 31, 38, 39, 40, 41, 28, 29, 133, 134, 135, 15, 136, 22, 17, 137, 138, 139, 140, 141, 142, 143, 144, 145, 146, 147, 148, 149, 150, 151, 152, 153, 154, 155, 156, 74, 75, 76, 7, 77, 12, 13, 14, 16, 18, 19, 20, 21, 78, 43, 44, 45, 30, 32, 46, 47, 48, 49, 50, 51, 52, 53, 79, 59, 60, 61, 80, 63, 64, 65, 81, 67, 68, 69, 33, 70, 71, 72, 73, 82, 55, 56, 57, 83, 84, 85, 86, 190, 191, 192, 193, 194, 195, 196, 197, 198, 199, 200, 201, 202, 207, 208, 209, 210, 211, 212, 203, 204, 205, 206] (by decide +kernel) (by decide +kernel)
set_option maxRecDepth 20000 in
theorem gX3_makeStep_X3_appendOfWork : GoodIn wsX3_makeStep (wsV RX3 101 RX3 yX3_appendOfWork wsX3_appendOfWork) := goodIn_app (goodIn_of _ (by decide +kernel)) ggX3_makeStep_X3_appendOfWork
set_option maxRecDepth 20000 in
theorem ggX3_makeStep_X2_workToUndo : GoodIn wsX3_makeStep wsX2_workToUndo := goodIn_r _ [160, 28, 30, 32, 29, 207, 208, 209, 210, 211, 212] (by decide +kernel) (by decide +kernel)
set_option maxRecDepth 20000 in
theorem gX3_makeStep_X2_workToUndo : GoodIn wsX3_makeStep (wsV RX3 207 RX2 yX2_workToUndo wsX2_workToUndo) := goodIn_app (goodIn_of _ (by decide +kernel)) ggX3_makeStep_X2_workToUndo
set_option maxRecDepth 20000 in
theorem ggX3_makeStep_X3_undoOrEnd : GoodIn wsX3_makeStep wsX3_undoOrEnd := goodIn_r _ [164, 3, 165, 166, 167, 168, 26, 169, 32, 38, 39, 40, 41, 28, 29, 170, 171, 172, 7, 173, 10, 129, 130, 131, 132, 31, 12, 13, 14, 15, 16, 17, 18, 19, 20, 21, 22, 174, 175, 176, 177, 98, 133, 134, 135, 136, 137, 138, 139, 140, 141, 142, 143, 144, 145, 146, 147, 148, 149, 150, 151, 152, 153, 154, 155, 156, 74, 75, 76, 77, 78, 43, 44, 45, 30, 46, 47, 48, 49, 50, 51, 52, 53, 79, 59, 60, 61, 80, 63, 64, 65, 81, 67, 68, 69, 33, 70, 71, 72, 73, 82, 55, 56, 57, 83, 84, 85, 86, 109, 110, 111, 112, 91, 113, 114, 115, 116, 117, 107, 118, 119, 120, 125, 126, 127, 128, 190, 191, 192, 193, 194, 195, 196, 197, 198, 199, 200, 201, 202, 207, 208, 209, 210, 211, 212, 203, 204, 205, 206, 213, 214, 215, 216] (by decide +kernel) (by decide +kernel)
set_option maxRecDepth 20000 in
theorem gX3_makeStep_X3_undoOrEnd : GoodIn wsX3_makeStep (wsV RX3 210 RX3 yX3_undoOrEnd wsX3_undoOrEnd) := goodIn_app (goodIn_of _ (by decide +kernel)) ggX3_makeStep_X3_undoOrEnd
set_option maxRecDepth 20000 in
theorem ggX3_makeStep_X3_passOverPartsWithoutSteps : GoodIn wsX3_makeStep wsX3_passOverPartsWithoutSteps := goodIn_r _ [181, 1, 2, 10, 3, 182, 183, 184, 15, 185, 22, 186, 187, 188, 26, 189, 33, 121, 122, 123, 124, 28, 30, 29, 157, 158, 159, 160, 32, 190, 191, 192, 193, 194, 195, 196, 197, 198, 199, 200, 201, 202, 203, 204, 205, 206, 207, 208, 209, 210, 211, 212] (by decide +kernel) (by decide +kernel)
set_option maxRecDepth 20000 in
theorem gX3_makeStep_X3_passOverPartsWithoutSteps : GoodIn wsX3_makeStep (wsV RX3 144 RX3 yX3_passOverPartsWithoutSteps wsX3_passOverPartsWithoutSteps) := goodIn_app (goodIn_of _ (by decide +kernel)) ggX3_makeStep_X3_passOverPartsWithoutSteps
theorem dX3_makeStep_0 : decode cX3_makeStep 0 = .ok (.aload_n 0, 1) := by decide +kernel
theorem dX3_makeStep_1 : decode cX3_makeStep 1 = .ok (.getfield 43, 3) := by decide +kernel
theorem dX3_makeStep_4 : decode cX3_makeStep 4 = .ok (.tableswitch 105 1 4 #[32, 53, 74, 91], 32) := by decide +kernel
theorem dX3_makeStep_36 : decode cX3_makeStep 36 = .ok (.aload_n 0, 1) := by decide +kernel
theorem dX3_makeStep_37 : decode cX3_makeStep 37 = .ok (.aload_n 0, 1) := by decide +kernel
theorem dX3_makeStep_38 : decode cX3_makeStep 38 = .ok (.getfield 46, 3) := by decide +kernel
theorem dX3_makeStep_41 : decode cX3_makeStep 41 = .ok (.invokevirtual 198, 3) := by decide +kernel
theorem dX3_makeStep_44 : decode cX3_makeStep 44 = .ok (.aload_n 0, 1) := by decide +kernel
theorem dX3_makeStep_45 : decode cX3_makeStep 45 = .ok (.dup, 1) := by decide +kernel
theorem dX3_makeStep_46 : decode cX3_makeStep 46 = .ok (.getfield 46, 3) := by decide +kernel
theorem dX3_makeStep_49 : decode cX3_makeStep 49 = .ok (.iconst 1, 1) := by decide +kernel
theorem dX3_makeStep_50 : decode cX3_makeStep 50 = .ok (.iadd, 1) := by decide +kernel
theorem dX3_makeStep_51 : decode cX3_makeStep 51 = .ok (.putfield 46, 3) := by decide +kernel
theorem dX3_makeStep_54 : decode cX3_makeStep 54 = .ok (.goto 55, 3) := by decide +kernel
theorem dX3_makeStep_57 : decode cX3_makeStep 57 = .ok (.aload_n 0, 1) := by decide +kernel
theorem dX3_makeStep_58 : decode cX3_makeStep 58 = .ok (.aload_n 0, 1) := by decide +kernel
theorem dX3_makeStep_59 : decode cX3_makeStep 59 = .ok (.getfield 46, 3) := by decide +kernel
theorem dX3_makeStep_62 : decode cX3_makeStep 62 = .ok (.invokevirtual 201, 3) := by decide +kernel
theorem dX3_makeStep_65 : decode cX3_makeStep 65 = .ok (.aload_n 0, 1) := by decide +kernel
theorem dX3_makeStep_66 : decode cX3_makeStep 66 = .ok (.dup, 1) := by decide +kernel
theorem dX3_makeStep_67 : decode cX3_makeStep 67 = .ok (.getfield 46, 3) := by decide +kernel
theorem dX3_makeStep_70 : decode cX3_makeStep 70 = .ok (.iconst 1, 1) := by decide +kernel
theorem dX3_makeStep_71 : decode cX3_makeStep 71 = .ok (.iadd, 1) := by decide +kernel
theorem dX3_makeStep_72 : decode cX3_makeStep 72 = .ok (.putfield 46, 3) := by decide +kernel
theorem dX3_makeStep_75 : decode cX3_makeStep 75 = .ok (.goto 34, 3) := by decide +kernel
theorem dX3_makeStep_78 : decode cX3_makeStep 78 = .ok (.aload_n 0, 1) := by decide +kernel
theorem dX3_makeStep_79 : decode cX3_makeStep 79 = .ok (.iconst 5, 1) := by decide +kernel
theorem dX3_makeStep_80 : decode cX3_makeStep 80 = .ok (.aload_n 0, 1) := by decide +kernel
theorem dX3_makeStep_81 : decode cX3_makeStep 81 = .ok (.getfield 26, 3) := by decide +kernel
theorem dX3_makeStep_84 : decode cX3_makeStep 84 = .ok (.iconst 4, 1) := by decide +kernel
theorem dX3_makeStep_85 : decode cX3_makeStep 85 = .ok (.invokevirtual 204, 3) := by decide +kernel
theorem dX3_makeStep_88 : decode cX3_makeStep 88 = .ok (.invokevirtual 101, 3) := by decide +kernel
theorem dX3_makeStep_91 : decode cX3_makeStep 91 = .ok (.pop, 1) := by decide +kernel
theorem dX3_makeStep_92 : decode cX3_makeStep 92 = .ok (.goto 17, 3) := by decide +kernel
theorem dX3_makeStep_95 : decode cX3_makeStep 95 = .ok (.aload_n 0, 1) := by decide +kernel
theorem dX3_makeStep_96 : decode cX3_makeStep 96 = .ok (.aload_n 0, 1) := by decide +kernel
theorem dX3_makeStep_97 : decode cX3_makeStep 97 = .ok (.getfield 26, 3) := by decide +kernel
theorem dX3_makeStep_100 : decode cX3_makeStep 100 = .ok (.invokevirtual 207, 3) := by decide +kernel
theorem dX3_makeStep_103 : decode cX3_makeStep 103 = .ok (.invokevirtual 210, 3) := by decide +kernel
theorem dX3_makeStep_106 : decode cX3_makeStep 106 = .ok (.goto 3, 3) := by decide +kernel
theorem dX3_makeStep_109 : decode cX3_makeStep 109 = .ok (.aload_n 0, 1) := by decide +kernel
theorem dX3_makeStep_110 : decode cX3_makeStep 110 = .ok (.invokevirtual 144, 3) := by decide +kernel
theorem dX3_makeStep_113 : decode cX3_makeStep 113 = .ok (.return_, 1) := by decide +kernel
set_option maxRecDepth 20000 in
theorem ggX3_passOverPartsWithoutSteps_X0_recordsHeld : GoodIn wsX3_passOverPartsWithoutSteps wsX0_recordsHeld := goodIn_r _ [9, 10, 42, 43, 44, 45] (by decide +kernel) (by decide +kernel)
set_option maxRecDepth 20000 in
theorem gX3_passOverPartsWithoutSteps_X0_recordsHeld : GoodIn wsX3_passOverPartsWithoutSteps (wsV RX3 147 RX0 yX0_recordsHeld wsX0_recordsHeld) := goodIn_app (goodIn_of _ (by decide +kernel)) ggX3_passOverPartsWithoutSteps_X0_recordsHeld
set_option maxRecDepth 20000 in
theorem ggX3_passOverPartsWithoutSteps_X2_leastBase : GoodIn wsX3_passOverPartsWithoutSteps wsX2_leastBase := goodIn_r _ [15, 16, 46, 47, 48, 49, 50, 51] (by decide +kernel) (by decide +kernel)
set_option maxRecDepth 20000 in
theorem gX3_passOverPartsWithoutSteps_X2_leastBase : GoodIn wsX3_passOverPartsWithoutSteps (wsV RX3 213 RX2 yX2_leastBase wsX2_leastBase) := goodIn_app (goodIn_of _ (by decide +kernel)) ggX3_passOverPartsWithoutSteps_X2_leastBase
set_option maxRecDepth 20000 in
theorem ggX3_passOverPartsWithoutSteps_X2_leastWorkIn : GoodIn wsX3_passOverPartsWithoutSteps wsX2_leastWorkIn := goodIn_r _ [20, 21, 22, 23, 46, 47, 48, 49, 50, 51] (by decide +kernel) (by decide +kernel)
set_option maxRecDepth 20000 in
theorem gX3_passOverPartsWithoutSteps_X2_leastWorkIn : GoodIn wsX3_passOverPartsWithoutSteps (wsV RX3 204 RX2 yX2_leastWorkIn wsX2_leastWorkIn) := goodIn_app (goodIn_of _ (by decide +kernel)) ggX3_passOverPartsWithoutSteps_X2_leastWorkIn
set_option maxRecDepth 20000 in
theorem ggX3_passOverPartsWithoutSteps_X2_workToUndo : GoodIn wsX3_passOverPartsWithoutSteps wsX2_workToUndo := goodIn_r _ [27, 21, 22, 28, 23, 46, 47, 48, 49, 50, 51] (by decide +kernel) (by decide +kernel)
set_option maxRecDepth 20000 in
theorem gX3_passOverPartsWithoutSteps_X2_workToUndo : GoodIn wsX3_passOverPartsWithoutSteps (wsV RX3 207 RX2 yX2_workToUndo wsX2_workToUndo) := goodIn_app (goodIn_of _ (by decide +kernel)) ggX3_passOverPartsWithoutSteps_X2_workToUndo
theorem dX3_passOverPartsWithoutSteps_0 : decode cX3_passOverPartsWithoutSteps 0 = .ok (.aload_n 0, 1) := by decide +kernel
theorem dX3_passOverPartsWithoutSteps_1 : decode cX3_passOverPartsWithoutSteps 1 = .ok (.getfield 43, 3) := by decide +kernel
theorem dX3_passOverPartsWithoutSteps_4 : decode cX3_passOverPartsWithoutSteps 4 = .ok (.iconst 1, 1) := by decide +kernel
theorem dX3_passOverPartsWithoutSteps_5 : decode cX3_passOverPartsWithoutSteps 5 = .ok (.if_icmp .ne 51, 3) := by decide +kernel
theorem dX3_passOverPartsWithoutSteps_8 : decode cX3_passOverPartsWithoutSteps 8 = .ok (.aload_n 0, 1) := by decide +kernel
theorem dX3_passOverPartsWithoutSteps_9 : decode cX3_passOverPartsWithoutSteps 9 = .ok (.getfield 46, 3) := by decide +kernel
theorem dX3_passOverPartsWithoutSteps_12 : decode cX3_passOverPartsWithoutSteps 12 = .ok (.aload_n 0, 1) := by decide +kernel
theorem dX3_passOverPartsWithoutSteps_13 : decode cX3_passOverPartsWithoutSteps 13 = .ok (.getfield 10, 3) := by decide +kernel
theorem dX3_passOverPartsWithoutSteps_16 : decode cX3_passOverPartsWithoutSteps 16 = .ok (.invokevirtual 147, 3) := by decide +kernel
theorem dX3_passOverPartsWithoutSteps_19 : decode cX3_passOverPartsWithoutSteps 19 = .ok (.if_icmp .le 37, 3) := by decide +kernel
theorem dX3_passOverPartsWithoutSteps_22 : decode cX3_passOverPartsWithoutSteps 22 = .ok (.aload_n 0, 1) := by decide +kernel
theorem dX3_passOverPartsWithoutSteps_23 : decode cX3_passOverPartsWithoutSteps 23 = .ok (.iconst 2, 1) := by decide +kernel
theorem dX3_passOverPartsWithoutSteps_24 : decode cX3_passOverPartsWithoutSteps 24 = .ok (.putfield 43, 3) := by decide +kernel
theorem dX3_passOverPartsWithoutSteps_27 : decode cX3_passOverPartsWithoutSteps 27 = .ok (.aload_n 0, 1) := by decide +kernel
theorem dX3_passOverPartsWithoutSteps_28 : decode cX3_passOverPartsWithoutSteps 28 = .ok (.getfield 26, 3) := by decide +kernel
theorem dX3_passOverPartsWithoutSteps_31 : decode cX3_passOverPartsWithoutSteps 31 = .ok (.invokevirtual 213, 3) := by decide +kernel
theorem dX3_passOverPartsWithoutSteps_34 : decode cX3_passOverPartsWithoutSteps 34 = .ok (.istore_n 1, 1) := by decide +kernel
theorem dX3_passOverPartsWithoutSteps_35 : decode cX3_passOverPartsWithoutSteps 35 = .ok (.aload_n 0, 1) := by decide +kernel
theorem dX3_passOverPartsWithoutSteps_36 : decode cX3_passOverPartsWithoutSteps 36 = .ok (.iload_n 1, 1) := by decide +kernel
theorem dX3_passOverPartsWithoutSteps_37 : decode cX3_passOverPartsWithoutSteps 37 = .ok (.ifCond .ne 15, 3) := by decide +kernel
theorem dX3_passOverPartsWithoutSteps_40 : decode cX3_passOverPartsWithoutSteps 40 = .ok (.aload_n 0, 1) := by decide +kernel
theorem dX3_passOverPartsWithoutSteps_41 : decode cX3_passOverPartsWithoutSteps 41 = .ok (.getfield 10, 3) := by decide +kernel
theorem dX3_passOverPartsWithoutSteps_44 : decode cX3_passOverPartsWithoutSteps 44 = .ok (.invokevirtual 147, 3) := by decide +kernel
theorem dX3_passOverPartsWithoutSteps_47 : decode cX3_passOverPartsWithoutSteps 47 = .ok (.iconst 1, 1) := by decide +kernel
theorem dX3_passOverPartsWithoutSteps_48 : decode cX3_passOverPartsWithoutSteps 48 = .ok (.iadd, 1) := by decide +kernel
theorem dX3_passOverPartsWithoutSteps_49 : decode cX3_passOverPartsWithoutSteps 49 = .ok (.goto 4, 3) := by decide +kernel
theorem dX3_passOverPartsWithoutSteps_52 : decode cX3_passOverPartsWithoutSteps 52 = .ok (.iload_n 1, 1) := by decide +kernel
theorem dX3_passOverPartsWithoutSteps_53 : decode cX3_passOverPartsWithoutSteps 53 = .ok (.putfield 46, 3) := by decide +kernel
theorem dX3_passOverPartsWithoutSteps_56 : decode cX3_passOverPartsWithoutSteps 56 = .ok (.aload_n 0, 1) := by decide +kernel
theorem dX3_passOverPartsWithoutSteps_57 : decode cX3_passOverPartsWithoutSteps 57 = .ok (.getfield 43, 3) := by decide +kernel
theorem dX3_passOverPartsWithoutSteps_60 : decode cX3_passOverPartsWithoutSteps 60 = .ok (.iconst 2, 1) := by decide +kernel
theorem dX3_passOverPartsWithoutSteps_61 : decode cX3_passOverPartsWithoutSteps 61 = .ok (.if_icmp .ne 22, 3) := by decide +kernel
theorem dX3_passOverPartsWithoutSteps_64 : decode cX3_passOverPartsWithoutSteps 64 = .ok (.aload_n 0, 1) := by decide +kernel
theorem dX3_passOverPartsWithoutSteps_65 : decode cX3_passOverPartsWithoutSteps 65 = .ok (.getfield 46, 3) := by decide +kernel
theorem dX3_passOverPartsWithoutSteps_68 : decode cX3_passOverPartsWithoutSteps 68 = .ok (.aload_n 0, 1) := by decide +kernel
theorem dX3_passOverPartsWithoutSteps_69 : decode cX3_passOverPartsWithoutSteps 69 = .ok (.getfield 10, 3) := by decide +kernel
theorem dX3_passOverPartsWithoutSteps_72 : decode cX3_passOverPartsWithoutSteps 72 = .ok (.invokevirtual 147, 3) := by decide +kernel
theorem dX3_passOverPartsWithoutSteps_75 : decode cX3_passOverPartsWithoutSteps 75 = .ok (.if_icmp .le 8, 3) := by decide +kernel
theorem dX3_passOverPartsWithoutSteps_78 : decode cX3_passOverPartsWithoutSteps 78 = .ok (.aload_n 0, 1) := by decide +kernel
theorem dX3_passOverPartsWithoutSteps_79 : decode cX3_passOverPartsWithoutSteps 79 = .ok (.iconst 3, 1) := by decide +kernel
theorem dX3_passOverPartsWithoutSteps_80 : decode cX3_passOverPartsWithoutSteps 80 = .ok (.putfield 43, 3) := by decide +kernel
theorem dX3_passOverPartsWithoutSteps_83 : decode cX3_passOverPartsWithoutSteps 83 = .ok (.aload_n 0, 1) := by decide +kernel
theorem dX3_passOverPartsWithoutSteps_84 : decode cX3_passOverPartsWithoutSteps 84 = .ok (.getfield 43, 3) := by decide +kernel
theorem dX3_passOverPartsWithoutSteps_87 : decode cX3_passOverPartsWithoutSteps 87 = .ok (.iconst 3, 1) := by decide +kernel
theorem dX3_passOverPartsWithoutSteps_88 : decode cX3_passOverPartsWithoutSteps 88 = .ok (.if_icmp .ne 19, 3) := by decide +kernel
theorem dX3_passOverPartsWithoutSteps_91 : decode cX3_passOverPartsWithoutSteps 91 = .ok (.aload_n 0, 1) := by decide +kernel
theorem dX3_passOverPartsWithoutSteps_92 : decode cX3_passOverPartsWithoutSteps 92 = .ok (.getfield 26, 3) := by decide +kernel
theorem dX3_passOverPartsWithoutSteps_95 : decode cX3_passOverPartsWithoutSteps 95 = .ok (.iconst 4, 1) := by decide +kernel
theorem dX3_passOverPartsWithoutSteps_96 : decode cX3_passOverPartsWithoutSteps 96 = .ok (.invokevirtual 204, 3) := by decide +kernel
theorem dX3_passOverPartsWithoutSteps_99 : decode cX3_passOverPartsWithoutSteps 99 = .ok (.ifCond .ne 8, 3) := by decide +kernel
theorem dX3_passOverPartsWithoutSteps_102 : decode cX3_passOverPartsWithoutSteps 102 = .ok (.aload_n 0, 1) := by decide +kernel
theorem dX3_passOverPartsWithoutSteps_103 : decode cX3_passOverPartsWithoutSteps 103 = .ok (.iconst 4, 1) := by decide +kernel
theorem dX3_passOverPartsWithoutSteps_104 : decode cX3_passOverPartsWithoutSteps 104 = .ok (.putfield 43, 3) := by decide +kernel
theorem dX3_passOverPartsWithoutSteps_107 : decode cX3_passOverPartsWithoutSteps 107 = .ok (.aload_n 0, 1) := by decide +kernel
theorem dX3_passOverPartsWithoutSteps_108 : decode cX3_passOverPartsWithoutSteps 108 = .ok (.getfield 43, 3) := by decide +kernel
theorem dX3_passOverPartsWithoutSteps_111 : decode cX3_passOverPartsWithoutSteps 111 = .ok (.iconst 4, 1) := by decide +kernel
theorem dX3_passOverPartsWithoutSteps_112 : decode cX3_passOverPartsWithoutSteps 112 = .ok (.if_icmp .ne 18, 3) := by decide +kernel
theorem dX3_passOverPartsWithoutSteps_115 : decode cX3_passOverPartsWithoutSteps 115 = .ok (.aload_n 0, 1) := by decide +kernel
theorem dX3_passOverPartsWithoutSteps_116 : decode cX3_passOverPartsWithoutSteps 116 = .ok (.getfield 26, 3) := by decide +kernel
theorem dX3_passOverPartsWithoutSteps_119 : decode cX3_passOverPartsWithoutSteps 119 = .ok (.invokevirtual 207, 3) := by decide +kernel
theorem dX3_passOverPartsWithoutSteps_122 : decode cX3_passOverPartsWithoutSteps 122 = .ok (.ifCond .ne 8, 3) := by decide +kernel
theorem dX3_passOverPartsWithoutSteps_125 : decode cX3_passOverPartsWithoutSteps 125 = .ok (.aload_n 0, 1) := by decide +kernel
theorem dX3_passOverPartsWithoutSteps_126 : decode cX3_passOverPartsWithoutSteps 126 = .ok (.iconst 0, 1) := by decide +kernel
theorem dX3_passOverPartsWithoutSteps_127 : decode cX3_passOverPartsWithoutSteps 127 = .ok (.putfield 43, 3) := by decide +kernel
theorem dX3_passOverPartsWithoutSteps_130 : decode cX3_passOverPartsWithoutSteps 130 = .ok (.return_, 1) := by decide +kernel
set_option maxRecDepth 20000 in
theorem ggX3_lookThrough_X0_read : GoodIn wsX3_lookThrough wsX0_read := goodIn_r _ [9, 10, 11, 12, 13, 8, 14, 15, 94, 95, 96, 97] (by decide +kernel) (by decide +kernel)
set_option maxRecDepth 20000 in
theorem gX3_lookThrough_X0_read : GoodIn wsX3_lookThrough (wsV RX3 168 RX0 yX0_read wsX0_read) := goodIn_app (goodIn_of _ (by decide +kernel)) ggX3_lookThrough_X0_read
set_option maxRecDepth 20000 in
theorem ggX3_lookThrough_X2_bringInMissing : GoodIn wsX3_lookThrough wsX2_bringInMissing := goodIn_r _ [20, 21, 22, 23, 24, 25, 26, 27, 28, 29, 19, 30, 31, 32, 33, 34, 35, 36, 37, 38, 39, 40, 41, 42, 43, 44, 45, 46, 47, 48, 49, 50, 51, 52, 53, 54, 55, 56, 57, 58, 59, 60, 61, 62, 63, 64, 65, 66, 98, 99, 100, 101, 102, 103] (by decide +kernel) (by decide +kernel)
set_option maxRecDepth 20000 in
theorem gX3_lookThrough_X2_bringInMissing : GoodIn wsX3_lookThrough (wsV RX3 216 RX2 yX2_bringInMissing wsX2_bringInMissing) := goodIn_app (goodIn_of _ (by decide +kernel)) ggX3_lookThrough_X2_bringInMissing
set_option maxRecDepth 20000 in
theorem ggX3_lookThrough_X3_takeIntoTables : GoodIn wsX3_lookThrough wsX3_takeIntoTables := goodIn_r _ [71, 2, 3, 5, 6, 7, 8, 9, 10, 11, 12, 13, 14, 15, 72, 36, 37, 19, 38, 21, 22, 23, 24, 25, 39, 40, 41, 42, 31, 32, 33, 34, 43, 44, 45, 46, 73, 52, 53, 54, 74, 56, 57, 58, 75, 60, 61, 62, 26, 63, 64, 65, 66, 76, 48, 49, 50, 77, 78, 79, 80, 81, 82, 83, 84, 85, 86, 87, 88, 89, 90, 91, 92, 93, 94, 95, 96, 97, 98, 99, 100, 101, 102, 103] (by decide +kernel) (by decide +kernel)
set_option maxRecDepth 20000 in
theorem gX3_lookThrough_X3_takeIntoTables : GoodIn wsX3_lookThrough (wsV RX3 91 RX3 yX3_takeIntoTables wsX3_takeIntoTables) := goodIn_app (goodIn_of _ (by decide +kernel)) ggX3_lookThrough_X3_takeIntoTables
theorem dX3_lookThrough_0 : decode cX3_lookThrough 0 = .ok (.aload_n 0, 1) := by decide +kernel
theorem dX3_lookThrough_1 : decode cX3_lookThrough 1 = .ok (.dup, 1) := by decide +kernel
theorem dX3_lookThrough_2 : decode cX3_lookThrough 2 = .ok (.getfield 49, 3) := by decide +kernel
theorem dX3_lookThrough_5 : decode cX3_lookThrough 5 = .ok (.iconst 1, 1) := by decide +kernel
theorem dX3_lookThrough_6 : decode cX3_lookThrough 6 = .ok (.iadd, 1) := by decide +kernel
theorem dX3_lookThrough_7 : decode cX3_lookThrough 7 = .ok (.putfield 49, 3) := by decide +kernel
theorem dX3_lookThrough_10 : decode cX3_lookThrough 10 = .ok (.aload_n 0, 1) := by decide +kernel
theorem dX3_lookThrough_11 : decode cX3_lookThrough 11 = .ok (.getfield 10, 3) := by decide +kernel
theorem dX3_lookThrough_14 : decode cX3_lookThrough 14 = .ok (.iload_n 1, 1) := by decide +kernel
theorem dX3_lookThrough_15 : decode cX3_lookThrough 15 = .ok (.iconst 0, 1) := by decide +kernel
theorem dX3_lookThrough_16 : decode cX3_lookThrough 16 = .ok (.invokevirtual 168, 3) := by decide +kernel
theorem dX3_lookThrough_19 : decode cX3_lookThrough 19 = .ok (.bipush 8, 2) := by decide +kernel
theorem dX3_lookThrough_21 : decode cX3_lookThrough 21 = .ok (.if_icmp .ne 17, 3) := by decide +kernel
theorem dX3_lookThrough_24 : decode cX3_lookThrough 24 = .ok (.aload_n 0, 1) := by decide +kernel
theorem dX3_lookThrough_25 : decode cX3_lookThrough 25 = .ok (.getfield 26, 3) := by decide +kernel
theorem dX3_lookThrough_28 : decode cX3_lookThrough 28 = .ok (.aload_n 0, 1) := by decide +kernel
theorem dX3_lookThrough_29 : decode cX3_lookThrough 29 = .ok (.getfield 30, 3) := by decide +kernel
theorem dX3_lookThrough_32 : decode cX3_lookThrough 32 = .ok (.invokevirtual 216, 3) := by decide +kernel
theorem dX3_lookThrough_35 : decode cX3_lookThrough 35 = .ok (.goto 8, 3) := by decide +kernel
theorem dX3_lookThrough_38 : decode cX3_lookThrough 38 = .ok (.aload_n 0, 1) := by decide +kernel
theorem dX3_lookThrough_39 : decode cX3_lookThrough 39 = .ok (.iload_n 1, 1) := by decide +kernel
theorem dX3_lookThrough_40 : decode cX3_lookThrough 40 = .ok (.invokevirtual 91, 3) := by decide +kernel
theorem dX3_lookThrough_43 : decode cX3_lookThrough 43 = .ok (.return_, 1) := by decide +kernel
set_option maxRecDepth 20000 in
theorem ggX3_doAgainOrPassOver_X0_changesPage : GoodIn wsX3_doAgainOrPassOver wsX0_changesPage := goodIn_r _ [10, 11, 12, 13, 9, 14, 15, 16, 17, 18, 19, 20, 64, 65, 66, 67] (by decide +kernel) (by decide +kernel)
set_option maxRecDepth 20000 in
theorem gX3_doAgainOrPassOver_X0_changesPage : GoodIn wsX3_doAgainOrPassOver (wsV RX3 219 RX0 yX0_changesPage wsX0_changesPage) := goodIn_app (goodIn_of _ (by decide +kernel)) ggX3_doAgainOrPassOver_X0_changesPage
set_option maxRecDepth 20000 in
theorem ggX3_doAgainOrPassOver_X0_read : GoodIn wsX3_doAgainOrPassOver wsX0_read := goodIn_r _ [14, 15, 16, 17, 18, 9, 19, 20, 64, 65, 66, 67] (by decide +kernel) (by decide +kernel)
set_option maxRecDepth 20000 in
theorem gX3_doAgainOrPassOver_X0_read : GoodIn wsX3_doAgainOrPassOver (wsV RX3 168 RX0 yX0_read wsX0_read) := goodIn_app (goodIn_of _ (by decide +kernel)) ggX3_doAgainOrPassOver_X0_read
set_option maxRecDepth 20000 in
theorem ggX3_doAgainOrPassOver_X2_baseOf : GoodIn wsX3_doAgainOrPassOver wsX2_baseOf := goodIn_r _ [26, 27, 28, 29, 30, 31, 68, 69, 70, 71, 72, 73] (by decide +kernel) (by decide +kernel)
set_option maxRecDepth 20000 in
theorem gX3_doAgainOrPassOver_X2_baseOf : GoodIn wsX3_doAgainOrPassOver (wsV RX3 111 RX2 yX2_baseOf wsX2_baseOf) := goodIn_app (goodIn_of _ (by decide +kernel)) ggX3_doAgainOrPassOver_X2_baseOf
set_option maxRecDepth 20000 in
theorem ggX3_doAgainOrPassOver_X1_markOf : GoodIn wsX3_doAgainOrPassOver wsX1_markOf := goodIn_r _ [35, 36, 37, 29, 30, 31, 74, 75, 76, 77] (by decide +kernel) (by decide +kernel)
set_option maxRecDepth 20000 in
theorem gX3_doAgainOrPassOver_X1_markOf : GoodIn wsX3_doAgainOrPassOver (wsV RX3 114 RX1 yX1_markOf wsX1_markOf) := goodIn_app (goodIn_of _ (by decide +kernel)) ggX3_doAgainOrPassOver_X1_markOf
set_option maxRecDepth 20000 in
theorem ggX3_doAgainOrPassOver_X3_carryOut : GoodIn wsX3_doAgainOrPassOver wsX3_carryOut := goodIn_r _ [42, 3, 1, 21, 12, 13, 9, 14, 15, 16, 17, 18, 19, 20, 43, 44, 45, 30, 46, 47, 36, 48, 49, 50, 51, 52, 53, 54, 55, 56, 57, 58, 59, 60, 61, 62, 63, 64, 65, 66, 67, 74, 75, 76, 77] (by decide +kernel) (by decide +kernel)
set_option maxRecDepth 20000 in
theorem gX3_doAgainOrPassOver_X3_carryOut : GoodIn wsX3_doAgainOrPassOver (wsV RX3 94 RX3 yX3_carryOut wsX3_carryOut) := goodIn_app (goodIn_of _ (by decide +kernel)) ggX3_doAgainOrPassOver_X3_carryOut
theorem dX3_doAgainOrPassOver_0 : decode cX3_doAgainOrPassOver 0 = .ok (.aload_n 0, 1) := by decide +kernel
theorem dX3_doAgainOrPassOver_1 : decode cX3_doAgainOrPassOver 1 = .ok (.getfield 10, 3) := by decide +kernel
theorem dX3_doAgainOrPassOver_4 : decode cX3_doAgainOrPassOver 4 = .ok (.iload_n 1, 1) := by decide +kernel
theorem dX3_doAgainOrPassOver_5 : decode cX3_doAgainOrPassOver 5 = .ok (.invokevirtual 219, 3) := by decide +kernel
theorem dX3_doAgainOrPassOver_8 : decode cX3_doAgainOrPassOver 8 = .ok (.ifCond .ne 4, 3) := by decide +kernel
theorem dX3_doAgainOrPassOver_11 : decode cX3_doAgainOrPassOver 11 = .ok (.return_, 1) := by decide +kernel
theorem dX3_doAgainOrPassOver_12 : decode cX3_doAgainOrPassOver 12 = .ok (.aload_n 0, 1) := by decide +kernel
theorem dX3_doAgainOrPassOver_13 : decode cX3_doAgainOrPassOver 13 = .ok (.getfield 10, 3) := by decide +kernel
theorem dX3_doAgainOrPassOver_16 : decode cX3_doAgainOrPassOver 16 = .ok (.iload_n 1, 1) := by decide +kernel
theorem dX3_doAgainOrPassOver_17 : decode cX3_doAgainOrPassOver 17 = .ok (.iconst 3, 1) := by decide +kernel
theorem dX3_doAgainOrPassOver_18 : decode cX3_doAgainOrPassOver 18 = .ok (.invokevirtual 168, 3) := by decide +kernel
theorem dX3_doAgainOrPassOver_21 : decode cX3_doAgainOrPassOver 21 = .ok (.istore_n 2, 1) := by decide +kernel
theorem dX3_doAgainOrPassOver_22 : decode cX3_doAgainOrPassOver 22 = .ok (.aload_n 0, 1) := by decide +kernel
theorem dX3_doAgainOrPassOver_23 : decode cX3_doAgainOrPassOver 23 = .ok (.getfield 26, 3) := by decide +kernel
theorem dX3_doAgainOrPassOver_26 : decode cX3_doAgainOrPassOver 26 = .ok (.iload_n 2, 1) := by decide +kernel
theorem dX3_doAgainOrPassOver_27 : decode cX3_doAgainOrPassOver 27 = .ok (.invokevirtual 111, 3) := by decide +kernel
theorem dX3_doAgainOrPassOver_30 : decode cX3_doAgainOrPassOver 30 = .ok (.istore_n 3, 1) := by decide +kernel
theorem dX3_doAgainOrPassOver_31 : decode cX3_doAgainOrPassOver 31 = .ok (.iload_n 3, 1) := by decide +kernel
theorem dX3_doAgainOrPassOver_32 : decode cX3_doAgainOrPassOver 32 = .ok (.ifCond .eq 38, 3) := by decide +kernel
theorem dX3_doAgainOrPassOver_35 : decode cX3_doAgainOrPassOver 35 = .ok (.iload_n 3, 1) := by decide +kernel
theorem dX3_doAgainOrPassOver_36 : decode cX3_doAgainOrPassOver 36 = .ok (.iload_n 1, 1) := by decide +kernel
theorem dX3_doAgainOrPassOver_37 : decode cX3_doAgainOrPassOver 37 = .ok (.if_icmp .gt 33, 3) := by decide +kernel
theorem dX3_doAgainOrPassOver_40 : decode cX3_doAgainOrPassOver 40 = .ok (.aload_n 0, 1) := by decide +kernel
theorem dX3_doAgainOrPassOver_41 : decode cX3_doAgainOrPassOver 41 = .ok (.getfield 19, 3) := by decide +kernel
theorem dX3_doAgainOrPassOver_44 : decode cX3_doAgainOrPassOver 44 = .ok (.iload_n 2, 1) := by decide +kernel
theorem dX3_doAgainOrPassOver_45 : decode cX3_doAgainOrPassOver 45 = .ok (.invokevirtual 114, 3) := by decide +kernel
theorem dX3_doAgainOrPassOver_48 : decode cX3_doAgainOrPassOver 48 = .ok (.iload_n 1, 1) := by decide +kernel
theorem dX3_doAgainOrPassOver_49 : decode cX3_doAgainOrPassOver 49 = .ok (.if_icmp .ge 21, 3) := by decide +kernel
theorem dX3_doAgainOrPassOver_52 : decode cX3_doAgainOrPassOver 52 = .ok (.aload_n 0, 1) := by decide +kernel
theorem dX3_doAgainOrPassOver_53 : decode cX3_doAgainOrPassOver 53 = .ok (.iload_n 1, 1) := by decide +kernel
theorem dX3_doAgainOrPassOver_54 : decode cX3_doAgainOrPassOver 54 = .ok (.invokevirtual 94, 3) := by decide +kernel
theorem dX3_doAgainOrPassOver_57 : decode cX3_doAgainOrPassOver 57 = .ok (.aload_n 0, 1) := by decide +kernel
theorem dX3_doAgainOrPassOver_58 : decode cX3_doAgainOrPassOver 58 = .ok (.dup, 1) := by decide +kernel
theorem dX3_doAgainOrPassOver_59 : decode cX3_doAgainOrPassOver 59 = .ok (.getfield 52, 3) := by decide +kernel
theorem dX3_doAgainOrPassOver_62 : decode cX3_doAgainOrPassOver 62 = .ok (.iconst 1, 1) := by decide +kernel
theorem dX3_doAgainOrPassOver_63 : decode cX3_doAgainOrPassOver 63 = .ok (.iadd, 1) := by decide +kernel
theorem dX3_doAgainOrPassOver_64 : decode cX3_doAgainOrPassOver 64 = .ok (.putfield 52, 3) := by decide +kernel
theorem dX3_doAgainOrPassOver_67 : decode cX3_doAgainOrPassOver 67 = .ok (.goto 13, 3) := by decide +kernel
theorem dX3_doAgainOrPassOver_70 : decode cX3_doAgainOrPassOver 70 = .ok (.aload_n 0, 1) := by decide +kernel
theorem dX3_doAgainOrPassOver_71 : decode cX3_doAgainOrPassOver 71 = .ok (.dup, 1) := by decide +kernel
theorem dX3_doAgainOrPassOver_72 : decode cX3_doAgainOrPassOver 72 = .ok (.getfield 55, 3) := by decide +kernel
theorem dX3_doAgainOrPassOver_75 : decode cX3_doAgainOrPassOver 75 = .ok (.iconst 1, 1) := by decide +kernel
theorem dX3_doAgainOrPassOver_76 : decode cX3_doAgainOrPassOver 76 = .ok (.iadd, 1) := by decide +kernel
theorem dX3_doAgainOrPassOver_77 : decode cX3_doAgainOrPassOver 77 = .ok (.putfield 55, 3) := by decide +kernel
theorem dX3_doAgainOrPassOver_80 : decode cX3_doAgainOrPassOver 80 = .ok (.return_, 1) := by decide +kernel
set_option maxRecDepth 20000 in
theorem ggX3_undoOrEnd_X2_nextOf : GoodIn wsX3_undoOrEnd wsX2_nextOf := goodIn_r _ [7, 8, 9, 10, 11, 6, 12, 13, 14, 139, 140, 141, 142, 143, 144] (by decide +kernel) (by decide +kernel)
set_option maxRecDepth 20000 in
theorem gX3_undoOrEnd_X2_nextOf : GoodIn wsX3_undoOrEnd (wsV RX3 162 RX2 yX2_nextOf wsX2_nextOf) := goodIn_app (goodIn_of _ (by decide +kernel)) ggX3_undoOrEnd_X2_nextOf
set_option maxRecDepth 20000 in
theorem ggX3_undoOrEnd_X3_undoNext : GoodIn wsX3_undoOrEnd wsX3_undoNext := goodIn_r _ [19, 1, 20, 3, 4, 5, 6, 7, 8, 9, 10, 11, 12, 13, 14, 21, 22, 23, 24, 25, 26, 27, 28, 29, 30, 31, 32, 33, 34, 35, 36, 37, 38, 39, 40, 41, 42, 43, 44, 45, 46, 47, 48, 49, 50, 51, 52, 53, 54, 55, 56, 57, 58, 59, 60, 61, 62, 63, 64, 65, 66, 67, 68, 18, 69, 70, 71, 72, 73, 74, 75, 76, 77, 78, 79, 80, 81, 82, 83, 84, 85, 86, 87, 88, 89, 90, 91, 92, 93, 94, 95, 96, 97, 98, 99, 100, 101, 102, 103, 104, 105, 106, 107, 108, 109, 110, 111, 112, 113, 114, 115, 116, 117, 118, 119, 120, 121, 126, 127, 128, 129, 130, 131, 132, 133, 134, 135, 136, 137, 138, 139, 140, 141, 142, 143, 144, 145, 146, 147, 148, 149, 150, 151, 152] (by decide +kernel) (by decide +kernel)
set_option maxRecDepth 20000 in
theorem gX3_undoOrEnd_X3_undoNext : GoodIn wsX3_undoOrEnd (wsV RX3 172 RX3 yX3_undoNext wsX3_undoNext) := goodIn_app (goodIn_of _ (by decide +kernel)) ggX3_undoOrEnd_X3_undoNext
set_option maxRecDepth 20000 in
theorem ggX3_undoOrEnd_X3_appendOfWork : GoodIn wsX3_undoOrEnd wsX3_appendOfWork := goodIn_r _ [125, 20, 1, 21, 22, 23, 6, 24, 25, 9, 10, 11, 12, 13, 14, 42, 43, 44, 29, 45, 36, 31, 46, 47, 48, 49, 50, 51, 52, 53, 54, 55, 56, 57, 58, 59, 60, 61, 62, 63, 64, 65, 66, 67, 68, 18, 69, 26, 27, 28, 30, 32, 33, 34, 35, 70, 71, 72, 73, 74, 8, 75, 76, 77, 78, 79, 80, 81, 82, 83, 84, 85, 86, 87, 88, 89, 90, 91, 92, 93, 94, 95, 96, 97, 98, 99, 100, 101, 102, 103, 104, 105, 106, 107, 126, 127, 128, 129, 130, 131, 132, 133, 134, 135, 136, 137, 138, 139, 140, 141, 142, 143, 144, 145, 146, 147, 148] (by decide +kernel) (by decide +kernel)
set_option maxRecDepth 20000 in
theorem gX3_undoOrEnd_X3_appendOfWork : GoodIn wsX3_undoOrEnd (wsV RX3 101 RX3 yX3_appendOfWork wsX3_appendOfWork) := goodIn_app (goodIn_of _ (by decide +kernel)) ggX3_undoOrEnd_X3_appendOfWork
theorem dX3_undoOrEnd_0 : decode cX3_undoOrEnd 0 = .ok (.aload_n 0, 1) := by decide +kernel
theorem dX3_undoOrEnd_1 : decode cX3_undoOrEnd 1 = .ok (.getfield 26, 3) := by decide +kernel
theorem dX3_undoOrEnd_4 : decode cX3_undoOrEnd 4 = .ok (.iload_n 1, 1) := by decide +kernel
theorem dX3_undoOrEnd_5 : decode cX3_undoOrEnd 5 = .ok (.invokevirtual 162, 3) := by decide +kernel
theorem dX3_undoOrEnd_8 : decode cX3_undoOrEnd 8 = .ok (.ifCond .le 21, 3) := by decide +kernel
theorem dX3_undoOrEnd_11 : decode cX3_undoOrEnd 11 = .ok (.aload_n 0, 1) := by decide +kernel
theorem dX3_undoOrEnd_12 : decode cX3_undoOrEnd 12 = .ok (.iload_n 1, 1) := by decide +kernel
theorem dX3_undoOrEnd_13 : decode cX3_undoOrEnd 13 = .ok (.invokevirtual 172, 3) := by decide +kernel
theorem dX3_undoOrEnd_16 : decode cX3_undoOrEnd 16 = .ok (.aload_n 0, 1) := by decide +kernel
theorem dX3_undoOrEnd_17 : decode cX3_undoOrEnd 17 = .ok (.dup, 1) := by decide +kernel
theorem dX3_undoOrEnd_18 : decode cX3_undoOrEnd 18 = .ok (.getfield 58, 3) := by decide +kernel
theorem dX3_undoOrEnd_21 : decode cX3_undoOrEnd 21 = .ok (.iconst 1, 1) := by decide +kernel
theorem dX3_undoOrEnd_22 : decode cX3_undoOrEnd 22 = .ok (.iadd, 1) := by decide +kernel
theorem dX3_undoOrEnd_23 : decode cX3_undoOrEnd 23 = .ok (.putfield 58, 3) := by decide +kernel
theorem dX3_undoOrEnd_26 : decode cX3_undoOrEnd 26 = .ok (.goto 10, 3) := by decide +kernel
theorem dX3_undoOrEnd_29 : decode cX3_undoOrEnd 29 = .ok (.aload_n 0, 1) := by decide +kernel
theorem dX3_undoOrEnd_30 : decode cX3_undoOrEnd 30 = .ok (.iconst 5, 1) := by decide +kernel
theorem dX3_undoOrEnd_31 : decode cX3_undoOrEnd 31 = .ok (.iload_n 1, 1) := by decide +kernel
theorem dX3_undoOrEnd_32 : decode cX3_undoOrEnd 32 = .ok (.invokevirtual 101, 3) := by decide +kernel
theorem dX3_undoOrEnd_35 : decode cX3_undoOrEnd 35 = .ok (.pop, 1) := by decide +kernel
theorem dX3_undoOrEnd_36 : decode cX3_undoOrEnd 36 = .ok (.return_, 1) := by decide +kernel
