theorem dX4_back_44 : decode cX4_back 44 = .ok (.iconst 1, 1) := by decide +kernel
theorem dX4_back_45 : decode cX4_back 45 = .ok (.if_icmp .eq 8, 3) := by decide +kernel
theorem dX4_back_48 : decode cX4_back 48 = .ok (.bipush (-103), 2) := by decide +kernel
theorem dX4_back_50 : decode cX4_back 50 = .ok (.goto 9, 3) := by decide +kernel
theorem dX4_back_53 : decode cX4_back 53 = .ok (.aload_n 0, 1) := by decide +kernel
theorem dX4_back_54 : decode cX4_back 54 = .ok (.iload_n 1, 1) := by decide +kernel
theorem dX4_back_55 : decode cX4_back 55 = .ok (.iload_n 2, 1) := by decide +kernel
theorem dX4_back_56 : decode cX4_back 56 = .ok (.invokevirtual 117, 3) := by decide +kernel
theorem dX4_back_59 : decode cX4_back 59 = .ok (.ireturn, 1) := by decide +kernel
set_option maxRecDepth 20000 in
theorem ggX4_prepare_X4_isWork : GoodIn wsX4_prepare wsX4_isWork := goodIn_r _ [7, 8, 2, 9, 10, 6, 11, 30, 31, 32, 33, 34, 35, 36, 37, 38, 39, 40, 41, 42, 43, 44, 45, 46, 47, 48, 49, 50, 51, 52, 53, 54, 55, 56, 57] (by decide +kernel) (by decide +kernel)
set_option maxRecDepth 20000 in
theorem gX4_prepare_X4_isWork : GoodIn wsX4_prepare (wsV RX4 110 RX4 yX4_isWork wsX4_isWork) := goodIn_app (goodIn_of _ (by decide +kernel)) ggX4_prepare_X4_isWork
set_option maxRecDepth 20000 in
theorem ggX4_prepare_X4_note : GoodIn wsX4_prepare wsX4_note := goodIn_r _ [15, 16, 17, 18, 19, 20, 21, 22, 23, 24, 30, 31, 32, 33, 34, 35, 36, 37, 38, 39, 40, 41, 42, 43, 44, 45, 46, 47, 48, 49, 50, 51, 52, 53, 54, 55, 56, 57] (by decide +kernel) (by decide +kernel)
set_option maxRecDepth 20000 in
theorem gX4_prepare_X4_note : GoodIn wsX4_prepare (wsV RX4 84 RX4 yX4_note wsX4_note) := goodIn_app (goodIn_of _ (by decide +kernel)) ggX4_prepare_X4_note
set_option maxRecDepth 20000 in
theorem ggX4_prepare_X4_forceTo : GoodIn wsX4_prepare wsX4_forceTo := goodIn_r _ [28, 16, 29, 30, 31, 32, 33, 34, 35, 36, 37, 38, 39, 40, 41, 42, 43, 44, 45, 46, 47, 48, 49, 50, 51, 52, 53, 54, 55, 56, 57] (by decide +kernel) (by decide +kernel)
set_option maxRecDepth 20000 in
theorem gX4_prepare_X4_forceTo : GoodIn wsX4_prepare (wsV RX4 120 RX4 yX4_forceTo wsX4_forceTo) := goodIn_app (goodIn_of _ (by decide +kernel)) ggX4_prepare_X4_forceTo
theorem dX4_prepare_0 : decode cX4_prepare 0 = .ok (.aload_n 0, 1) := by decide +kernel
theorem dX4_prepare_1 : decode cX4_prepare 1 = .ok (.getfield 103, 3) := by decide +kernel
theorem dX4_prepare_4 : decode cX4_prepare 4 = .ok (.ifCond .le 6, 3) := by decide +kernel
theorem dX4_prepare_7 : decode cX4_prepare 7 = .ok (.bipush (-105), 2) := by decide +kernel
theorem dX4_prepare_9 : decode cX4_prepare 9 = .ok (.ireturn, 1) := by decide +kernel
theorem dX4_prepare_10 : decode cX4_prepare 10 = .ok (.aload_n 0, 1) := by decide +kernel
theorem dX4_prepare_11 : decode cX4_prepare 11 = .ok (.iload_n 1, 1) := by decide +kernel
theorem dX4_prepare_12 : decode cX4_prepare 12 = .ok (.invokevirtual 110, 3) := by decide +kernel
theorem dX4_prepare_15 : decode cX4_prepare 15 = .ok (.ifCond .ne 6, 3) := by decide +kernel
theorem dX4_prepare_18 : decode cX4_prepare 18 = .ok (.bipush (-101), 2) := by decide +kernel
theorem dX4_prepare_20 : decode cX4_prepare 20 = .ok (.ireturn, 1) := by decide +kernel
theorem dX4_prepare_21 : decode cX4_prepare 21 = .ok (.aload_n 0, 1) := by decide +kernel
theorem dX4_prepare_22 : decode cX4_prepare 22 = .ok (.getfield 58, 3) := by decide +kernel
theorem dX4_prepare_25 : decode cX4_prepare 25 = .ok (.iload_n 1, 1) := by decide +kernel
theorem dX4_prepare_26 : decode cX4_prepare 26 = .ok (.iaload, 1) := by decide +kernel
theorem dX4_prepare_27 : decode cX4_prepare 27 = .ok (.iconst 1, 1) := by decide +kernel
theorem dX4_prepare_28 : decode cX4_prepare 28 = .ok (.if_icmp .eq 6, 3) := by decide +kernel
theorem dX4_prepare_31 : decode cX4_prepare 31 = .ok (.bipush (-103), 2) := by decide +kernel
theorem dX4_prepare_33 : decode cX4_prepare 33 = .ok (.ireturn, 1) := by decide +kernel
theorem dX4_prepare_34 : decode cX4_prepare 34 = .ok (.aload_n 0, 1) := by decide +kernel
theorem dX4_prepare_35 : decode cX4_prepare 35 = .ok (.getfield 58, 3) := by decide +kernel
theorem dX4_prepare_38 : decode cX4_prepare 38 = .ok (.iload_n 1, 1) := by decide +kernel
theorem dX4_prepare_39 : decode cX4_prepare 39 = .ok (.iconst 3, 1) := by decide +kernel
theorem dX4_prepare_40 : decode cX4_prepare 40 = .ok (.iastore, 1) := by decide +kernel
theorem dX4_prepare_41 : decode cX4_prepare 41 = .ok (.aload_n 0, 1) := by decide +kernel
theorem dX4_prepare_42 : decode cX4_prepare 42 = .ok (.bipush 6, 2) := by decide +kernel
theorem dX4_prepare_44 : decode cX4_prepare 44 = .ok (.iload_n 1, 1) := by decide +kernel
theorem dX4_prepare_45 : decode cX4_prepare 45 = .ok (.invokevirtual 84, 3) := by decide +kernel
theorem dX4_prepare_48 : decode cX4_prepare 48 = .ok (.istore_n 2, 1) := by decide +kernel
theorem dX4_prepare_49 : decode cX4_prepare 49 = .ok (.aload_n 0, 1) := by decide +kernel
theorem dX4_prepare_50 : decode cX4_prepare 50 = .ok (.iload_n 2, 1) := by decide +kernel
theorem dX4_prepare_51 : decode cX4_prepare 51 = .ok (.invokevirtual 120, 3) := by decide +kernel
theorem dX4_prepare_54 : decode cX4_prepare 54 = .ok (.iload_n 2, 1) := by decide +kernel
theorem dX4_prepare_55 : decode cX4_prepare 55 = .ok (.ireturn, 1) := by decide +kernel
set_option maxRecDepth 20000 in
theorem ggX4_commit_X4_isWork : GoodIn wsX4_commit wsX4_isWork := goodIn_r _ [6, 7, 8, 9, 10, 5, 11, 34, 35, 36, 37, 38, 39, 40, 41, 42, 43, 44, 45, 46, 47, 48, 49, 50, 51, 52, 53, 54, 55, 56, 57, 58, 59, 60, 61] (by decide +kernel) (by decide +kernel)
set_option maxRecDepth 20000 in
theorem gX4_commit_X4_isWork : GoodIn wsX4_commit (wsV RX4 110 RX4 yX4_isWork wsX4_isWork) := goodIn_app (goodIn_of _ (by decide +kernel)) ggX4_commit_X4_isWork
set_option maxRecDepth 20000 in
theorem ggX4_commit_X4_note : GoodIn wsX4_commit wsX4_note := goodIn_r _ [15, 16, 17, 18, 19, 20, 21, 22, 23, 24, 34, 35, 36, 37, 38, 39, 40, 41, 42, 43, 44, 45, 46, 47, 48, 49, 50, 51, 52, 53, 54, 55, 56, 57, 58, 59, 60, 61] (by decide +kernel) (by decide +kernel)
set_option maxRecDepth 20000 in
theorem gX4_commit_X4_note : GoodIn wsX4_commit (wsV RX4 84 RX4 yX4_note wsX4_note) := goodIn_app (goodIn_of _ (by decide +kernel)) ggX4_commit_X4_note
set_option maxRecDepth 20000 in
theorem ggX4_commit_X4_forceTo : GoodIn wsX4_commit wsX4_forceTo := goodIn_r _ [28, 16, 29, 34, 35, 36, 37, 38, 39, 40, 41, 42, 43, 44, 45, 46, 47, 48, 49, 50, 51, 52, 53, 54, 55, 56, 57, 58, 59, 60, 61] (by decide +kernel) (by decide +kernel)
set_option maxRecDepth 20000 in
theorem gX4_commit_X4_forceTo : GoodIn wsX4_commit (wsV RX4 120 RX4 yX4_forceTo wsX4_forceTo) := goodIn_app (goodIn_of _ (by decide +kernel)) ggX4_commit_X4_forceTo
set_option maxRecDepth 20000 in
theorem ggX4_commit_X4_end : GoodIn wsX4_commit wsX4_end := goodIn_r _ [33, 8, 12, 13, 14, 5, 15, 16, 17, 18, 19, 20, 21, 22, 23, 24, 34, 35, 36, 37, 38, 39, 40, 41, 42, 43, 44, 45, 46, 47, 48, 49, 50, 51, 52, 53, 54, 55, 56, 57, 58, 59, 60, 61] (by decide +kernel) (by decide +kernel)
set_option maxRecDepth 20000 in
theorem gX4_commit_X4_end : GoodIn wsX4_commit (wsV RX4 123 RX4 yX4_end wsX4_end) := goodIn_app (goodIn_of _ (by decide +kernel)) ggX4_commit_X4_end
theorem dX4_commit_0 : decode cX4_commit 0 = .ok (.aload_n 0, 1) := by decide +kernel
theorem dX4_commit_1 : decode cX4_commit 1 = .ok (.getfield 103, 3) := by decide +kernel
theorem dX4_commit_4 : decode cX4_commit 4 = .ok (.ifCond .le 6, 3) := by decide +kernel
theorem dX4_commit_7 : decode cX4_commit 7 = .ok (.bipush (-105), 2) := by decide +kernel
theorem dX4_commit_9 : decode cX4_commit 9 = .ok (.ireturn, 1) := by decide +kernel
theorem dX4_commit_10 : decode cX4_commit 10 = .ok (.aload_n 0, 1) := by decide +kernel
theorem dX4_commit_11 : decode cX4_commit 11 = .ok (.iload_n 1, 1) := by decide +kernel
theorem dX4_commit_12 : decode cX4_commit 12 = .ok (.invokevirtual 110, 3) := by decide +kernel
theorem dX4_commit_15 : decode cX4_commit 15 = .ok (.ifCond .ne 6, 3) := by decide +kernel
theorem dX4_commit_18 : decode cX4_commit 18 = .ok (.bipush (-101), 2) := by decide +kernel
theorem dX4_commit_20 : decode cX4_commit 20 = .ok (.ireturn, 1) := by decide +kernel
theorem dX4_commit_21 : decode cX4_commit 21 = .ok (.aload_n 0, 1) := by decide +kernel
theorem dX4_commit_22 : decode cX4_commit 22 = .ok (.iconst 3, 1) := by decide +kernel
theorem dX4_commit_23 : decode cX4_commit 23 = .ok (.iload_n 1, 1) := by decide +kernel
theorem dX4_commit_24 : decode cX4_commit 24 = .ok (.invokevirtual 84, 3) := by decide +kernel
theorem dX4_commit_27 : decode cX4_commit 27 = .ok (.istore_n 2, 1) := by decide +kernel
theorem dX4_commit_28 : decode cX4_commit 28 = .ok (.aload_n 0, 1) := by decide +kernel
theorem dX4_commit_29 : decode cX4_commit 29 = .ok (.iload_n 2, 1) := by decide +kernel
theorem dX4_commit_30 : decode cX4_commit 30 = .ok (.invokevirtual 120, 3) := by decide +kernel
theorem dX4_commit_33 : decode cX4_commit 33 = .ok (.aload_n 0, 1) := by decide +kernel
theorem dX4_commit_34 : decode cX4_commit 34 = .ok (.iload_n 1, 1) := by decide +kernel
theorem dX4_commit_35 : decode cX4_commit 35 = .ok (.invokevirtual 123, 3) := by decide +kernel
theorem dX4_commit_38 : decode cX4_commit 38 = .ok (.iload_n 2, 1) := by decide +kernel
theorem dX4_commit_39 : decode cX4_commit 39 = .ok (.ireturn, 1) := by decide +kernel
set_option maxRecDepth 20000 in
theorem ggX4_abort_X4_isWork : GoodIn wsX4_abort wsX4_isWork := goodIn_r _ [6, 7, 8, 9, 10, 5, 11, 53, 54, 55, 56, 57, 58, 59, 60, 61, 62, 63, 64, 65, 66, 67, 68, 69, 70, 71, 72, 73, 74, 75, 76, 77, 78, 79, 80] (by decide +kernel) (by decide +kernel)
set_option maxRecDepth 20000 in
theorem gX4_abort_X4_isWork : GoodIn wsX4_abort (wsV RX4 110 RX4 yX4_isWork wsX4_isWork) := goodIn_app (goodIn_of _ (by decide +kernel)) ggX4_abort_X4_isWork
set_option maxRecDepth 20000 in
theorem ggX4_abort_X4_note : GoodIn wsX4_abort wsX4_note := goodIn_r _ [15, 16, 17, 18, 19, 20, 21, 22, 23, 24, 53, 54, 55, 56, 57, 58, 59, 60, 61, 62, 63, 64, 65, 66, 67, 68, 69, 70, 71, 72, 73, 74, 75, 76, 77, 78, 79, 80] (by decide +kernel) (by decide +kernel)
set_option maxRecDepth 20000 in
theorem gX4_abort_X4_note : GoodIn wsX4_abort (wsV RX4 84 RX4 yX4_note wsX4_note) := goodIn_app (goodIn_of _ (by decide +kernel)) ggX4_abort_X4_note
set_option maxRecDepth 20000 in
theorem ggX4_abort_X4_undoTo : GoodIn wsX4_abort wsX4_undoTo := goodIn_r _ [28, 29, 30, 31, 32, 5, 33, 21, 22, 23, 24, 19, 12, 13, 14, 15, 16, 17, 18, 20, 34, 35, 36, 37, 38, 39, 40, 41, 42, 43, 44, 45, 46, 47, 48, 53, 54, 55, 56, 57, 58, 59, 60, 61, 62, 63, 64, 65, 66, 67, 68, 69, 70, 71, 72, 73, 74, 75, 76, 77, 78, 79, 80] (by decide +kernel) (by decide +kernel)
set_option maxRecDepth 20000 in
theorem gX4_abort_X4_undoTo : GoodIn wsX4_abort (wsV RX4 117 RX4 yX4_undoTo wsX4_undoTo) := goodIn_app (goodIn_of _ (by decide +kernel)) ggX4_abort_X4_undoTo
set_option maxRecDepth 20000 in
theorem ggX4_abort_X4_end : GoodIn wsX4_abort wsX4_end := goodIn_r _ [52, 8, 12, 13, 14, 5, 15, 16, 17, 18, 19, 20, 21, 22, 23, 24, 53, 54, 55, 56, 57, 58, 59, 60, 61, 62, 63, 64, 65, 66, 67, 68, 69, 70, 71, 72, 73, 74, 75, 76, 77, 78, 79, 80] (by decide +kernel) (by decide +kernel)
set_option maxRecDepth 20000 in
theorem gX4_abort_X4_end : GoodIn wsX4_abort (wsV RX4 123 RX4 yX4_end wsX4_end) := goodIn_app (goodIn_of _ (by decide +kernel)) ggX4_abort_X4_end
theorem dX4_abort_0 : decode cX4_abort 0 = .ok (.aload_n 0, 1) := by decide +kernel
theorem dX4_abort_1 : decode cX4_abort 1 = .ok (.getfield 103, 3) := by decide +kernel
theorem dX4_abort_4 : decode cX4_abort 4 = .ok (.ifCond .le 6, 3) := by decide +kernel
theorem dX4_abort_7 : decode cX4_abort 7 = .ok (.bipush (-105), 2) := by decide +kernel
theorem dX4_abort_9 : decode cX4_abort 9 = .ok (.ireturn, 1) := by decide +kernel
theorem dX4_abort_10 : decode cX4_abort 10 = .ok (.aload_n 0, 1) := by decide +kernel
theorem dX4_abort_11 : decode cX4_abort 11 = .ok (.iload_n 1, 1) := by decide +kernel
theorem dX4_abort_12 : decode cX4_abort 12 = .ok (.invokevirtual 110, 3) := by decide +kernel
theorem dX4_abort_15 : decode cX4_abort 15 = .ok (.ifCond .ne 6, 3) := by decide +kernel
theorem dX4_abort_18 : decode cX4_abort 18 = .ok (.bipush (-101), 2) := by decide +kernel
theorem dX4_abort_20 : decode cX4_abort 20 = .ok (.ireturn, 1) := by decide +kernel
theorem dX4_abort_21 : decode cX4_abort 21 = .ok (.aload_n 0, 1) := by decide +kernel
theorem dX4_abort_22 : decode cX4_abort 22 = .ok (.iconst 4, 1) := by decide +kernel
theorem dX4_abort_23 : decode cX4_abort 23 = .ok (.iload_n 1, 1) := by decide +kernel
theorem dX4_abort_24 : decode cX4_abort 24 = .ok (.invokevirtual 84, 3) := by decide +kernel
theorem dX4_abort_27 : decode cX4_abort 27 = .ok (.istore_n 2, 1) := by decide +kernel
theorem dX4_abort_28 : decode cX4_abort 28 = .ok (.aload_n 0, 1) := by decide +kernel
theorem dX4_abort_29 : decode cX4_abort 29 = .ok (.iload_n 1, 1) := by decide +kernel
theorem dX4_abort_30 : decode cX4_abort 30 = .ok (.iconst 0, 1) := by decide +kernel
theorem dX4_abort_31 : decode cX4_abort 31 = .ok (.invokevirtual 117, 3) := by decide +kernel
theorem dX4_abort_34 : decode cX4_abort 34 = .ok (.istore_n 3, 1) := by decide +kernel
theorem dX4_abort_35 : decode cX4_abort 35 = .ok (.aload_n 0, 1) := by decide +kernel
theorem dX4_abort_36 : decode cX4_abort 36 = .ok (.iload_n 1, 1) := by decide +kernel
theorem dX4_abort_37 : decode cX4_abort 37 = .ok (.invokevirtual 123, 3) := by decide +kernel
theorem dX4_abort_40 : decode cX4_abort 40 = .ok (.iload_n 3, 1) := by decide +kernel
theorem dX4_abort_41 : decode cX4_abort 41 = .ok (.ireturn, 1) := by decide +kernel
set_option maxRecDepth 20000 in
theorem ggX4_write_X4_in : GoodIn wsX4_write wsX4_in := goodIn_r _ [10] (by decide +kernel) (by decide +kernel)
set_option maxRecDepth 20000 in
theorem gX4_write_X4_in : GoodIn wsX4_write (va_wsS RX4 74 yX4_in wsX4_in) := goodIn_app (goodIn_of _ (by decide +kernel)) ggX4_write_X4_in
set_option maxRecDepth 20000 in
theorem ggX4_write_X4_forceTo : GoodIn wsX4_write wsX4_forceTo := goodIn_r _ [14, 15, 16, 17, 18, 19, 20, 21, 22, 23, 24, 25, 26, 27, 28, 29, 30, 31, 32, 33, 34, 35, 36, 37, 38, 39, 40, 41, 42, 43, 44] (by decide +kernel) (by decide +kernel)
set_option maxRecDepth 20000 in
theorem gX4_write_X4_forceTo : GoodIn wsX4_write (wsV RX4 120 RX4 yX4_forceTo wsX4_forceTo) := goodIn_app (goodIn_of _ (by decide +kernel)) ggX4_write_X4_forceTo
theorem dX4_write_0 : decode cX4_write 0 = .ok (.aload_n 0, 1) := by decide +kernel
theorem dX4_write_1 : decode cX4_write 1 = .ok (.getfield 103, 3) := by decide +kernel
theorem dX4_write_4 : decode cX4_write 4 = .ok (.ifCond .le 6, 3) := by decide +kernel
theorem dX4_write_7 : decode cX4_write 7 = .ok (.bipush (-105), 2) := by decide +kernel
theorem dX4_write_9 : decode cX4_write 9 = .ok (.ireturn, 1) := by decide +kernel
theorem dX4_write_10 : decode cX4_write 10 = .ok (.iload_n 1, 1) := by decide +kernel
theorem dX4_write_11 : decode cX4_write 11 = .ok (.iconst 0, 1) := by decide +kernel
theorem dX4_write_12 : decode cX4_write 12 = .ok (.bipush 63, 2) := by decide +kernel
theorem dX4_write_14 : decode cX4_write 14 = .ok (.invokestatic 74, 3) := by decide +kernel
theorem dX4_write_17 : decode cX4_write 17 = .ok (.ifCond .ne 6, 3) := by decide +kernel
theorem dX4_write_20 : decode cX4_write 20 = .ok (.bipush (-102), 2) := by decide +kernel
theorem dX4_write_22 : decode cX4_write 22 = .ok (.ireturn, 1) := by decide +kernel
theorem dX4_write_23 : decode cX4_write 23 = .ok (.aload_n 0, 1) := by decide +kernel
theorem dX4_write_24 : decode cX4_write 24 = .ok (.getfield 49, 3) := by decide +kernel
theorem dX4_write_27 : decode cX4_write 27 = .ok (.iload_n 1, 1) := by decide +kernel
theorem dX4_write_28 : decode cX4_write 28 = .ok (.iaload, 1) := by decide +kernel
theorem dX4_write_29 : decode cX4_write 29 = .ok (.iconst (-1), 1) := by decide +kernel
theorem dX4_write_30 : decode cX4_write 30 = .ok (.if_icmp .ne 5, 3) := by decide +kernel
theorem dX4_write_33 : decode cX4_write 33 = .ok (.iconst 0, 1) := by decide +kernel
theorem dX4_write_34 : decode cX4_write 34 = .ok (.ireturn, 1) := by decide +kernel
theorem dX4_write_35 : decode cX4_write 35 = .ok (.aload_n 0, 1) := by decide +kernel
theorem dX4_write_36 : decode cX4_write 36 = .ok (.aload_n 0, 1) := by decide +kernel
theorem dX4_write_37 : decode cX4_write 37 = .ok (.getfield 46, 3) := by decide +kernel
theorem dX4_write_40 : decode cX4_write 40 = .ok (.iload_n 1, 1) := by decide +kernel
theorem dX4_write_41 : decode cX4_write 41 = .ok (.iaload, 1) := by decide +kernel
theorem dX4_write_42 : decode cX4_write 42 = .ok (.invokevirtual 120, 3) := by decide +kernel
theorem dX4_write_45 : decode cX4_write 45 = .ok (.bipush 8, 2) := by decide +kernel
theorem dX4_write_47 : decode cX4_write 47 = .ok (.iload_n 1, 1) := by decide +kernel
theorem dX4_write_48 : decode cX4_write 48 = .ok (.imul, 1) := by decide +kernel
theorem dX4_write_49 : decode cX4_write 49 = .ok (.istore_n 2, 1) := by decide +kernel
theorem dX4_write_50 : decode cX4_write 50 = .ok (.iload_n 2, 1) := by decide +kernel
theorem dX4_write_51 : decode cX4_write 51 = .ok (.bipush 8, 2) := by decide +kernel
theorem dX4_write_53 : decode cX4_write 53 = .ok (.iload_n 1, 1) := by decide +kernel
theorem dX4_write_54 : decode cX4_write 54 = .ok (.imul, 1) := by decide +kernel
theorem dX4_write_55 : decode cX4_write 55 = .ok (.bipush 8, 2) := by decide +kernel
theorem dX4_write_57 : decode cX4_write 57 = .ok (.iadd, 1) := by decide +kernel
theorem dX4_write_58 : decode cX4_write 58 = .ok (.if_icmp .ge 21, 3) := by decide +kernel
theorem dX4_write_61 : decode cX4_write 61 = .ok (.aload_n 0, 1) := by decide +kernel
theorem dX4_write_62 : decode cX4_write 62 = .ok (.getfield 52, 3) := by decide +kernel
theorem dX4_write_65 : decode cX4_write 65 = .ok (.iload_n 2, 1) := by decide +kernel
theorem dX4_write_66 : decode cX4_write 66 = .ok (.aload_n 0, 1) := by decide +kernel
theorem dX4_write_67 : decode cX4_write 67 = .ok (.getfield 43, 3) := by decide +kernel
theorem dX4_write_70 : decode cX4_write 70 = .ok (.iload_n 2, 1) := by decide +kernel
theorem dX4_write_71 : decode cX4_write 71 = .ok (.iaload, 1) := by decide +kernel
theorem dX4_write_72 : decode cX4_write 72 = .ok (.iastore, 1) := by decide +kernel
theorem dX4_write_73 : decode cX4_write 73 = .ok (.iinc 2 1, 3) := by decide +kernel
theorem dX4_write_76 : decode cX4_write 76 = .ok (.goto (-26), 3) := by decide +kernel
theorem dX4_write_79 : decode cX4_write 79 = .ok (.aload_n 0, 1) := by decide +kernel
theorem dX4_write_80 : decode cX4_write 80 = .ok (.getfield 55, 3) := by decide +kernel
theorem dX4_write_83 : decode cX4_write 83 = .ok (.iload_n 1, 1) := by decide +kernel
theorem dX4_write_84 : decode cX4_write 84 = .ok (.aload_n 0, 1) := by decide +kernel
theorem dX4_write_85 : decode cX4_write 85 = .ok (.getfield 46, 3) := by decide +kernel
theorem dX4_write_88 : decode cX4_write 88 = .ok (.iload_n 1, 1) := by decide +kernel
theorem dX4_write_89 : decode cX4_write 89 = .ok (.iaload, 1) := by decide +kernel
theorem dX4_write_90 : decode cX4_write 90 = .ok (.iastore, 1) := by decide +kernel
theorem dX4_write_91 : decode cX4_write 91 = .ok (.aload_n 0, 1) := by decide +kernel
theorem dX4_write_92 : decode cX4_write 92 = .ok (.getfield 49, 3) := by decide +kernel
theorem dX4_write_95 : decode cX4_write 95 = .ok (.iload_n 1, 1) := by decide +kernel
theorem dX4_write_96 : decode cX4_write 96 = .ok (.iconst (-1), 1) := by decide +kernel
theorem dX4_write_97 : decode cX4_write 97 = .ok (.iastore, 1) := by decide +kernel
theorem dX4_write_98 : decode cX4_write 98 = .ok (.iconst 1, 1) := by decide +kernel
theorem dX4_write_99 : decode cX4_write 99 = .ok (.ireturn, 1) := by decide +kernel
set_option maxRecDepth 20000 in
theorem ggX4_force_X4_forceTo : GoodIn wsX4_force wsX4_forceTo := goodIn_r _ [7, 8, 2, 9, 10, 11, 12, 13, 14, 15, 16, 17, 18, 19, 20, 21, 22, 23, 24, 25, 26, 27, 28, 29, 30, 31, 32, 33, 34, 35, 36] (by decide +kernel) (by decide +kernel)
set_option maxRecDepth 20000 in
theorem gX4_force_X4_forceTo : GoodIn wsX4_force (wsV RX4 120 RX4 yX4_forceTo wsX4_forceTo) := goodIn_app (goodIn_of _ (by decide +kernel)) ggX4_force_X4_forceTo
theorem dX4_force_0 : decode cX4_force 0 = .ok (.aload_n 0, 1) := by decide +kernel
theorem dX4_force_1 : decode cX4_force 1 = .ok (.getfield 103, 3) := by decide +kernel
theorem dX4_force_4 : decode cX4_force 4 = .ok (.ifCond .le 6, 3) := by decide +kernel
theorem dX4_force_7 : decode cX4_force 7 = .ok (.bipush (-105), 2) := by decide +kernel
theorem dX4_force_9 : decode cX4_force 9 = .ok (.ireturn, 1) := by decide +kernel
theorem dX4_force_10 : decode cX4_force 10 = .ok (.iload_n 1, 1) := by decide +kernel
theorem dX4_force_11 : decode cX4_force 11 = .ok (.ifCond .ge 6, 3) := by decide +kernel
theorem dX4_force_14 : decode cX4_force 14 = .ok (.bipush (-102), 2) := by decide +kernel
theorem dX4_force_16 : decode cX4_force 16 = .ok (.ireturn, 1) := by decide +kernel
theorem dX4_force_17 : decode cX4_force 17 = .ok (.aload_n 0, 1) := by decide +kernel
theorem dX4_force_18 : decode cX4_force 18 = .ok (.iload_n 1, 1) := by decide +kernel
theorem dX4_force_19 : decode cX4_force 19 = .ok (.invokevirtual 120, 3) := by decide +kernel
theorem dX4_force_22 : decode cX4_force 22 = .ok (.aload_n 0, 1) := by decide +kernel
theorem dX4_force_23 : decode cX4_force 23 = .ok (.getfield 81, 3) := by decide +kernel
theorem dX4_force_26 : decode cX4_force 26 = .ok (.ireturn, 1) := by decide +kernel
set_option maxRecDepth 20000 in
theorem ggX4_point_X4_note : GoodIn wsX4_point wsX4_note := goodIn_r _ [16, 17, 18, 19, 20, 7, 21, 22, 23, 3, 29, 30, 31, 32, 33, 34, 35, 36, 37, 38, 39, 40, 41, 42, 43, 44, 45, 46, 47, 48, 49, 50, 51, 52, 53, 54, 55, 56] (by decide +kernel) (by decide +kernel)
set_option maxRecDepth 20000 in
theorem gX4_point_X4_note : GoodIn wsX4_point (wsV RX4 84 RX4 yX4_note wsX4_note) := goodIn_app (goodIn_of _ (by decide +kernel)) ggX4_point_X4_note
set_option maxRecDepth 20000 in
theorem ggX4_point_X4_forceTo : GoodIn wsX4_point wsX4_forceTo := goodIn_r _ [27, 17, 28, 29, 30, 31, 32, 33, 34, 35, 36, 37, 38, 39, 40, 41, 42, 43, 44, 45, 46, 47, 48, 49, 50, 51, 52, 53, 54, 55, 56] (by decide +kernel) (by decide +kernel)
set_option maxRecDepth 20000 in
theorem gX4_point_X4_forceTo : GoodIn wsX4_point (wsV RX4 120 RX4 yX4_forceTo wsX4_forceTo) := goodIn_app (goodIn_of _ (by decide +kernel)) ggX4_point_X4_forceTo
theorem dX4_point_0 : decode cX4_point 0 = .ok (.aload_n 0, 1) := by decide +kernel
theorem dX4_point_1 : decode cX4_point 1 = .ok (.getfield 103, 3) := by decide +kernel
theorem dX4_point_4 : decode cX4_point 4 = .ok (.ifCond .le 6, 3) := by decide +kernel
theorem dX4_point_7 : decode cX4_point 7 = .ok (.bipush (-105), 2) := by decide +kernel
theorem dX4_point_9 : decode cX4_point 9 = .ok (.ireturn, 1) := by decide +kernel
theorem dX4_point_10 : decode cX4_point 10 = .ok (.aload_n 0, 1) := by decide +kernel
theorem dX4_point_11 : decode cX4_point 11 = .ok (.getfield 126, 3) := by decide +kernel
theorem dX4_point_14 : decode cX4_point 14 = .ok (.bipush 100, 2) := by decide +kernel
theorem dX4_point_16 : decode cX4_point 16 = .ok (.if_icmp .ne 6, 3) := by decide +kernel
theorem dX4_point_19 : decode cX4_point 19 = .ok (.bipush (-104), 2) := by decide +kernel
theorem dX4_point_21 : decode cX4_point 21 = .ok (.ireturn, 1) := by decide +kernel
theorem dX4_point_22 : decode cX4_point 22 = .ok (.aload_n 0, 1) := by decide +kernel
theorem dX4_point_23 : decode cX4_point 23 = .ok (.bipush 7, 2) := by decide +kernel
theorem dX4_point_25 : decode cX4_point 25 = .ok (.iconst 0, 1) := by decide +kernel
theorem dX4_point_26 : decode cX4_point 26 = .ok (.invokevirtual 84, 3) := by decide +kernel
theorem dX4_point_29 : decode cX4_point 29 = .ok (.istore_n 1, 1) := by decide +kernel
theorem dX4_point_30 : decode cX4_point 30 = .ok (.aload_n 0, 1) := by decide +kernel
theorem dX4_point_31 : decode cX4_point 31 = .ok (.bipush 8, 2) := by decide +kernel
theorem dX4_point_33 : decode cX4_point 33 = .ok (.iconst 0, 1) := by decide +kernel
theorem dX4_point_34 : decode cX4_point 34 = .ok (.invokevirtual 84, 3) := by decide +kernel
theorem dX4_point_37 : decode cX4_point 37 = .ok (.istore_n 2, 1) := by decide +kernel
theorem dX4_point_38 : decode cX4_point 38 = .ok (.aload_n 0, 1) := by decide +kernel
theorem dX4_point_39 : decode cX4_point 39 = .ok (.getfield 28, 3) := by decide +kernel
theorem dX4_point_42 : decode cX4_point 42 = .ok (.iload_n 2, 1) := by decide +kernel
theorem dX4_point_43 : decode cX4_point 43 = .ok (.aload_n 0, 1) := by decide +kernel
theorem dX4_point_44 : decode cX4_point 44 = .ok (.getfield 126, 3) := by decide +kernel
theorem dX4_point_47 : decode cX4_point 47 = .ok (.iastore, 1) := by decide +kernel
theorem dX4_point_48 : decode cX4_point 48 = .ok (.iconst 1, 1) := by decide +kernel
theorem dX4_point_49 : decode cX4_point 49 = .ok (.istore_n 3, 1) := by decide +kernel
theorem dX4_point_50 : decode cX4_point 50 = .ok (.iload_n 3, 1) := by decide +kernel
theorem dX4_point_51 : decode cX4_point 51 = .ok (.sipush 200, 3) := by decide +kernel
theorem dX4_point_54 : decode cX4_point 54 = .ok (.if_icmp .gt 72, 3) := by decide +kernel
theorem dX4_point_57 : decode cX4_point 57 = .ok (.aload_n 0, 1) := by decide +kernel
theorem dX4_point_58 : decode cX4_point 58 = .ok (.getfield 31, 3) := by decide +kernel
theorem dX4_point_61 : decode cX4_point 61 = .ok (.sipush 201, 3) := by decide +kernel
theorem dX4_point_64 : decode cX4_point 64 = .ok (.aload_n 0, 1) := by decide +kernel
theorem dX4_point_65 : decode cX4_point 65 = .ok (.getfield 126, 3) := by decide +kernel
theorem dX4_point_68 : decode cX4_point 68 = .ok (.imul, 1) := by decide +kernel
theorem dX4_point_69 : decode cX4_point 69 = .ok (.iload_n 3, 1) := by decide +kernel
theorem dX4_point_70 : decode cX4_point 70 = .ok (.iadd, 1) := by decide +kernel
theorem dX4_point_71 : decode cX4_point 71 = .ok (.aload_n 0, 1) := by decide +kernel
theorem dX4_point_72 : decode cX4_point 72 = .ok (.getfield 58, 3) := by decide +kernel
theorem dX4_point_75 : decode cX4_point 75 = .ok (.iload_n 3, 1) := by decide +kernel
theorem dX4_point_76 : decode cX4_point 76 = .ok (.iaload, 1) := by decide +kernel
theorem dX4_point_77 : decode cX4_point 77 = .ok (.iastore, 1) := by decide +kernel
theorem dX4_point_78 : decode cX4_point 78 = .ok (.aload_n 0, 1) := by decide +kernel
theorem dX4_point_79 : decode cX4_point 79 = .ok (.getfield 34, 3) := by decide +kernel
theorem dX4_point_82 : decode cX4_point 82 = .ok (.sipush 201, 3) := by decide +kernel
theorem dX4_point_85 : decode cX4_point 85 = .ok (.aload_n 0, 1) := by decide +kernel
theorem dX4_point_86 : decode cX4_point 86 = .ok (.getfield 126, 3) := by decide +kernel
theorem dX4_point_89 : decode cX4_point 89 = .ok (.imul, 1) := by decide +kernel
theorem dX4_point_90 : decode cX4_point 90 = .ok (.iload_n 3, 1) := by decide +kernel
theorem dX4_point_91 : decode cX4_point 91 = .ok (.iadd, 1) := by decide +kernel
theorem dX4_point_92 : decode cX4_point 92 = .ok (.aload_n 0, 1) := by decide +kernel
theorem dX4_point_93 : decode cX4_point 93 = .ok (.getfield 61, 3) := by decide +kernel
theorem dX4_point_96 : decode cX4_point 96 = .ok (.iload_n 3, 1) := by decide +kernel
theorem dX4_point_97 : decode cX4_point 97 = .ok (.iaload, 1) := by decide +kernel
theorem dX4_point_98 : decode cX4_point 98 = .ok (.iastore, 1) := by decide +kernel
theorem dX4_point_99 : decode cX4_point 99 = .ok (.aload_n 0, 1) := by decide +kernel
theorem dX4_point_100 : decode cX4_point 100 = .ok (.getfield 37, 3) := by decide +kernel
theorem dX4_point_103 : decode cX4_point 103 = .ok (.sipush 201, 3) := by decide +kernel
theorem dX4_point_106 : decode cX4_point 106 = .ok (.aload_n 0, 1) := by decide +kernel
theorem dX4_point_107 : decode cX4_point 107 = .ok (.getfield 126, 3) := by decide +kernel
theorem dX4_point_110 : decode cX4_point 110 = .ok (.imul, 1) := by decide +kernel
theorem dX4_point_111 : decode cX4_point 111 = .ok (.iload_n 3, 1) := by decide +kernel
theorem dX4_point_112 : decode cX4_point 112 = .ok (.iadd, 1) := by decide +kernel
theorem dX4_point_113 : decode cX4_point 113 = .ok (.aload_n 0, 1) := by decide +kernel
theorem dX4_point_114 : decode cX4_point 114 = .ok (.getfield 64, 3) := by decide +kernel
theorem dX4_point_117 : decode cX4_point 117 = .ok (.iload_n 3, 1) := by decide +kernel
theorem dX4_point_118 : decode cX4_point 118 = .ok (.iaload, 1) := by decide +kernel
theorem dX4_point_119 : decode cX4_point 119 = .ok (.iastore, 1) := by decide +kernel
theorem dX4_point_120 : decode cX4_point 120 = .ok (.iinc 3 1, 3) := by decide +kernel
theorem dX4_point_123 : decode cX4_point 123 = .ok (.goto (-73), 3) := by decide +kernel
theorem dX4_point_126 : decode cX4_point 126 = .ok (.iconst 0, 1) := by decide +kernel
theorem dX4_point_127 : decode cX4_point 127 = .ok (.istore_n 3, 1) := by decide +kernel
theorem dX4_point_128 : decode cX4_point 128 = .ok (.iload_n 3, 1) := by decide +kernel
theorem dX4_point_129 : decode cX4_point 129 = .ok (.bipush 64, 2) := by decide +kernel
theorem dX4_point_131 : decode cX4_point 131 = .ok (.if_icmp .ge 29, 3) := by decide +kernel
theorem dX4_point_134 : decode cX4_point 134 = .ok (.aload_n 0, 1) := by decide +kernel
theorem dX4_point_135 : decode cX4_point 135 = .ok (.getfield 40, 3) := by decide +kernel
theorem dX4_point_138 : decode cX4_point 138 = .ok (.bipush 64, 2) := by decide +kernel
theorem dX4_point_140 : decode cX4_point 140 = .ok (.aload_n 0, 1) := by decide +kernel
theorem dX4_point_141 : decode cX4_point 141 = .ok (.getfield 126, 3) := by decide +kernel
theorem dX4_point_144 : decode cX4_point 144 = .ok (.imul, 1) := by decide +kernel
theorem dX4_point_145 : decode cX4_point 145 = .ok (.iload_n 3, 1) := by decide +kernel
theorem dX4_point_146 : decode cX4_point 146 = .ok (.iadd, 1) := by decide +kernel
theorem dX4_point_147 : decode cX4_point 147 = .ok (.aload_n 0, 1) := by decide +kernel
theorem dX4_point_148 : decode cX4_point 148 = .ok (.getfield 49, 3) := by decide +kernel
theorem dX4_point_151 : decode cX4_point 151 = .ok (.iload_n 3, 1) := by decide +kernel
theorem dX4_point_152 : decode cX4_point 152 = .ok (.iaload, 1) := by decide +kernel
theorem dX4_point_153 : decode cX4_point 153 = .ok (.iastore, 1) := by decide +kernel
theorem dX4_point_154 : decode cX4_point 154 = .ok (.iinc 3 1, 3) := by decide +kernel
theorem dX4_point_157 : decode cX4_point 157 = .ok (.goto (-29), 3) := by decide +kernel
theorem dX4_point_160 : decode cX4_point 160 = .ok (.aload_n 0, 1) := by decide +kernel
theorem dX4_point_161 : decode cX4_point 161 = .ok (.dup, 1) := by decide +kernel
theorem dX4_point_162 : decode cX4_point 162 = .ok (.getfield 126, 3) := by decide +kernel
theorem dX4_point_165 : decode cX4_point 165 = .ok (.iconst 1, 1) := by decide +kernel
theorem dX4_point_166 : decode cX4_point 166 = .ok (.iadd, 1) := by decide +kernel
theorem dX4_point_167 : decode cX4_point 167 = .ok (.putfield 126, 3) := by decide +kernel
theorem dX4_point_170 : decode cX4_point 170 = .ok (.aload_n 0, 1) := by decide +kernel
theorem dX4_point_171 : decode cX4_point 171 = .ok (.iload_n 2, 1) := by decide +kernel
theorem dX4_point_172 : decode cX4_point 172 = .ok (.invokevirtual 120, 3) := by decide +kernel
theorem dX4_point_175 : decode cX4_point 175 = .ok (.iload_n 1, 1) := by decide +kernel
theorem dX4_point_176 : decode cX4_point 176 = .ok (.ireturn, 1) := by decide +kernel
set_option maxRecDepth 20000 in
theorem ggX4_loss_X4_passOver : GoodIn wsX4_loss wsX4_passOver := goodIn_r _ [20, 15, 5, 1, 21, 22, 23, 19, 24, 7, 25, 26, 27, 28, 29, 12, 14, 30, 31, 32, 33, 34, 35, 36, 37, 38, 39, 40, 41, 42, 43, 44, 45, 46, 47, 48, 49, 50, 51, 52, 53, 54, 55, 56, 57] (by decide +kernel) (by decide +kernel)
set_option maxRecDepth 20000 in
theorem gX4_loss_X4_passOver : GoodIn wsX4_loss (wsV RX4 135 RX4 yX4_passOver wsX4_passOver) := goodIn_app (goodIn_of _ (by decide +kernel)) ggX4_loss_X4_passOver
theorem dX4_loss_0 : decode cX4_loss 0 = .ok (.iload_n 1, 1) := by decide +kernel
theorem dX4_loss_1 : decode cX4_loss 1 = .ok (.ifCond .ge 6, 3) := by decide +kernel
theorem dX4_loss_4 : decode cX4_loss 4 = .ok (.bipush (-102), 2) := by decide +kernel
theorem dX4_loss_6 : decode cX4_loss 6 = .ok (.ireturn, 1) := by decide +kernel
theorem dX4_loss_7 : decode cX4_loss 7 = .ok (.aload_n 0, 1) := by decide +kernel
theorem dX4_loss_8 : decode cX4_loss 8 = .ok (.getfield 78, 3) := by decide +kernel
theorem dX4_loss_11 : decode cX4_loss 11 = .ok (.aload_n 0, 1) := by decide +kernel
theorem dX4_loss_12 : decode cX4_loss 12 = .ok (.getfield 81, 3) := by decide +kernel
theorem dX4_loss_15 : decode cX4_loss 15 = .ok (.isub, 1) := by decide +kernel
theorem dX4_loss_16 : decode cX4_loss 16 = .ok (.istore_n 2, 1) := by decide +kernel
theorem dX4_loss_17 : decode cX4_loss 17 = .ok (.aload_n 0, 1) := by decide +kernel
theorem dX4_loss_18 : decode cX4_loss 18 = .ok (.aload_n 0, 1) := by decide +kernel
theorem dX4_loss_19 : decode cX4_loss 19 = .ok (.getfield 81, 3) := by decide +kernel
theorem dX4_loss_22 : decode cX4_loss 22 = .ok (.iload_n 1, 1) := by decide +kernel
theorem dX4_loss_23 : decode cX4_loss 23 = .ok (.iload_n 2, 1) := by decide +kernel
theorem dX4_loss_24 : decode cX4_loss 24 = .ok (.if_icmp .ge 7, 3) := by decide +kernel
theorem dX4_loss_27 : decode cX4_loss 27 = .ok (.iload_n 1, 1) := by decide +kernel
theorem dX4_loss_28 : decode cX4_loss 28 = .ok (.goto 4, 3) := by decide +kernel
theorem dX4_loss_31 : decode cX4_loss 31 = .ok (.iload_n 2, 1) := by decide +kernel
theorem dX4_loss_32 : decode cX4_loss 32 = .ok (.iadd, 1) := by decide +kernel
theorem dX4_loss_33 : decode cX4_loss 33 = .ok (.putfield 78, 3) := by decide +kernel
theorem dX4_loss_36 : decode cX4_loss 36 = .ok (.aload_n 0, 1) := by decide +kernel
theorem dX4_loss_37 : decode cX4_loss 37 = .ok (.aload_n 0, 1) := by decide +kernel
theorem dX4_loss_38 : decode cX4_loss 38 = .ok (.getfield 78, 3) := by decide +kernel
theorem dX4_loss_41 : decode cX4_loss 41 = .ok (.putfield 81, 3) := by decide +kernel
theorem dX4_loss_44 : decode cX4_loss 44 = .ok (.aload_n 0, 1) := by decide +kernel
theorem dX4_loss_45 : decode cX4_loss 45 = .ok (.iconst 0, 1) := by decide +kernel
theorem dX4_loss_46 : decode cX4_loss 46 = .ok (.putfield 114, 3) := by decide +kernel
theorem dX4_loss_49 : decode cX4_loss 49 = .ok (.aload_n 0, 1) := by decide +kernel
theorem dX4_loss_50 : decode cX4_loss 50 = .ok (.iconst (-1), 1) := by decide +kernel
theorem dX4_loss_51 : decode cX4_loss 51 = .ok (.putfield 129, 3) := by decide +kernel
theorem dX4_loss_54 : decode cX4_loss 54 = .ok (.aload_n 0, 1) := by decide +kernel
theorem dX4_loss_55 : decode cX4_loss 55 = .ok (.iconst 1, 1) := by decide +kernel
theorem dX4_loss_56 : decode cX4_loss 56 = .ok (.putfield 132, 3) := by decide +kernel
theorem dX4_loss_59 : decode cX4_loss 59 = .ok (.iconst 1, 1) := by decide +kernel
theorem dX4_loss_60 : decode cX4_loss 60 = .ok (.istore_n 3, 1) := by decide +kernel
theorem dX4_loss_61 : decode cX4_loss 61 = .ok (.iload_n 3, 1) := by decide +kernel
theorem dX4_loss_62 : decode cX4_loss 62 = .ok (.aload_n 0, 1) := by decide +kernel
theorem dX4_loss_63 : decode cX4_loss 63 = .ok (.getfield 78, 3) := by decide +kernel
theorem dX4_loss_66 : decode cX4_loss 66 = .ok (.if_icmp .gt 56, 3) := by decide +kernel
theorem dX4_loss_69 : decode cX4_loss 69 = .ok (.aload_n 0, 1) := by decide +kernel
theorem dX4_loss_70 : decode cX4_loss 70 = .ok (.dup, 1) := by decide +kernel
theorem dX4_loss_71 : decode cX4_loss 71 = .ok (.getfield 114, 3) := by decide +kernel
theorem dX4_loss_74 : decode cX4_loss 74 = .ok (.aload_n 0, 1) := by decide +kernel
theorem dX4_loss_75 : decode cX4_loss 75 = .ok (.getfield 7, 3) := by decide +kernel
theorem dX4_loss_78 : decode cX4_loss 78 = .ok (.iload_n 3, 1) := by decide +kernel
theorem dX4_loss_79 : decode cX4_loss 79 = .ok (.iaload, 1) := by decide +kernel
theorem dX4_loss_80 : decode cX4_loss 80 = .ok (.iconst 1, 1) := by decide +kernel
theorem dX4_loss_81 : decode cX4_loss 81 = .ok (.if_icmp .ne 7, 3) := by decide +kernel
theorem dX4_loss_84 : decode cX4_loss 84 = .ok (.iconst 1, 1) := by decide +kernel
theorem dX4_loss_85 : decode cX4_loss 85 = .ok (.goto 4, 3) := by decide +kernel
theorem dX4_loss_88 : decode cX4_loss 88 = .ok (.iconst 0, 1) := by decide +kernel
theorem dX4_loss_89 : decode cX4_loss 89 = .ok (.iadd, 1) := by decide +kernel
theorem dX4_loss_90 : decode cX4_loss 90 = .ok (.putfield 114, 3) := by decide +kernel
theorem dX4_loss_93 : decode cX4_loss 93 = .ok (.aload_n 0, 1) := by decide +kernel
theorem dX4_loss_94 : decode cX4_loss 94 = .ok (.getfield 7, 3) := by decide +kernel
theorem dX4_loss_97 : decode cX4_loss 97 = .ok (.iload_n 3, 1) := by decide +kernel
theorem dX4_loss_98 : decode cX4_loss 98 = .ok (.iaload, 1) := by decide +kernel
theorem dX4_loss_99 : decode cX4_loss 99 = .ok (.bipush 8, 2) := by decide +kernel
theorem dX4_loss_101 : decode cX4_loss 101 = .ok (.if_icmp .ne 15, 3) := by decide +kernel
theorem dX4_loss_104 : decode cX4_loss 104 = .ok (.aload_n 0, 1) := by decide +kernel
theorem dX4_loss_105 : decode cX4_loss 105 = .ok (.iload_n 3, 1) := by decide +kernel
theorem dX4_loss_106 : decode cX4_loss 106 = .ok (.putfield 129, 3) := by decide +kernel
theorem dX4_loss_109 : decode cX4_loss 109 = .ok (.aload_n 0, 1) := by decide +kernel
theorem dX4_loss_110 : decode cX4_loss 110 = .ok (.iload_n 3, 1) := by decide +kernel
theorem dX4_loss_111 : decode cX4_loss 111 = .ok (.iconst 1, 1) := by decide +kernel
theorem dX4_loss_112 : decode cX4_loss 112 = .ok (.isub, 1) := by decide +kernel
theorem dX4_loss_113 : decode cX4_loss 113 = .ok (.putfield 132, 3) := by decide +kernel
theorem dX4_loss_116 : decode cX4_loss 116 = .ok (.iinc 3 1, 3) := by decide +kernel
theorem dX4_loss_119 : decode cX4_loss 119 = .ok (.goto (-58), 3) := by decide +kernel
theorem dX4_loss_122 : decode cX4_loss 122 = .ok (.iconst 0, 1) := by decide +kernel
theorem dX4_loss_123 : decode cX4_loss 123 = .ok (.istore_n 3, 1) := by decide +kernel
theorem dX4_loss_124 : decode cX4_loss 124 = .ok (.iload_n 3, 1) := by decide +kernel
theorem dX4_loss_125 : decode cX4_loss 125 = .ok (.bipush 64, 2) := by decide +kernel
theorem dX4_loss_127 : decode cX4_loss 127 = .ok (.if_icmp .ge 66, 3) := by decide +kernel
theorem dX4_loss_130 : decode cX4_loss 130 = .ok (.aload_n 0, 1) := by decide +kernel
theorem dX4_loss_131 : decode cX4_loss 131 = .ok (.getfield 49, 3) := by decide +kernel
theorem dX4_loss_134 : decode cX4_loss 134 = .ok (.iload_n 3, 1) := by decide +kernel
theorem dX4_loss_135 : decode cX4_loss 135 = .ok (.iconst (-1), 1) := by decide +kernel
theorem dX4_loss_136 : decode cX4_loss 136 = .ok (.iastore, 1) := by decide +kernel
theorem dX4_loss_137 : decode cX4_loss 137 = .ok (.aload_n 0, 1) := by decide +kernel
theorem dX4_loss_138 : decode cX4_loss 138 = .ok (.getfield 46, 3) := by decide +kernel
theorem dX4_loss_141 : decode cX4_loss 141 = .ok (.iload_n 3, 1) := by decide +kernel
theorem dX4_loss_142 : decode cX4_loss 142 = .ok (.aload_n 0, 1) := by decide +kernel
theorem dX4_loss_143 : decode cX4_loss 143 = .ok (.getfield 55, 3) := by decide +kernel
theorem dX4_loss_146 : decode cX4_loss 146 = .ok (.iload_n 3, 1) := by decide +kernel
theorem dX4_loss_147 : decode cX4_loss 147 = .ok (.iaload, 1) := by decide +kernel
theorem dX4_loss_148 : decode cX4_loss 148 = .ok (.iastore, 1) := by decide +kernel
theorem dX4_loss_149 : decode cX4_loss 149 = .ok (.bipush 8, 2) := by decide +kernel
theorem dX4_loss_151 : decode cX4_loss 151 = .ok (.iload_n 3, 1) := by decide +kernel
theorem dX4_loss_152 : decode cX4_loss 152 = .ok (.imul, 1) := by decide +kernel
theorem dX4_loss_153 : decode cX4_loss 153 = .ok (.istore 4, 2) := by decide +kernel
theorem dX4_loss_155 : decode cX4_loss 155 = .ok (.iload 4, 2) := by decide +kernel
theorem dX4_loss_157 : decode cX4_loss 157 = .ok (.bipush 8, 2) := by decide +kernel
theorem dX4_loss_159 : decode cX4_loss 159 = .ok (.iload_n 3, 1) := by decide +kernel
theorem dX4_loss_160 : decode cX4_loss 160 = .ok (.imul, 1) := by decide +kernel
theorem dX4_loss_161 : decode cX4_loss 161 = .ok (.bipush 8, 2) := by decide +kernel
theorem dX4_loss_163 : decode cX4_loss 163 = .ok (.iadd, 1) := by decide +kernel
theorem dX4_loss_164 : decode cX4_loss 164 = .ok (.if_icmp .ge 23, 3) := by decide +kernel
theorem dX4_loss_167 : decode cX4_loss 167 = .ok (.aload_n 0, 1) := by decide +kernel
theorem dX4_loss_168 : decode cX4_loss 168 = .ok (.getfield 43, 3) := by decide +kernel
theorem dX4_loss_171 : decode cX4_loss 171 = .ok (.iload 4, 2) := by decide +kernel
theorem dX4_loss_173 : decode cX4_loss 173 = .ok (.aload_n 0, 1) := by decide +kernel
theorem dX4_loss_174 : decode cX4_loss 174 = .ok (.getfield 52, 3) := by decide +kernel
theorem dX4_loss_177 : decode cX4_loss 177 = .ok (.iload 4, 2) := by decide +kernel
theorem dX4_loss_179 : decode cX4_loss 179 = .ok (.iaload, 1) := by decide +kernel
theorem dX4_loss_180 : decode cX4_loss 180 = .ok (.iastore, 1) := by decide +kernel
theorem dX4_loss_181 : decode cX4_loss 181 = .ok (.iinc 4 1, 3) := by decide +kernel
theorem dX4_loss_184 : decode cX4_loss 184 = .ok (.goto (-29), 3) := by decide +kernel
theorem dX4_loss_187 : decode cX4_loss 187 = .ok (.iinc 3 1, 3) := by decide +kernel
theorem dX4_loss_190 : decode cX4_loss 190 = .ok (.goto (-66), 3) := by decide +kernel
theorem dX4_loss_193 : decode cX4_loss 193 = .ok (.iconst 0, 1) := by decide +kernel
theorem dX4_loss_194 : decode cX4_loss 194 = .ok (.istore_n 3, 1) := by decide +kernel
theorem dX4_loss_195 : decode cX4_loss 195 = .ok (.iload_n 3, 1) := by decide +kernel
theorem dX4_loss_196 : decode cX4_loss 196 = .ok (.sipush 200, 3) := by decide +kernel
theorem dX4_loss_199 : decode cX4_loss 199 = .ok (.if_icmp .gt 30, 3) := by decide +kernel
theorem dX4_loss_202 : decode cX4_loss 202 = .ok (.aload_n 0, 1) := by decide +kernel
theorem dX4_loss_203 : decode cX4_loss 203 = .ok (.getfield 58, 3) := by decide +kernel
theorem dX4_loss_206 : decode cX4_loss 206 = .ok (.iload_n 3, 1) := by decide +kernel
theorem dX4_loss_207 : decode cX4_loss 207 = .ok (.iconst 0, 1) := by decide +kernel
theorem dX4_loss_208 : decode cX4_loss 208 = .ok (.iastore, 1) := by decide +kernel
theorem dX4_loss_209 : decode cX4_loss 209 = .ok (.aload_n 0, 1) := by decide +kernel
theorem dX4_loss_210 : decode cX4_loss 210 = .ok (.getfield 61, 3) := by decide +kernel
theorem dX4_loss_213 : decode cX4_loss 213 = .ok (.iload_n 3, 1) := by decide +kernel
theorem dX4_loss_214 : decode cX4_loss 214 = .ok (.iconst 0, 1) := by decide +kernel
theorem dX4_loss_215 : decode cX4_loss 215 = .ok (.iastore, 1) := by decide +kernel
theorem dX4_loss_216 : decode cX4_loss 216 = .ok (.aload_n 0, 1) := by decide +kernel
theorem dX4_loss_217 : decode cX4_loss 217 = .ok (.getfield 64, 3) := by decide +kernel
theorem dX4_loss_220 : decode cX4_loss 220 = .ok (.iload_n 3, 1) := by decide +kernel
theorem dX4_loss_221 : decode cX4_loss 221 = .ok (.iconst 0, 1) := by decide +kernel
theorem dX4_loss_222 : decode cX4_loss 222 = .ok (.iastore, 1) := by decide +kernel
theorem dX4_loss_223 : decode cX4_loss 223 = .ok (.iinc 3 1, 3) := by decide +kernel
theorem dX4_loss_226 : decode cX4_loss 226 = .ok (.goto (-31), 3) := by decide +kernel
theorem dX4_loss_229 : decode cX4_loss 229 = .ok (.aload_n 0, 1) := by decide +kernel
theorem dX4_loss_230 : decode cX4_loss 230 = .ok (.iconst 1, 1) := by decide +kernel
theorem dX4_loss_231 : decode cX4_loss 231 = .ok (.putfield 103, 3) := by decide +kernel
theorem dX4_loss_234 : decode cX4_loss 234 = .ok (.aload_n 0, 1) := by decide +kernel
theorem dX4_loss_235 : decode cX4_loss 235 = .ok (.invokevirtual 135, 3) := by decide +kernel
theorem dX4_loss_238 : decode cX4_loss 238 = .ok (.aload_n 0, 1) := by decide +kernel
theorem dX4_loss_239 : decode cX4_loss 239 = .ok (.getfield 78, 3) := by decide +kernel
theorem dX4_loss_242 : decode cX4_loss 242 = .ok (.ireturn, 1) := by decide +kernel
theorem dX4_leastBase_0 : decode cX4_leastBase 0 = .ok (.aload_n 0, 1) := by decide +kernel
theorem dX4_leastBase_1 : decode cX4_leastBase 1 = .ok (.getfield 78, 3) := by decide +kernel
theorem dX4_leastBase_4 : decode cX4_leastBase 4 = .ok (.iconst 1, 1) := by decide +kernel
theorem dX4_leastBase_5 : decode cX4_leastBase 5 = .ok (.iadd, 1) := by decide +kernel
theorem dX4_leastBase_6 : decode cX4_leastBase 6 = .ok (.istore_n 1, 1) := by decide +kernel
theorem dX4_leastBase_7 : decode cX4_leastBase 7 = .ok (.iconst 0, 1) := by decide +kernel
theorem dX4_leastBase_8 : decode cX4_leastBase 8 = .ok (.istore_n 2, 1) := by decide +kernel
theorem dX4_leastBase_9 : decode cX4_leastBase 9 = .ok (.iload_n 2, 1) := by decide +kernel
theorem dX4_leastBase_10 : decode cX4_leastBase 10 = .ok (.bipush 64, 2) := by decide +kernel
theorem dX4_leastBase_12 : decode cX4_leastBase 12 = .ok (.if_icmp .ge 40, 3) := by decide +kernel
theorem dX4_leastBase_15 : decode cX4_leastBase 15 = .ok (.aload_n 0, 1) := by decide +kernel
theorem dX4_leastBase_16 : decode cX4_leastBase 16 = .ok (.getfield 49, 3) := by decide +kernel
theorem dX4_leastBase_19 : decode cX4_leastBase 19 = .ok (.iload_n 2, 1) := by decide +kernel
theorem dX4_leastBase_20 : decode cX4_leastBase 20 = .ok (.iaload, 1) := by decide +kernel
theorem dX4_leastBase_21 : decode cX4_leastBase 21 = .ok (.iconst (-1), 1) := by decide +kernel
theorem dX4_leastBase_22 : decode cX4_leastBase 22 = .ok (.if_icmp .eq 22, 3) := by decide +kernel
theorem dX4_leastBase_25 : decode cX4_leastBase 25 = .ok (.aload_n 0, 1) := by decide +kernel
theorem dX4_leastBase_26 : decode cX4_leastBase 26 = .ok (.getfield 49, 3) := by decide +kernel
theorem dX4_leastBase_29 : decode cX4_leastBase 29 = .ok (.iload_n 2, 1) := by decide +kernel
theorem dX4_leastBase_30 : decode cX4_leastBase 30 = .ok (.iaload, 1) := by decide +kernel
theorem dX4_leastBase_31 : decode cX4_leastBase 31 = .ok (.iload_n 1, 1) := by decide +kernel
theorem dX4_leastBase_32 : decode cX4_leastBase 32 = .ok (.if_icmp .ge 12, 3) := by decide +kernel
theorem dX4_leastBase_35 : decode cX4_leastBase 35 = .ok (.aload_n 0, 1) := by decide +kernel
theorem dX4_leastBase_36 : decode cX4_leastBase 36 = .ok (.getfield 49, 3) := by decide +kernel
theorem dX4_leastBase_39 : decode cX4_leastBase 39 = .ok (.iload_n 2, 1) := by decide +kernel
theorem dX4_leastBase_40 : decode cX4_leastBase 40 = .ok (.iaload, 1) := by decide +kernel
theorem dX4_leastBase_41 : decode cX4_leastBase 41 = .ok (.goto 4, 3) := by decide +kernel
theorem dX4_leastBase_44 : decode cX4_leastBase 44 = .ok (.iload_n 1, 1) := by decide +kernel
theorem dX4_leastBase_45 : decode cX4_leastBase 45 = .ok (.istore_n 1, 1) := by decide +kernel
theorem dX4_leastBase_46 : decode cX4_leastBase 46 = .ok (.iinc 2 1, 3) := by decide +kernel
theorem dX4_leastBase_49 : decode cX4_leastBase 49 = .ok (.goto (-40), 3) := by decide +kernel
theorem dX4_leastBase_52 : decode cX4_leastBase 52 = .ok (.iload_n 1, 1) := by decide +kernel
theorem dX4_leastBase_53 : decode cX4_leastBase 53 = .ok (.ireturn, 1) := by decide +kernel
theorem dX4_chosen_0 : decode cX4_chosen 0 = .ok (.iconst 0, 1) := by decide +kernel
theorem dX4_chosen_1 : decode cX4_chosen 1 = .ok (.istore_n 1, 1) := by decide +kernel
theorem dX4_chosen_2 : decode cX4_chosen 2 = .ok (.iconst 1, 1) := by decide +kernel
theorem dX4_chosen_3 : decode cX4_chosen 3 = .ok (.istore_n 2, 1) := by decide +kernel
theorem dX4_chosen_4 : decode cX4_chosen 4 = .ok (.iload_n 2, 1) := by decide +kernel
theorem dX4_chosen_5 : decode cX4_chosen 5 = .ok (.aload_n 0, 1) := by decide +kernel
theorem dX4_chosen_6 : decode cX4_chosen 6 = .ok (.getfield 70, 3) := by decide +kernel
theorem dX4_chosen_9 : decode cX4_chosen 9 = .ok (.if_icmp .gt 110, 3) := by decide +kernel
theorem dX4_chosen_12 : decode cX4_chosen 12 = .ok (.aload_n 0, 1) := by decide +kernel
theorem dX4_chosen_13 : decode cX4_chosen 13 = .ok (.getfield 103, 3) := by decide +kernel
theorem dX4_chosen_16 : decode cX4_chosen 16 = .ok (.iconst 3, 1) := by decide +kernel
theorem dX4_chosen_17 : decode cX4_chosen 17 = .ok (.if_icmp .ne 21, 3) := by decide +kernel
theorem dX4_chosen_20 : decode cX4_chosen 20 = .ok (.aload_n 0, 1) := by decide +kernel
theorem dX4_chosen_21 : decode cX4_chosen 21 = .ok (.getfield 58, 3) := by decide +kernel
theorem dX4_chosen_24 : decode cX4_chosen 24 = .ok (.iload_n 2, 1) := by decide +kernel
theorem dX4_chosen_25 : decode cX4_chosen 25 = .ok (.iaload, 1) := by decide +kernel
theorem dX4_chosen_26 : decode cX4_chosen 26 = .ok (.iconst 4, 1) := by decide +kernel
theorem dX4_chosen_27 : decode cX4_chosen 27 = .ok (.if_icmp .ne 7, 3) := by decide +kernel
theorem dX4_chosen_30 : decode cX4_chosen 30 = .ok (.iconst 1, 1) := by decide +kernel
theorem dX4_chosen_31 : decode cX4_chosen 31 = .ok (.goto 32, 3) := by decide +kernel
theorem dX4_chosen_34 : decode cX4_chosen 34 = .ok (.iconst 0, 1) := by decide +kernel
theorem dX4_chosen_35 : decode cX4_chosen 35 = .ok (.goto 28, 3) := by decide +kernel
theorem dX4_chosen_38 : decode cX4_chosen 38 = .ok (.aload_n 0, 1) := by decide +kernel
theorem dX4_chosen_39 : decode cX4_chosen 39 = .ok (.getfield 58, 3) := by decide +kernel
theorem dX4_chosen_42 : decode cX4_chosen 42 = .ok (.iload_n 2, 1) := by decide +kernel
theorem dX4_chosen_43 : decode cX4_chosen 43 = .ok (.iaload, 1) := by decide +kernel
theorem dX4_chosen_44 : decode cX4_chosen 44 = .ok (.iconst 1, 1) := by decide +kernel
theorem dX4_chosen_45 : decode cX4_chosen 45 = .ok (.if_icmp .eq 13, 3) := by decide +kernel
theorem dX4_chosen_48 : decode cX4_chosen 48 = .ok (.aload_n 0, 1) := by decide +kernel
theorem dX4_chosen_49 : decode cX4_chosen 49 = .ok (.getfield 58, 3) := by decide +kernel
theorem dX4_chosen_52 : decode cX4_chosen 52 = .ok (.iload_n 2, 1) := by decide +kernel
theorem dX4_chosen_53 : decode cX4_chosen 53 = .ok (.iaload, 1) := by decide +kernel
theorem dX4_chosen_54 : decode cX4_chosen 54 = .ok (.iconst 2, 1) := by decide +kernel
theorem dX4_chosen_55 : decode cX4_chosen 55 = .ok (.if_icmp .ne 7, 3) := by decide +kernel
theorem dX4_chosen_58 : decode cX4_chosen 58 = .ok (.iconst 1, 1) := by decide +kernel
theorem dX4_chosen_59 : decode cX4_chosen 59 = .ok (.goto 4, 3) := by decide +kernel
theorem dX4_chosen_62 : decode cX4_chosen 62 = .ok (.iconst 0, 1) := by decide +kernel
theorem dX4_chosen_63 : decode cX4_chosen 63 = .ok (.istore_n 3, 1) := by decide +kernel
theorem dX4_chosen_64 : decode cX4_chosen 64 = .ok (.iload_n 1, 1) := by decide +kernel
theorem dX4_chosen_65 : decode cX4_chosen 65 = .ok (.ifCond .eq 26, 3) := by decide +kernel
theorem dX4_chosen_68 : decode cX4_chosen 68 = .ok (.aload_n 0, 1) := by decide +kernel
theorem dX4_chosen_69 : decode cX4_chosen 69 = .ok (.getfield 103, 3) := by decide +kernel
theorem dX4_chosen_72 : decode cX4_chosen 72 = .ok (.iconst 4, 1) := by decide +kernel
theorem dX4_chosen_73 : decode cX4_chosen 73 = .ok (.if_icmp .ne 22, 3) := by decide +kernel
theorem dX4_chosen_76 : decode cX4_chosen 76 = .ok (.aload_n 0, 1) := by decide +kernel
theorem dX4_chosen_77 : decode cX4_chosen 77 = .ok (.getfield 64, 3) := by decide +kernel
theorem dX4_chosen_80 : decode cX4_chosen 80 = .ok (.iload_n 2, 1) := by decide +kernel
theorem dX4_chosen_81 : decode cX4_chosen 81 = .ok (.iaload, 1) := by decide +kernel
theorem dX4_chosen_82 : decode cX4_chosen 82 = .ok (.aload_n 0, 1) := by decide +kernel
theorem dX4_chosen_83 : decode cX4_chosen 83 = .ok (.getfield 64, 3) := by decide +kernel
theorem dX4_chosen_86 : decode cX4_chosen 86 = .ok (.iload_n 1, 1) := by decide +kernel
theorem dX4_chosen_87 : decode cX4_chosen 87 = .ok (.iaload, 1) := by decide +kernel
theorem dX4_chosen_88 : decode cX4_chosen 88 = .ok (.if_icmp .le 7, 3) := by decide +kernel
theorem dX4_chosen_91 : decode cX4_chosen 91 = .ok (.iconst 1, 1) := by decide +kernel
theorem dX4_chosen_92 : decode cX4_chosen 92 = .ok (.goto 4, 3) := by decide +kernel
theorem dX4_chosen_95 : decode cX4_chosen 95 = .ok (.iconst 0, 1) := by decide +kernel
theorem dX4_chosen_96 : decode cX4_chosen 96 = .ok (.istore 4, 2) := by decide +kernel
theorem dX4_chosen_98 : decode cX4_chosen 98 = .ok (.iload_n 3, 1) := by decide +kernel
theorem dX4_chosen_99 : decode cX4_chosen 99 = .ok (.ifCond .eq 12, 3) := by decide +kernel
theorem dX4_chosen_102 : decode cX4_chosen 102 = .ok (.iload 4, 2) := by decide +kernel
theorem dX4_chosen_104 : decode cX4_chosen 104 = .ok (.ifCond .eq 7, 3) := by decide +kernel
theorem dX4_chosen_107 : decode cX4_chosen 107 = .ok (.iload_n 2, 1) := by decide +kernel
theorem dX4_chosen_108 : decode cX4_chosen 108 = .ok (.goto 4, 3) := by decide +kernel
theorem dX4_chosen_111 : decode cX4_chosen 111 = .ok (.iload_n 1, 1) := by decide +kernel
theorem dX4_chosen_112 : decode cX4_chosen 112 = .ok (.istore_n 1, 1) := by decide +kernel
theorem dX4_chosen_113 : decode cX4_chosen 113 = .ok (.iinc 2 1, 3) := by decide +kernel
theorem dX4_chosen_116 : decode cX4_chosen 116 = .ok (.goto (-112), 3) := by decide +kernel
theorem dX4_chosen_119 : decode cX4_chosen 119 = .ok (.iload_n 1, 1) := by decide +kernel
theorem dX4_chosen_120 : decode cX4_chosen 120 = .ok (.ireturn, 1) := by decide +kernel
set_option maxRecDepth 20000 in
theorem ggX4_passOver_X4_leastBase : GoodIn wsX4_passOver wsX4_leastBase := goodIn_r _ [8, 3, 9, 17, 18, 19, 20, 21, 22, 23, 24, 25, 26, 27, 28, 29, 30, 31, 32, 33, 34, 35, 36, 37, 38, 39, 40, 41, 42, 43, 44] (by decide +kernel) (by decide +kernel)
set_option maxRecDepth 20000 in
theorem gX4_passOver_X4_leastBase : GoodIn wsX4_passOver (wsV RX4 138 RX4 yX4_leastBase wsX4_leastBase) := goodIn_app (goodIn_of _ (by decide +kernel)) ggX4_passOver_X4_leastBase
set_option maxRecDepth 20000 in
theorem ggX4_passOver_X4_chosen : GoodIn wsX4_passOver wsX4_chosen := goodIn_r _ [13, 14, 1, 15, 16, 17, 18, 19, 20, 21, 22, 23, 24, 25, 26, 27, 28, 29, 30, 31, 32, 33, 34, 35, 36, 37, 38, 39, 40, 41, 42, 43, 44] (by decide +kernel) (by decide +kernel)
set_option maxRecDepth 20000 in
theorem gX4_passOver_X4_chosen : GoodIn wsX4_passOver (wsV RX4 141 RX4 yX4_chosen wsX4_chosen) := goodIn_app (goodIn_of _ (by decide +kernel)) ggX4_passOver_X4_chosen
theorem dX4_passOver_0 : decode cX4_passOver 0 = .ok (.aload_n 0, 1) := by decide +kernel
theorem dX4_passOver_1 : decode cX4_passOver 1 = .ok (.getfield 103, 3) := by decide +kernel
theorem dX4_passOver_4 : decode cX4_passOver 4 = .ok (.iconst 1, 1) := by decide +kernel
theorem dX4_passOver_5 : decode cX4_passOver 5 = .ok (.if_icmp .ne 27, 3) := by decide +kernel
theorem dX4_passOver_8 : decode cX4_passOver 8 = .ok (.aload_n 0, 1) := by decide +kernel
theorem dX4_passOver_9 : decode cX4_passOver 9 = .ok (.getfield 132, 3) := by decide +kernel
theorem dX4_passOver_12 : decode cX4_passOver 12 = .ok (.aload_n 0, 1) := by decide +kernel
theorem dX4_passOver_13 : decode cX4_passOver 13 = .ok (.getfield 78, 3) := by decide +kernel
theorem dX4_passOver_16 : decode cX4_passOver 16 = .ok (.if_icmp .le 16, 3) := by decide +kernel
theorem dX4_passOver_19 : decode cX4_passOver 19 = .ok (.aload_n 0, 1) := by decide +kernel
theorem dX4_passOver_20 : decode cX4_passOver 20 = .ok (.iconst 2, 1) := by decide +kernel
theorem dX4_passOver_21 : decode cX4_passOver 21 = .ok (.putfield 103, 3) := by decide +kernel
