theorem dX0_init_0 : decode cX0_init 0 = .ok (.aload_n 0, 1) := by decide +kernel
theorem dX0_init_1 : decode cX0_init 1 = .ok (.invokespecial 1, 3) := by decide +kernel
theorem dX0_init_4 : decode cX0_init 4 = .ok (.aload_n 0, 1) := by decide +kernel
theorem dX0_init_5 : decode cX0_init 5 = .ok (.sipush 896, 3) := by decide +kernel
theorem dX0_init_8 : decode cX0_init 8 = .ok (.newarray .int, 2) := by decide +kernel
theorem dX0_init_10 : decode cX0_init 10 = .ok (.putfield 9, 3) := by decide +kernel
theorem dX0_init_13 : decode cX0_init 13 = .ok (.aload_n 0, 1) := by decide +kernel
theorem dX0_init_14 : decode cX0_init 14 = .ok (.iconst 0, 1) := by decide +kernel
theorem dX0_init_15 : decode cX0_init 15 = .ok (.putfield 13, 3) := by decide +kernel
theorem dX0_init_18 : decode cX0_init 18 = .ok (.aload_n 0, 1) := by decide +kernel
theorem dX0_init_19 : decode cX0_init 19 = .ok (.iconst 0, 1) := by decide +kernel
theorem dX0_init_20 : decode cX0_init 20 = .ok (.putfield 17, 3) := by decide +kernel
theorem dX0_init_23 : decode cX0_init 23 = .ok (.aload_n 0, 1) := by decide +kernel
theorem dX0_init_24 : decode cX0_init 24 = .ok (.iconst 0, 1) := by decide +kernel
theorem dX0_init_25 : decode cX0_init 25 = .ok (.putfield 20, 3) := by decide +kernel
theorem dX0_init_28 : decode cX0_init 28 = .ok (.return_, 1) := by decide +kernel
theorem dX0_recordsHeld_0 : decode cX0_recordsHeld 0 = .ok (.aload_n 0, 1) := by decide +kernel
theorem dX0_recordsHeld_1 : decode cX0_recordsHeld 1 = .ok (.getfield 13, 3) := by decide +kernel
theorem dX0_recordsHeld_4 : decode cX0_recordsHeld 4 = .ok (.ireturn, 1) := by decide +kernel
theorem dX0_forcedHeld_0 : decode cX0_forcedHeld 0 = .ok (.aload_n 0, 1) := by decide +kernel
theorem dX0_forcedHeld_1 : decode cX0_forcedHeld 1 = .ok (.getfield 17, 3) := by decide +kernel
theorem dX0_forcedHeld_4 : decode cX0_forcedHeld 4 = .ok (.ireturn, 1) := by decide +kernel
theorem dX0_changesHeld_0 : decode cX0_changesHeld 0 = .ok (.aload_n 0, 1) := by decide +kernel
theorem dX0_changesHeld_1 : decode cX0_changesHeld 1 = .ok (.getfield 20, 3) := by decide +kernel
theorem dX0_changesHeld_4 : decode cX0_changesHeld 4 = .ok (.ireturn, 1) := by decide +kernel
theorem dX0_holds_0 : decode cX0_holds 0 = .ok (.iload_n 1, 1) := by decide +kernel
theorem dX0_holds_1 : decode cX0_holds 1 = .ok (.iconst 1, 1) := by decide +kernel
theorem dX0_holds_2 : decode cX0_holds 2 = .ok (.if_icmp .lt 15, 3) := by decide +kernel
theorem dX0_holds_5 : decode cX0_holds 5 = .ok (.iload_n 1, 1) := by decide +kernel
theorem dX0_holds_6 : decode cX0_holds 6 = .ok (.aload_n 0, 1) := by decide +kernel
theorem dX0_holds_7 : decode cX0_holds 7 = .ok (.getfield 13, 3) := by decide +kernel
theorem dX0_holds_10 : decode cX0_holds 10 = .ok (.if_icmp .gt 7, 3) := by decide +kernel
theorem dX0_holds_13 : decode cX0_holds 13 = .ok (.iconst 1, 1) := by decide +kernel
theorem dX0_holds_14 : decode cX0_holds 14 = .ok (.goto 4, 3) := by decide +kernel
theorem dX0_holds_17 : decode cX0_holds 17 = .ok (.iconst 0, 1) := by decide +kernel
theorem dX0_holds_18 : decode cX0_holds 18 = .ok (.ireturn, 1) := by decide +kernel
set_option maxRecDepth 20000 in
theorem ggX0_read_X0_holds : GoodIn wsX0_read wsX0_holds := goodIn_r _ [6, 7, 8, 9, 10, 11] (by decide +kernel) (by decide +kernel)
set_option maxRecDepth 20000 in
theorem gX0_read_X0_holds : GoodIn wsX0_read (wsV RX0 23 RX0 yX0_holds wsX0_holds) := goodIn_app (goodIn_of _ (by decide +kernel)) ggX0_read_X0_holds
theorem dX0_read_0 : decode cX0_read 0 = .ok (.aload_n 0, 1) := by decide +kernel
theorem dX0_read_1 : decode cX0_read 1 = .ok (.iload_n 1, 1) := by decide +kernel
theorem dX0_read_2 : decode cX0_read 2 = .ok (.invokevirtual 23, 3) := by decide +kernel
theorem dX0_read_5 : decode cX0_read 5 = .ok (.ifCond .eq 13, 3) := by decide +kernel
theorem dX0_read_8 : decode cX0_read 8 = .ok (.iload_n 2, 1) := by decide +kernel
theorem dX0_read_9 : decode cX0_read 9 = .ok (.ifCond .lt 9, 3) := by decide +kernel
theorem dX0_read_12 : decode cX0_read 12 = .ok (.iload_n 2, 1) := by decide +kernel
theorem dX0_read_13 : decode cX0_read 13 = .ok (.bipush 6, 2) := by decide +kernel
theorem dX0_read_15 : decode cX0_read 15 = .ok (.if_icmp .le 5, 3) := by decide +kernel
theorem dX0_read_18 : decode cX0_read 18 = .ok (.iconst 0, 1) := by decide +kernel
theorem dX0_read_19 : decode cX0_read 19 = .ok (.ireturn, 1) := by decide +kernel
theorem dX0_read_20 : decode cX0_read 20 = .ok (.aload_n 0, 1) := by decide +kernel
theorem dX0_read_21 : decode cX0_read 21 = .ok (.getfield 9, 3) := by decide +kernel
theorem dX0_read_24 : decode cX0_read 24 = .ok (.iload_n 1, 1) := by decide +kernel
theorem dX0_read_25 : decode cX0_read 25 = .ok (.iconst 1, 1) := by decide +kernel
theorem dX0_read_26 : decode cX0_read 26 = .ok (.isub, 1) := by decide +kernel
theorem dX0_read_27 : decode cX0_read 27 = .ok (.bipush 7, 2) := by decide +kernel
theorem dX0_read_29 : decode cX0_read 29 = .ok (.imul, 1) := by decide +kernel
theorem dX0_read_30 : decode cX0_read 30 = .ok (.iload_n 2, 1) := by decide +kernel
theorem dX0_read_31 : decode cX0_read 31 = .ok (.iadd, 1) := by decide +kernel
theorem dX0_read_32 : decode cX0_read 32 = .ok (.iaload, 1) := by decide +kernel
theorem dX0_read_33 : decode cX0_read 33 = .ok (.ireturn, 1) := by decide +kernel
set_option maxRecDepth 20000 in
theorem ggX0_changesPage_X0_read : GoodIn wsX0_changesPage wsX0_read := goodIn_r _ [5, 6, 7, 8, 9, 4, 10, 11, 12, 13, 14, 15] (by decide +kernel) (by decide +kernel)
set_option maxRecDepth 20000 in
theorem gX0_changesPage_X0_read : GoodIn wsX0_changesPage (wsV RX0 27 RX0 yX0_read wsX0_read) := goodIn_app (goodIn_of _ (by decide +kernel)) ggX0_changesPage_X0_read
theorem dX0_changesPage_0 : decode cX0_changesPage 0 = .ok (.aload_n 0, 1) := by decide +kernel
theorem dX0_changesPage_1 : decode cX0_changesPage 1 = .ok (.iload_n 1, 1) := by decide +kernel
theorem dX0_changesPage_2 : decode cX0_changesPage 2 = .ok (.iconst 0, 1) := by decide +kernel
theorem dX0_changesPage_3 : decode cX0_changesPage 3 = .ok (.invokevirtual 27, 3) := by decide +kernel
theorem dX0_changesPage_6 : decode cX0_changesPage 6 = .ok (.istore_n 2, 1) := by decide +kernel
theorem dX0_changesPage_7 : decode cX0_changesPage 7 = .ok (.iload_n 2, 1) := by decide +kernel
theorem dX0_changesPage_8 : decode cX0_changesPage 8 = .ok (.iconst 1, 1) := by decide +kernel
theorem dX0_changesPage_9 : decode cX0_changesPage 9 = .ok (.if_icmp .eq 8, 3) := by decide +kernel
theorem dX0_changesPage_12 : decode cX0_changesPage 12 = .ok (.iload_n 2, 1) := by decide +kernel
theorem dX0_changesPage_13 : decode cX0_changesPage 13 = .ok (.iconst 2, 1) := by decide +kernel
theorem dX0_changesPage_14 : decode cX0_changesPage 14 = .ok (.if_icmp .ne 7, 3) := by decide +kernel
theorem dX0_changesPage_17 : decode cX0_changesPage 17 = .ok (.iconst 1, 1) := by decide +kernel
theorem dX0_changesPage_18 : decode cX0_changesPage 18 = .ok (.goto 4, 3) := by decide +kernel
theorem dX0_changesPage_21 : decode cX0_changesPage 21 = .ok (.iconst 0, 1) := by decide +kernel
theorem dX0_changesPage_22 : decode cX0_changesPage 22 = .ok (.ireturn, 1) := by decide +kernel
set_option maxRecDepth 20000 in
theorem ggX0_append_J7_copyOf_59c91 : GoodIn wsX0_append wsJ7_copyOf_59c91 := goodIn_r _ [7, 8, 9, 10, 11, 12, 13, 14, 15, 16, 17, 18, 19, 20, 21, 22] (by decide +kernel) (by decide +kernel)
set_option maxRecDepth 20000 in
theorem gX0_append_J7_copyOf_59c91 : GoodIn wsX0_append (va_wsS RX0 31 yJ7_copyOf_59c91 wsJ7_copyOf_59c91) := goodIn_app (goodIn_of _ (by decide +kernel)) ggX0_append_J7_copyOf_59c91
theorem dX0_append_0 : decode cX0_append 0 = .ok (.aload_n 0, 1) := by decide +kernel
theorem dX0_append_1 : decode cX0_append 1 = .ok (.getfield 13, 3) := by decide +kernel
theorem dX0_append_4 : decode cX0_append 4 = .ok (.bipush 7, 2) := by decide +kernel
theorem dX0_append_6 : decode cX0_append 6 = .ok (.imul, 1) := by decide +kernel
theorem dX0_append_7 : decode cX0_append 7 = .ok (.istore 8, 2) := by decide +kernel
theorem dX0_append_9 : decode cX0_append 9 = .ok (.iload 8, 2) := by decide +kernel
theorem dX0_append_11 : decode cX0_append 11 = .ok (.bipush 7, 2) := by decide +kernel
theorem dX0_append_13 : decode cX0_append 13 = .ok (.iadd, 1) := by decide +kernel
theorem dX0_append_14 : decode cX0_append 14 = .ok (.aload_n 0, 1) := by decide +kernel
theorem dX0_append_15 : decode cX0_append 15 = .ok (.getfield 9, 3) := by decide +kernel
theorem dX0_append_18 : decode cX0_append 18 = .ok (.arraylength, 1) := by decide +kernel
theorem dX0_append_19 : decode cX0_append 19 = .ok (.if_icmp .le 21, 3) := by decide +kernel
theorem dX0_append_22 : decode cX0_append 22 = .ok (.aload_n 0, 1) := by decide +kernel
theorem dX0_append_23 : decode cX0_append 23 = .ok (.aload_n 0, 1) := by decide +kernel
theorem dX0_append_24 : decode cX0_append 24 = .ok (.getfield 9, 3) := by decide +kernel
theorem dX0_append_27 : decode cX0_append 27 = .ok (.aload_n 0, 1) := by decide +kernel
theorem dX0_append_28 : decode cX0_append 28 = .ok (.getfield 9, 3) := by decide +kernel
theorem dX0_append_31 : decode cX0_append 31 = .ok (.arraylength, 1) := by decide +kernel
theorem dX0_append_32 : decode cX0_append 32 = .ok (.iconst 2, 1) := by decide +kernel
theorem dX0_append_33 : decode cX0_append 33 = .ok (.imul, 1) := by decide +kernel
theorem dX0_append_34 : decode cX0_append 34 = .ok (.invokestatic 31, 3) := by decide +kernel
theorem dX0_append_37 : decode cX0_append 37 = .ok (.putfield 9, 3) := by decide +kernel
theorem dX0_append_40 : decode cX0_append 40 = .ok (.aload_n 0, 1) := by decide +kernel
theorem dX0_append_41 : decode cX0_append 41 = .ok (.getfield 9, 3) := by decide +kernel
theorem dX0_append_44 : decode cX0_append 44 = .ok (.iload 8, 2) := by decide +kernel
theorem dX0_append_46 : decode cX0_append 46 = .ok (.iconst 0, 1) := by decide +kernel
theorem dX0_append_47 : decode cX0_append 47 = .ok (.iadd, 1) := by decide +kernel
theorem dX0_append_48 : decode cX0_append 48 = .ok (.iload_n 1, 1) := by decide +kernel
theorem dX0_append_49 : decode cX0_append 49 = .ok (.iastore, 1) := by decide +kernel
theorem dX0_append_50 : decode cX0_append 50 = .ok (.aload_n 0, 1) := by decide +kernel
theorem dX0_append_51 : decode cX0_append 51 = .ok (.getfield 9, 3) := by decide +kernel
theorem dX0_append_54 : decode cX0_append 54 = .ok (.iload 8, 2) := by decide +kernel
theorem dX0_append_56 : decode cX0_append 56 = .ok (.iconst 1, 1) := by decide +kernel
theorem dX0_append_57 : decode cX0_append 57 = .ok (.iadd, 1) := by decide +kernel
theorem dX0_append_58 : decode cX0_append 58 = .ok (.iload_n 2, 1) := by decide +kernel
theorem dX0_append_59 : decode cX0_append 59 = .ok (.iastore, 1) := by decide +kernel
theorem dX0_append_60 : decode cX0_append 60 = .ok (.aload_n 0, 1) := by decide +kernel
theorem dX0_append_61 : decode cX0_append 61 = .ok (.getfield 9, 3) := by decide +kernel
theorem dX0_append_64 : decode cX0_append 64 = .ok (.iload 8, 2) := by decide +kernel
theorem dX0_append_66 : decode cX0_append 66 = .ok (.iconst 2, 1) := by decide +kernel
theorem dX0_append_67 : decode cX0_append 67 = .ok (.iadd, 1) := by decide +kernel
theorem dX0_append_68 : decode cX0_append 68 = .ok (.iload_n 3, 1) := by decide +kernel
theorem dX0_append_69 : decode cX0_append 69 = .ok (.iastore, 1) := by decide +kernel
theorem dX0_append_70 : decode cX0_append 70 = .ok (.aload_n 0, 1) := by decide +kernel
theorem dX0_append_71 : decode cX0_append 71 = .ok (.getfield 9, 3) := by decide +kernel
theorem dX0_append_74 : decode cX0_append 74 = .ok (.iload 8, 2) := by decide +kernel
theorem dX0_append_76 : decode cX0_append 76 = .ok (.iconst 3, 1) := by decide +kernel
theorem dX0_append_77 : decode cX0_append 77 = .ok (.iadd, 1) := by decide +kernel
theorem dX0_append_78 : decode cX0_append 78 = .ok (.iload 4, 2) := by decide +kernel
theorem dX0_append_80 : decode cX0_append 80 = .ok (.iastore, 1) := by decide +kernel
theorem dX0_append_81 : decode cX0_append 81 = .ok (.aload_n 0, 1) := by decide +kernel
theorem dX0_append_82 : decode cX0_append 82 = .ok (.getfield 9, 3) := by decide +kernel
theorem dX0_append_85 : decode cX0_append 85 = .ok (.iload 8, 2) := by decide +kernel
theorem dX0_append_87 : decode cX0_append 87 = .ok (.iconst 4, 1) := by decide +kernel
theorem dX0_append_88 : decode cX0_append 88 = .ok (.iadd, 1) := by decide +kernel
theorem dX0_append_89 : decode cX0_append 89 = .ok (.iload 5, 2) := by decide +kernel
theorem dX0_append_91 : decode cX0_append 91 = .ok (.iastore, 1) := by decide +kernel
theorem dX0_append_92 : decode cX0_append 92 = .ok (.aload_n 0, 1) := by decide +kernel
theorem dX0_append_93 : decode cX0_append 93 = .ok (.getfield 9, 3) := by decide +kernel
theorem dX0_append_96 : decode cX0_append 96 = .ok (.iload 8, 2) := by decide +kernel
theorem dX0_append_98 : decode cX0_append 98 = .ok (.iconst 5, 1) := by decide +kernel
theorem dX0_append_99 : decode cX0_append 99 = .ok (.iadd, 1) := by decide +kernel
theorem dX0_append_100 : decode cX0_append 100 = .ok (.iload 6, 2) := by decide +kernel
theorem dX0_append_102 : decode cX0_append 102 = .ok (.iastore, 1) := by decide +kernel
theorem dX0_append_103 : decode cX0_append 103 = .ok (.aload_n 0, 1) := by decide +kernel
theorem dX0_append_104 : decode cX0_append 104 = .ok (.getfield 9, 3) := by decide +kernel
theorem dX0_append_107 : decode cX0_append 107 = .ok (.iload 8, 2) := by decide +kernel
theorem dX0_append_109 : decode cX0_append 109 = .ok (.bipush 6, 2) := by decide +kernel
theorem dX0_append_111 : decode cX0_append 111 = .ok (.iadd, 1) := by decide +kernel
theorem dX0_append_112 : decode cX0_append 112 = .ok (.iload 7, 2) := by decide +kernel
theorem dX0_append_114 : decode cX0_append 114 = .ok (.iastore, 1) := by decide +kernel
theorem dX0_append_115 : decode cX0_append 115 = .ok (.aload_n 0, 1) := by decide +kernel
theorem dX0_append_116 : decode cX0_append 116 = .ok (.dup, 1) := by decide +kernel
theorem dX0_append_117 : decode cX0_append 117 = .ok (.getfield 13, 3) := by decide +kernel
theorem dX0_append_120 : decode cX0_append 120 = .ok (.iconst 1, 1) := by decide +kernel
theorem dX0_append_121 : decode cX0_append 121 = .ok (.iadd, 1) := by decide +kernel
theorem dX0_append_122 : decode cX0_append 122 = .ok (.putfield 13, 3) := by decide +kernel
theorem dX0_append_125 : decode cX0_append 125 = .ok (.iload_n 1, 1) := by decide +kernel
theorem dX0_append_126 : decode cX0_append 126 = .ok (.iconst 1, 1) := by decide +kernel
theorem dX0_append_127 : decode cX0_append 127 = .ok (.if_icmp .ne 13, 3) := by decide +kernel
theorem dX0_append_130 : decode cX0_append 130 = .ok (.aload_n 0, 1) := by decide +kernel
theorem dX0_append_131 : decode cX0_append 131 = .ok (.dup, 1) := by decide +kernel
theorem dX0_append_132 : decode cX0_append 132 = .ok (.getfield 20, 3) := by decide +kernel
theorem dX0_append_135 : decode cX0_append 135 = .ok (.iconst 1, 1) := by decide +kernel
theorem dX0_append_136 : decode cX0_append 136 = .ok (.iadd, 1) := by decide +kernel
theorem dX0_append_137 : decode cX0_append 137 = .ok (.putfield 20, 3) := by decide +kernel
theorem dX0_append_140 : decode cX0_append 140 = .ok (.aload_n 0, 1) := by decide +kernel
theorem dX0_append_141 : decode cX0_append 141 = .ok (.getfield 13, 3) := by decide +kernel
theorem dX0_append_144 : decode cX0_append 144 = .ok (.ireturn, 1) := by decide +kernel
set_option maxRecDepth 20000 in
theorem ggX0_undoingBehind_X0_read : GoodIn wsX0_undoingBehind wsX0_read := goodIn_r _ [5, 6, 7, 8, 9, 4, 10, 11, 12, 13, 14, 15] (by decide +kernel) (by decide +kernel)
set_option maxRecDepth 20000 in
theorem gX0_undoingBehind_X0_read : GoodIn wsX0_undoingBehind (wsV RX0 27 RX0 yX0_read wsX0_read) := goodIn_app (goodIn_of _ (by decide +kernel)) ggX0_undoingBehind_X0_read
theorem dX0_undoingBehind_0 : decode cX0_undoingBehind 0 = .ok (.aload_n 0, 1) := by decide +kernel
theorem dX0_undoingBehind_1 : decode cX0_undoingBehind 1 = .ok (.iload_n 1, 1) := by decide +kernel
theorem dX0_undoingBehind_2 : decode cX0_undoingBehind 2 = .ok (.iconst 2, 1) := by decide +kernel
theorem dX0_undoingBehind_3 : decode cX0_undoingBehind 3 = .ok (.invokevirtual 27, 3) := by decide +kernel
theorem dX0_undoingBehind_6 : decode cX0_undoingBehind 6 = .ok (.istore_n 2, 1) := by decide +kernel
theorem dX0_undoingBehind_7 : decode cX0_undoingBehind 7 = .ok (.aload_n 0, 1) := by decide +kernel
theorem dX0_undoingBehind_8 : decode cX0_undoingBehind 8 = .ok (.iload_n 2, 1) := by decide +kernel
theorem dX0_undoingBehind_9 : decode cX0_undoingBehind 9 = .ok (.iconst 0, 1) := by decide +kernel
theorem dX0_undoingBehind_10 : decode cX0_undoingBehind 10 = .ok (.invokevirtual 27, 3) := by decide +kernel
theorem dX0_undoingBehind_13 : decode cX0_undoingBehind 13 = .ok (.iconst 2, 1) := by decide +kernel
theorem dX0_undoingBehind_14 : decode cX0_undoingBehind 14 = .ok (.if_icmp .ne 13, 3) := by decide +kernel
theorem dX0_undoingBehind_17 : decode cX0_undoingBehind 17 = .ok (.aload_n 0, 1) := by decide +kernel
theorem dX0_undoingBehind_18 : decode cX0_undoingBehind 18 = .ok (.iload_n 2, 1) := by decide +kernel
theorem dX0_undoingBehind_19 : decode cX0_undoingBehind 19 = .ok (.bipush 6, 2) := by decide +kernel
theorem dX0_undoingBehind_21 : decode cX0_undoingBehind 21 = .ok (.invokevirtual 27, 3) := by decide +kernel
theorem dX0_undoingBehind_24 : decode cX0_undoingBehind 24 = .ok (.goto 4, 3) := by decide +kernel
theorem dX0_undoingBehind_27 : decode cX0_undoingBehind 27 = .ok (.iload_n 2, 1) := by decide +kernel
theorem dX0_undoingBehind_28 : decode cX0_undoingBehind 28 = .ok (.ireturn, 1) := by decide +kernel
theorem dX0_forceUpTo_0 : decode cX0_forceUpTo 0 = .ok (.aload_n 0, 1) := by decide +kernel
theorem dX0_forceUpTo_1 : decode cX0_forceUpTo 1 = .ok (.aload_n 0, 1) := by decide +kernel
theorem dX0_forceUpTo_2 : decode cX0_forceUpTo 2 = .ok (.getfield 17, 3) := by decide +kernel
theorem dX0_forceUpTo_5 : decode cX0_forceUpTo 5 = .ok (.iload_n 1, 1) := by decide +kernel
theorem dX0_forceUpTo_6 : decode cX0_forceUpTo 6 = .ok (.aload_n 0, 1) := by decide +kernel
theorem dX0_forceUpTo_7 : decode cX0_forceUpTo 7 = .ok (.getfield 13, 3) := by decide +kernel
theorem dX0_forceUpTo_10 : decode cX0_forceUpTo 10 = .ok (.invokestatic 37, 3) := by decide +kernel
theorem dX0_forceUpTo_13 : decode cX0_forceUpTo 13 = .ok (.invokestatic 42, 3) := by decide +kernel
theorem dX0_forceUpTo_16 : decode cX0_forceUpTo 16 = .ok (.putfield 17, 3) := by decide +kernel
theorem dX0_forceUpTo_19 : decode cX0_forceUpTo 19 = .ok (.return_, 1) := by decide +kernel
set_option maxRecDepth 20000 in
theorem ggX0_loseBehind_X0_read : GoodIn wsX0_loseBehind wsX0_read := goodIn_r _ [12, 13, 14, 15, 16, 11, 17, 2, 18, 19, 20, 21] (by decide +kernel) (by decide +kernel)
set_option maxRecDepth 20000 in
theorem gX0_loseBehind_X0_read : GoodIn wsX0_loseBehind (wsV RX0 27 RX0 yX0_read wsX0_read) := goodIn_app (goodIn_of _ (by decide +kernel)) ggX0_loseBehind_X0_read
theorem dX0_loseBehind_0 : decode cX0_loseBehind 0 = .ok (.aload_n 0, 1) := by decide +kernel
theorem dX0_loseBehind_1 : decode cX0_loseBehind 1 = .ok (.getfield 17, 3) := by decide +kernel
theorem dX0_loseBehind_4 : decode cX0_loseBehind 4 = .ok (.iload_n 1, 1) := by decide +kernel
theorem dX0_loseBehind_5 : decode cX0_loseBehind 5 = .ok (.aload_n 0, 1) := by decide +kernel
theorem dX0_loseBehind_6 : decode cX0_loseBehind 6 = .ok (.getfield 13, 3) := by decide +kernel
theorem dX0_loseBehind_9 : decode cX0_loseBehind 9 = .ok (.aload_n 0, 1) := by decide +kernel
theorem dX0_loseBehind_10 : decode cX0_loseBehind 10 = .ok (.getfield 17, 3) := by decide +kernel
theorem dX0_loseBehind_13 : decode cX0_loseBehind 13 = .ok (.isub, 1) := by decide +kernel
theorem dX0_loseBehind_14 : decode cX0_loseBehind 14 = .ok (.invokestatic 37, 3) := by decide +kernel
theorem dX0_loseBehind_17 : decode cX0_loseBehind 17 = .ok (.iadd, 1) := by decide +kernel
theorem dX0_loseBehind_18 : decode cX0_loseBehind 18 = .ok (.istore_n 2, 1) := by decide +kernel
theorem dX0_loseBehind_19 : decode cX0_loseBehind 19 = .ok (.iload_n 2, 1) := by decide +kernel
theorem dX0_loseBehind_20 : decode cX0_loseBehind 20 = .ok (.iconst 1, 1) := by decide +kernel
theorem dX0_loseBehind_21 : decode cX0_loseBehind 21 = .ok (.iadd, 1) := by decide +kernel
theorem dX0_loseBehind_22 : decode cX0_loseBehind 22 = .ok (.istore_n 3, 1) := by decide +kernel
theorem dX0_loseBehind_23 : decode cX0_loseBehind 23 = .ok (.iload_n 3, 1) := by decide +kernel
theorem dX0_loseBehind_24 : decode cX0_loseBehind 24 = .ok (.aload_n 0, 1) := by decide +kernel
theorem dX0_loseBehind_25 : decode cX0_loseBehind 25 = .ok (.getfield 13, 3) := by decide +kernel
theorem dX0_loseBehind_28 : decode cX0_loseBehind 28 = .ok (.if_icmp .gt 29, 3) := by decide +kernel
theorem dX0_loseBehind_31 : decode cX0_loseBehind 31 = .ok (.aload_n 0, 1) := by decide +kernel
theorem dX0_loseBehind_32 : decode cX0_loseBehind 32 = .ok (.iload_n 3, 1) := by decide +kernel
theorem dX0_loseBehind_33 : decode cX0_loseBehind 33 = .ok (.iconst 0, 1) := by decide +kernel
theorem dX0_loseBehind_34 : decode cX0_loseBehind 34 = .ok (.invokevirtual 27, 3) := by decide +kernel
theorem dX0_loseBehind_37 : decode cX0_loseBehind 37 = .ok (.iconst 1, 1) := by decide +kernel
theorem dX0_loseBehind_38 : decode cX0_loseBehind 38 = .ok (.if_icmp .ne 13, 3) := by decide +kernel
theorem dX0_loseBehind_41 : decode cX0_loseBehind 41 = .ok (.aload_n 0, 1) := by decide +kernel
theorem dX0_loseBehind_42 : decode cX0_loseBehind 42 = .ok (.dup, 1) := by decide +kernel
theorem dX0_loseBehind_43 : decode cX0_loseBehind 43 = .ok (.getfield 20, 3) := by decide +kernel
theorem dX0_loseBehind_46 : decode cX0_loseBehind 46 = .ok (.iconst 1, 1) := by decide +kernel
theorem dX0_loseBehind_47 : decode cX0_loseBehind 47 = .ok (.isub, 1) := by decide +kernel
theorem dX0_loseBehind_48 : decode cX0_loseBehind 48 = .ok (.putfield 20, 3) := by decide +kernel
theorem dX0_loseBehind_51 : decode cX0_loseBehind 51 = .ok (.iinc 3 1, 3) := by decide +kernel
theorem dX0_loseBehind_54 : decode cX0_loseBehind 54 = .ok (.goto (-31), 3) := by decide +kernel
theorem dX0_loseBehind_57 : decode cX0_loseBehind 57 = .ok (.aload_n 0, 1) := by decide +kernel
theorem dX0_loseBehind_58 : decode cX0_loseBehind 58 = .ok (.iload_n 2, 1) := by decide +kernel
theorem dX0_loseBehind_59 : decode cX0_loseBehind 59 = .ok (.putfield 13, 3) := by decide +kernel
theorem dX0_loseBehind_62 : decode cX0_loseBehind 62 = .ok (.aload_n 0, 1) := by decide +kernel
theorem dX0_loseBehind_63 : decode cX0_loseBehind 63 = .ok (.iload_n 2, 1) := by decide +kernel
theorem dX0_loseBehind_64 : decode cX0_loseBehind 64 = .ok (.putfield 17, 3) := by decide +kernel
theorem dX0_loseBehind_67 : decode cX0_loseBehind 67 = .ok (.return_, 1) := by decide +kernel
