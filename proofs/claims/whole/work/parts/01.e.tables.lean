theorem dX2_init_0 : decode cX2_init 0 = .ok (.aload_n 0, 1) := by decide +kernel
theorem dX2_init_1 : decode cX2_init 1 = .ok (.invokespecial 1, 3) := by decide +kernel
theorem dX2_init_4 : decode cX2_init 4 = .ok (.aload_n 0, 1) := by decide +kernel
theorem dX2_init_5 : decode cX2_init 5 = .ok (.iconst 0, 1) := by decide +kernel
theorem dX2_init_6 : decode cX2_init 6 = .ok (.putfield 7, 3) := by decide +kernel
theorem dX2_init_9 : decode cX2_init 9 = .ok (.aload_n 0, 1) := by decide +kernel
theorem dX2_init_10 : decode cX2_init 10 = .ok (.bipush 16, 2) := by decide +kernel
theorem dX2_init_12 : decode cX2_init 12 = .ok (.newarray .int, 2) := by decide +kernel
theorem dX2_init_14 : decode cX2_init 14 = .ok (.putfield 13, 3) := by decide +kernel
theorem dX2_init_17 : decode cX2_init 17 = .ok (.aload_n 0, 1) := by decide +kernel
theorem dX2_init_18 : decode cX2_init 18 = .ok (.bipush 16, 2) := by decide +kernel
theorem dX2_init_20 : decode cX2_init 20 = .ok (.newarray .int, 2) := by decide +kernel
theorem dX2_init_22 : decode cX2_init 22 = .ok (.putfield 17, 3) := by decide +kernel
theorem dX2_init_25 : decode cX2_init 25 = .ok (.aload_n 0, 1) := by decide +kernel
theorem dX2_init_26 : decode cX2_init 26 = .ok (.bipush 16, 2) := by decide +kernel
theorem dX2_init_28 : decode cX2_init 28 = .ok (.newarray .int, 2) := by decide +kernel
theorem dX2_init_30 : decode cX2_init 30 = .ok (.putfield 20, 3) := by decide +kernel
theorem dX2_init_33 : decode cX2_init 33 = .ok (.aload_n 0, 1) := by decide +kernel
theorem dX2_init_34 : decode cX2_init 34 = .ok (.bipush 16, 2) := by decide +kernel
theorem dX2_init_36 : decode cX2_init 36 = .ok (.newarray .int, 2) := by decide +kernel
theorem dX2_init_38 : decode cX2_init 38 = .ok (.putfield 23, 3) := by decide +kernel
theorem dX2_init_41 : decode cX2_init 41 = .ok (.aload_n 0, 1) := by decide +kernel
theorem dX2_init_42 : decode cX2_init 42 = .ok (.bipush 64, 2) := by decide +kernel
theorem dX2_init_44 : decode cX2_init 44 = .ok (.newarray .int, 2) := by decide +kernel
theorem dX2_init_46 : decode cX2_init 46 = .ok (.putfield 28, 3) := by decide +kernel
theorem dX2_init_49 : decode cX2_init 49 = .ok (.return_, 1) := by decide +kernel
theorem dX2_isFull_0 : decode cX2_isFull 0 = .ok (.aload_n 0, 1) := by decide +kernel
theorem dX2_isFull_1 : decode cX2_isFull 1 = .ok (.getfield 7, 3) := by decide +kernel
theorem dX2_isFull_4 : decode cX2_isFull 4 = .ok (.bipush 16, 2) := by decide +kernel
theorem dX2_isFull_6 : decode cX2_isFull 6 = .ok (.if_icmp .lt 7, 3) := by decide +kernel
theorem dX2_isFull_9 : decode cX2_isFull 9 = .ok (.iconst 1, 1) := by decide +kernel
theorem dX2_isFull_10 : decode cX2_isFull 10 = .ok (.goto 4, 3) := by decide +kernel
theorem dX2_isFull_13 : decode cX2_isFull 13 = .ok (.iconst 0, 1) := by decide +kernel
theorem dX2_isFull_14 : decode cX2_isFull 14 = .ok (.ireturn, 1) := by decide +kernel
set_option maxRecDepth 20000 in
theorem ggX2_holds_X2_slotOf : GoodIn wsX2_holds wsX2_slotOf := goodIn_r _ [5, 6, 7, 8, 9, 10, 11, 12, 13] (by decide +kernel) (by decide +kernel)
set_option maxRecDepth 20000 in
theorem gX2_holds_X2_slotOf : GoodIn wsX2_holds (wsV RX2 31 RX2 yX2_slotOf wsX2_slotOf) := goodIn_app (goodIn_of _ (by decide +kernel)) ggX2_holds_X2_slotOf
theorem dX2_holds_0 : decode cX2_holds 0 = .ok (.aload_n 0, 1) := by decide +kernel
theorem dX2_holds_1 : decode cX2_holds 1 = .ok (.iload_n 1, 1) := by decide +kernel
theorem dX2_holds_2 : decode cX2_holds 2 = .ok (.invokevirtual 31, 3) := by decide +kernel
theorem dX2_holds_5 : decode cX2_holds 5 = .ok (.iconst (-1), 1) := by decide +kernel
theorem dX2_holds_6 : decode cX2_holds 6 = .ok (.if_icmp .eq 7, 3) := by decide +kernel
theorem dX2_holds_9 : decode cX2_holds 9 = .ok (.iconst 1, 1) := by decide +kernel
theorem dX2_holds_10 : decode cX2_holds 10 = .ok (.goto 4, 3) := by decide +kernel
theorem dX2_holds_13 : decode cX2_holds 13 = .ok (.iconst 0, 1) := by decide +kernel
theorem dX2_holds_14 : decode cX2_holds 14 = .ok (.ireturn, 1) := by decide +kernel
theorem dX2_workAt_0 : decode cX2_workAt 0 = .ok (.iload_n 1, 1) := by decide +kernel
theorem dX2_workAt_1 : decode cX2_workAt 1 = .ok (.ifCond .lt 20, 3) := by decide +kernel
theorem dX2_workAt_4 : decode cX2_workAt 4 = .ok (.iload_n 1, 1) := by decide +kernel
theorem dX2_workAt_5 : decode cX2_workAt 5 = .ok (.aload_n 0, 1) := by decide +kernel
theorem dX2_workAt_6 : decode cX2_workAt 6 = .ok (.getfield 7, 3) := by decide +kernel
theorem dX2_workAt_9 : decode cX2_workAt 9 = .ok (.if_icmp .ge 12, 3) := by decide +kernel
theorem dX2_workAt_12 : decode cX2_workAt 12 = .ok (.aload_n 0, 1) := by decide +kernel
theorem dX2_workAt_13 : decode cX2_workAt 13 = .ok (.getfield 13, 3) := by decide +kernel
theorem dX2_workAt_16 : decode cX2_workAt 16 = .ok (.iload_n 1, 1) := by decide +kernel
theorem dX2_workAt_17 : decode cX2_workAt 17 = .ok (.iaload, 1) := by decide +kernel
theorem dX2_workAt_18 : decode cX2_workAt 18 = .ok (.goto 4, 3) := by decide +kernel
theorem dX2_workAt_21 : decode cX2_workAt 21 = .ok (.iconst 0, 1) := by decide +kernel
theorem dX2_workAt_22 : decode cX2_workAt 22 = .ok (.ireturn, 1) := by decide +kernel
set_option maxRecDepth 20000 in
theorem ggX2_stateOf_X2_slotOf : GoodIn wsX2_stateOf wsX2_slotOf := goodIn_r _ [6, 7, 8, 9, 10, 11, 12, 13, 14] (by decide +kernel) (by decide +kernel)
set_option maxRecDepth 20000 in
theorem gX2_stateOf_X2_slotOf : GoodIn wsX2_stateOf (wsV RX2 31 RX2 yX2_slotOf wsX2_slotOf) := goodIn_app (goodIn_of _ (by decide +kernel)) ggX2_stateOf_X2_slotOf
theorem dX2_stateOf_0 : decode cX2_stateOf 0 = .ok (.aload_n 0, 1) := by decide +kernel
theorem dX2_stateOf_1 : decode cX2_stateOf 1 = .ok (.iload_n 1, 1) := by decide +kernel
theorem dX2_stateOf_2 : decode cX2_stateOf 2 = .ok (.invokevirtual 31, 3) := by decide +kernel
theorem dX2_stateOf_5 : decode cX2_stateOf 5 = .ok (.istore_n 2, 1) := by decide +kernel
theorem dX2_stateOf_6 : decode cX2_stateOf 6 = .ok (.iload_n 2, 1) := by decide +kernel
theorem dX2_stateOf_7 : decode cX2_stateOf 7 = .ok (.iconst (-1), 1) := by decide +kernel
theorem dX2_stateOf_8 : decode cX2_stateOf 8 = .ok (.if_icmp .ne 7, 3) := by decide +kernel
theorem dX2_stateOf_11 : decode cX2_stateOf 11 = .ok (.iconst 0, 1) := by decide +kernel
theorem dX2_stateOf_12 : decode cX2_stateOf 12 = .ok (.goto 9, 3) := by decide +kernel
theorem dX2_stateOf_15 : decode cX2_stateOf 15 = .ok (.aload_n 0, 1) := by decide +kernel
theorem dX2_stateOf_16 : decode cX2_stateOf 16 = .ok (.getfield 17, 3) := by decide +kernel
theorem dX2_stateOf_19 : decode cX2_stateOf 19 = .ok (.iload_n 2, 1) := by decide +kernel
theorem dX2_stateOf_20 : decode cX2_stateOf 20 = .ok (.iaload, 1) := by decide +kernel
theorem dX2_stateOf_21 : decode cX2_stateOf 21 = .ok (.ireturn, 1) := by decide +kernel
set_option maxRecDepth 20000 in
theorem ggX2_lastOf_X2_slotOf : GoodIn wsX2_lastOf wsX2_slotOf := goodIn_r _ [6, 7, 8, 9, 10, 11, 12, 13, 14] (by decide +kernel) (by decide +kernel)
set_option maxRecDepth 20000 in
theorem gX2_lastOf_X2_slotOf : GoodIn wsX2_lastOf (wsV RX2 31 RX2 yX2_slotOf wsX2_slotOf) := goodIn_app (goodIn_of _ (by decide +kernel)) ggX2_lastOf_X2_slotOf
theorem dX2_lastOf_0 : decode cX2_lastOf 0 = .ok (.aload_n 0, 1) := by decide +kernel
theorem dX2_lastOf_1 : decode cX2_lastOf 1 = .ok (.iload_n 1, 1) := by decide +kernel
theorem dX2_lastOf_2 : decode cX2_lastOf 2 = .ok (.invokevirtual 31, 3) := by decide +kernel
theorem dX2_lastOf_5 : decode cX2_lastOf 5 = .ok (.istore_n 2, 1) := by decide +kernel
theorem dX2_lastOf_6 : decode cX2_lastOf 6 = .ok (.iload_n 2, 1) := by decide +kernel
theorem dX2_lastOf_7 : decode cX2_lastOf 7 = .ok (.iconst (-1), 1) := by decide +kernel
theorem dX2_lastOf_8 : decode cX2_lastOf 8 = .ok (.if_icmp .ne 7, 3) := by decide +kernel
theorem dX2_lastOf_11 : decode cX2_lastOf 11 = .ok (.iconst 0, 1) := by decide +kernel
theorem dX2_lastOf_12 : decode cX2_lastOf 12 = .ok (.goto 9, 3) := by decide +kernel
theorem dX2_lastOf_15 : decode cX2_lastOf 15 = .ok (.aload_n 0, 1) := by decide +kernel
theorem dX2_lastOf_16 : decode cX2_lastOf 16 = .ok (.getfield 20, 3) := by decide +kernel
theorem dX2_lastOf_19 : decode cX2_lastOf 19 = .ok (.iload_n 2, 1) := by decide +kernel
theorem dX2_lastOf_20 : decode cX2_lastOf 20 = .ok (.iaload, 1) := by decide +kernel
theorem dX2_lastOf_21 : decode cX2_lastOf 21 = .ok (.ireturn, 1) := by decide +kernel
set_option maxRecDepth 20000 in
theorem ggX2_nextOf_X2_slotOf : GoodIn wsX2_nextOf wsX2_slotOf := goodIn_r _ [6, 7, 8, 9, 10, 11, 12, 13, 14] (by decide +kernel) (by decide +kernel)
set_option maxRecDepth 20000 in
theorem gX2_nextOf_X2_slotOf : GoodIn wsX2_nextOf (wsV RX2 31 RX2 yX2_slotOf wsX2_slotOf) := goodIn_app (goodIn_of _ (by decide +kernel)) ggX2_nextOf_X2_slotOf
theorem dX2_nextOf_0 : decode cX2_nextOf 0 = .ok (.aload_n 0, 1) := by decide +kernel
theorem dX2_nextOf_1 : decode cX2_nextOf 1 = .ok (.iload_n 1, 1) := by decide +kernel
theorem dX2_nextOf_2 : decode cX2_nextOf 2 = .ok (.invokevirtual 31, 3) := by decide +kernel
theorem dX2_nextOf_5 : decode cX2_nextOf 5 = .ok (.istore_n 2, 1) := by decide +kernel
theorem dX2_nextOf_6 : decode cX2_nextOf 6 = .ok (.iload_n 2, 1) := by decide +kernel
theorem dX2_nextOf_7 : decode cX2_nextOf 7 = .ok (.iconst (-1), 1) := by decide +kernel
theorem dX2_nextOf_8 : decode cX2_nextOf 8 = .ok (.if_icmp .ne 7, 3) := by decide +kernel
theorem dX2_nextOf_11 : decode cX2_nextOf 11 = .ok (.iconst 0, 1) := by decide +kernel
theorem dX2_nextOf_12 : decode cX2_nextOf 12 = .ok (.goto 9, 3) := by decide +kernel
theorem dX2_nextOf_15 : decode cX2_nextOf 15 = .ok (.aload_n 0, 1) := by decide +kernel
theorem dX2_nextOf_16 : decode cX2_nextOf 16 = .ok (.getfield 23, 3) := by decide +kernel
theorem dX2_nextOf_19 : decode cX2_nextOf 19 = .ok (.iload_n 2, 1) := by decide +kernel
theorem dX2_nextOf_20 : decode cX2_nextOf 20 = .ok (.iaload, 1) := by decide +kernel
theorem dX2_nextOf_21 : decode cX2_nextOf 21 = .ok (.ireturn, 1) := by decide +kernel
set_option maxRecDepth 20000 in
theorem ggX2_setState_X2_slotOf : GoodIn wsX2_setState wsX2_slotOf := goodIn_r _ [6, 7, 8, 9, 10, 11, 12, 13, 14] (by decide +kernel) (by decide +kernel)
set_option maxRecDepth 20000 in
theorem gX2_setState_X2_slotOf : GoodIn wsX2_setState (wsV RX2 31 RX2 yX2_slotOf wsX2_slotOf) := goodIn_app (goodIn_of _ (by decide +kernel)) ggX2_setState_X2_slotOf
theorem dX2_setState_0 : decode cX2_setState 0 = .ok (.aload_n 0, 1) := by decide +kernel
theorem dX2_setState_1 : decode cX2_setState 1 = .ok (.iload_n 1, 1) := by decide +kernel
theorem dX2_setState_2 : decode cX2_setState 2 = .ok (.invokevirtual 31, 3) := by decide +kernel
theorem dX2_setState_5 : decode cX2_setState 5 = .ok (.istore_n 3, 1) := by decide +kernel
theorem dX2_setState_6 : decode cX2_setState 6 = .ok (.iload_n 3, 1) := by decide +kernel
theorem dX2_setState_7 : decode cX2_setState 7 = .ok (.iconst (-1), 1) := by decide +kernel
theorem dX2_setState_8 : decode cX2_setState 8 = .ok (.if_icmp .eq 10, 3) := by decide +kernel
theorem dX2_setState_11 : decode cX2_setState 11 = .ok (.aload_n 0, 1) := by decide +kernel
theorem dX2_setState_12 : decode cX2_setState 12 = .ok (.getfield 17, 3) := by decide +kernel
theorem dX2_setState_15 : decode cX2_setState 15 = .ok (.iload_n 3, 1) := by decide +kernel
theorem dX2_setState_16 : decode cX2_setState 16 = .ok (.iload_n 2, 1) := by decide +kernel
theorem dX2_setState_17 : decode cX2_setState 17 = .ok (.iastore, 1) := by decide +kernel
theorem dX2_setState_18 : decode cX2_setState 18 = .ok (.return_, 1) := by decide +kernel
set_option maxRecDepth 20000 in
theorem ggX2_setLast_X2_slotOf : GoodIn wsX2_setLast wsX2_slotOf := goodIn_r _ [6, 7, 8, 9, 10, 11, 12, 13, 14] (by decide +kernel) (by decide +kernel)
set_option maxRecDepth 20000 in
theorem gX2_setLast_X2_slotOf : GoodIn wsX2_setLast (wsV RX2 31 RX2 yX2_slotOf wsX2_slotOf) := goodIn_app (goodIn_of _ (by decide +kernel)) ggX2_setLast_X2_slotOf
theorem dX2_setLast_0 : decode cX2_setLast 0 = .ok (.aload_n 0, 1) := by decide +kernel
theorem dX2_setLast_1 : decode cX2_setLast 1 = .ok (.iload_n 1, 1) := by decide +kernel
theorem dX2_setLast_2 : decode cX2_setLast 2 = .ok (.invokevirtual 31, 3) := by decide +kernel
theorem dX2_setLast_5 : decode cX2_setLast 5 = .ok (.istore_n 3, 1) := by decide +kernel
theorem dX2_setLast_6 : decode cX2_setLast 6 = .ok (.iload_n 3, 1) := by decide +kernel
theorem dX2_setLast_7 : decode cX2_setLast 7 = .ok (.iconst (-1), 1) := by decide +kernel
theorem dX2_setLast_8 : decode cX2_setLast 8 = .ok (.if_icmp .eq 10, 3) := by decide +kernel
theorem dX2_setLast_11 : decode cX2_setLast 11 = .ok (.aload_n 0, 1) := by decide +kernel
theorem dX2_setLast_12 : decode cX2_setLast 12 = .ok (.getfield 20, 3) := by decide +kernel
theorem dX2_setLast_15 : decode cX2_setLast 15 = .ok (.iload_n 3, 1) := by decide +kernel
theorem dX2_setLast_16 : decode cX2_setLast 16 = .ok (.iload_n 2, 1) := by decide +kernel
theorem dX2_setLast_17 : decode cX2_setLast 17 = .ok (.iastore, 1) := by decide +kernel
theorem dX2_setLast_18 : decode cX2_setLast 18 = .ok (.return_, 1) := by decide +kernel
set_option maxRecDepth 20000 in
theorem ggX2_setNext_X2_slotOf : GoodIn wsX2_setNext wsX2_slotOf := goodIn_r _ [6, 7, 8, 9, 10, 11, 12, 13, 14] (by decide +kernel) (by decide +kernel)
set_option maxRecDepth 20000 in
theorem gX2_setNext_X2_slotOf : GoodIn wsX2_setNext (wsV RX2 31 RX2 yX2_slotOf wsX2_slotOf) := goodIn_app (goodIn_of _ (by decide +kernel)) ggX2_setNext_X2_slotOf
theorem dX2_setNext_0 : decode cX2_setNext 0 = .ok (.aload_n 0, 1) := by decide +kernel
theorem dX2_setNext_1 : decode cX2_setNext 1 = .ok (.iload_n 1, 1) := by decide +kernel
theorem dX2_setNext_2 : decode cX2_setNext 2 = .ok (.invokevirtual 31, 3) := by decide +kernel
theorem dX2_setNext_5 : decode cX2_setNext 5 = .ok (.istore_n 3, 1) := by decide +kernel
theorem dX2_setNext_6 : decode cX2_setNext 6 = .ok (.iload_n 3, 1) := by decide +kernel
theorem dX2_setNext_7 : decode cX2_setNext 7 = .ok (.iconst (-1), 1) := by decide +kernel
theorem dX2_setNext_8 : decode cX2_setNext 8 = .ok (.if_icmp .eq 10, 3) := by decide +kernel
theorem dX2_setNext_11 : decode cX2_setNext 11 = .ok (.aload_n 0, 1) := by decide +kernel
theorem dX2_setNext_12 : decode cX2_setNext 12 = .ok (.getfield 23, 3) := by decide +kernel
theorem dX2_setNext_15 : decode cX2_setNext 15 = .ok (.iload_n 3, 1) := by decide +kernel
theorem dX2_setNext_16 : decode cX2_setNext 16 = .ok (.iload_n 2, 1) := by decide +kernel
theorem dX2_setNext_17 : decode cX2_setNext 17 = .ok (.iastore, 1) := by decide +kernel
theorem dX2_setNext_18 : decode cX2_setNext 18 = .ok (.return_, 1) := by decide +kernel
set_option maxRecDepth 20000 in
theorem ggX2_bringIn_X2_isFull : GoodIn wsX2_bringIn wsX2_isFull := goodIn_r _ [10, 1, 19, 20, 21, 22, 23, 24] (by decide +kernel) (by decide +kernel)
set_option maxRecDepth 20000 in
theorem gX2_bringIn_X2_isFull : GoodIn wsX2_bringIn (wsV RX2 35 RX2 yX2_isFull wsX2_isFull) := goodIn_app (goodIn_of _ (by decide +kernel)) ggX2_bringIn_X2_isFull
set_option maxRecDepth 20000 in
theorem ggX2_bringIn_X2_slotOf : GoodIn wsX2_bringIn wsX2_slotOf := goodIn_r _ [14, 1, 2, 19, 20, 21, 22, 23, 24] (by decide +kernel) (by decide +kernel)
set_option maxRecDepth 20000 in
theorem gX2_bringIn_X2_slotOf : GoodIn wsX2_bringIn (wsV RX2 31 RX2 yX2_slotOf wsX2_slotOf) := goodIn_app (goodIn_of _ (by decide +kernel)) ggX2_bringIn_X2_slotOf
set_option maxRecDepth 20000 in
theorem ggX2_bringIn_X2_copySlot : GoodIn wsX2_bringIn wsX2_copySlot := goodIn_r _ [18, 2, 3, 4, 5, 19, 20, 21, 22, 23, 24] (by decide +kernel) (by decide +kernel)
set_option maxRecDepth 20000 in
theorem gX2_bringIn_X2_copySlot : GoodIn wsX2_bringIn (wsV RX2 39 RX2 yX2_copySlot wsX2_copySlot) := goodIn_app (goodIn_of _ (by decide +kernel)) ggX2_bringIn_X2_copySlot
theorem dX2_bringIn_0 : decode cX2_bringIn 0 = .ok (.aload_n 0, 1) := by decide +kernel
theorem dX2_bringIn_1 : decode cX2_bringIn 1 = .ok (.invokevirtual 35, 3) := by decide +kernel
theorem dX2_bringIn_4 : decode cX2_bringIn 4 = .ok (.ifCond .ne 12, 3) := by decide +kernel
theorem dX2_bringIn_7 : decode cX2_bringIn 7 = .ok (.aload_n 0, 1) := by decide +kernel
theorem dX2_bringIn_8 : decode cX2_bringIn 8 = .ok (.iload_n 1, 1) := by decide +kernel
theorem dX2_bringIn_9 : decode cX2_bringIn 9 = .ok (.invokevirtual 31, 3) := by decide +kernel
theorem dX2_bringIn_12 : decode cX2_bringIn 12 = .ok (.iconst (-1), 1) := by decide +kernel
theorem dX2_bringIn_13 : decode cX2_bringIn 13 = .ok (.if_icmp .eq 4, 3) := by decide +kernel
theorem dX2_bringIn_16 : decode cX2_bringIn 16 = .ok (.return_, 1) := by decide +kernel
theorem dX2_bringIn_17 : decode cX2_bringIn 17 = .ok (.aload_n 0, 1) := by decide +kernel
theorem dX2_bringIn_18 : decode cX2_bringIn 18 = .ok (.getfield 7, 3) := by decide +kernel
theorem dX2_bringIn_21 : decode cX2_bringIn 21 = .ok (.istore_n 2, 1) := by decide +kernel
theorem dX2_bringIn_22 : decode cX2_bringIn 22 = .ok (.iload_n 2, 1) := by decide +kernel
theorem dX2_bringIn_23 : decode cX2_bringIn 23 = .ok (.ifCond .le 29, 3) := by decide +kernel
theorem dX2_bringIn_26 : decode cX2_bringIn 26 = .ok (.aload_n 0, 1) := by decide +kernel
theorem dX2_bringIn_27 : decode cX2_bringIn 27 = .ok (.getfield 13, 3) := by decide +kernel
theorem dX2_bringIn_30 : decode cX2_bringIn 30 = .ok (.iload_n 2, 1) := by decide +kernel
theorem dX2_bringIn_31 : decode cX2_bringIn 31 = .ok (.iconst 1, 1) := by decide +kernel
theorem dX2_bringIn_32 : decode cX2_bringIn 32 = .ok (.isub, 1) := by decide +kernel
theorem dX2_bringIn_33 : decode cX2_bringIn 33 = .ok (.iaload, 1) := by decide +kernel
theorem dX2_bringIn_34 : decode cX2_bringIn 34 = .ok (.iload_n 1, 1) := by decide +kernel
theorem dX2_bringIn_35 : decode cX2_bringIn 35 = .ok (.if_icmp .le 17, 3) := by decide +kernel
theorem dX2_bringIn_38 : decode cX2_bringIn 38 = .ok (.aload_n 0, 1) := by decide +kernel
theorem dX2_bringIn_39 : decode cX2_bringIn 39 = .ok (.iload_n 2, 1) := by decide +kernel
theorem dX2_bringIn_40 : decode cX2_bringIn 40 = .ok (.iconst 1, 1) := by decide +kernel
theorem dX2_bringIn_41 : decode cX2_bringIn 41 = .ok (.isub, 1) := by decide +kernel
theorem dX2_bringIn_42 : decode cX2_bringIn 42 = .ok (.iload_n 2, 1) := by decide +kernel
theorem dX2_bringIn_43 : decode cX2_bringIn 43 = .ok (.invokevirtual 39, 3) := by decide +kernel
theorem dX2_bringIn_46 : decode cX2_bringIn 46 = .ok (.iinc 2 (-1), 3) := by decide +kernel
theorem dX2_bringIn_49 : decode cX2_bringIn 49 = .ok (.goto (-27), 3) := by decide +kernel
theorem dX2_bringIn_52 : decode cX2_bringIn 52 = .ok (.aload_n 0, 1) := by decide +kernel
theorem dX2_bringIn_53 : decode cX2_bringIn 53 = .ok (.dup, 1) := by decide +kernel
theorem dX2_bringIn_54 : decode cX2_bringIn 54 = .ok (.getfield 7, 3) := by decide +kernel
theorem dX2_bringIn_57 : decode cX2_bringIn 57 = .ok (.iconst 1, 1) := by decide +kernel
theorem dX2_bringIn_58 : decode cX2_bringIn 58 = .ok (.iadd, 1) := by decide +kernel
theorem dX2_bringIn_59 : decode cX2_bringIn 59 = .ok (.putfield 7, 3) := by decide +kernel
theorem dX2_bringIn_62 : decode cX2_bringIn 62 = .ok (.aload_n 0, 1) := by decide +kernel
theorem dX2_bringIn_63 : decode cX2_bringIn 63 = .ok (.getfield 13, 3) := by decide +kernel
theorem dX2_bringIn_66 : decode cX2_bringIn 66 = .ok (.iload_n 2, 1) := by decide +kernel
theorem dX2_bringIn_67 : decode cX2_bringIn 67 = .ok (.iload_n 1, 1) := by decide +kernel
theorem dX2_bringIn_68 : decode cX2_bringIn 68 = .ok (.iastore, 1) := by decide +kernel
theorem dX2_bringIn_69 : decode cX2_bringIn 69 = .ok (.aload_n 0, 1) := by decide +kernel
theorem dX2_bringIn_70 : decode cX2_bringIn 70 = .ok (.getfield 17, 3) := by decide +kernel
theorem dX2_bringIn_73 : decode cX2_bringIn 73 = .ok (.iload_n 2, 1) := by decide +kernel
theorem dX2_bringIn_74 : decode cX2_bringIn 74 = .ok (.iconst 1, 1) := by decide +kernel
theorem dX2_bringIn_75 : decode cX2_bringIn 75 = .ok (.iastore, 1) := by decide +kernel
theorem dX2_bringIn_76 : decode cX2_bringIn 76 = .ok (.aload_n 0, 1) := by decide +kernel
theorem dX2_bringIn_77 : decode cX2_bringIn 77 = .ok (.getfield 20, 3) := by decide +kernel
theorem dX2_bringIn_80 : decode cX2_bringIn 80 = .ok (.iload_n 2, 1) := by decide +kernel
theorem dX2_bringIn_81 : decode cX2_bringIn 81 = .ok (.iconst 0, 1) := by decide +kernel
theorem dX2_bringIn_82 : decode cX2_bringIn 82 = .ok (.iastore, 1) := by decide +kernel
theorem dX2_bringIn_83 : decode cX2_bringIn 83 = .ok (.aload_n 0, 1) := by decide +kernel
theorem dX2_bringIn_84 : decode cX2_bringIn 84 = .ok (.getfield 23, 3) := by decide +kernel
theorem dX2_bringIn_87 : decode cX2_bringIn 87 = .ok (.iload_n 2, 1) := by decide +kernel
theorem dX2_bringIn_88 : decode cX2_bringIn 88 = .ok (.iconst 0, 1) := by decide +kernel
theorem dX2_bringIn_89 : decode cX2_bringIn 89 = .ok (.iastore, 1) := by decide +kernel
theorem dX2_bringIn_90 : decode cX2_bringIn 90 = .ok (.return_, 1) := by decide +kernel
set_option maxRecDepth 20000 in
theorem ggX2_takeOut_X2_slotOf : GoodIn wsX2_takeOut wsX2_slotOf := goodIn_r _ [6, 1, 7, 15, 16, 17, 18, 19, 20] (by decide +kernel) (by decide +kernel)
set_option maxRecDepth 20000 in
theorem gX2_takeOut_X2_slotOf : GoodIn wsX2_takeOut (wsV RX2 31 RX2 yX2_slotOf wsX2_slotOf) := goodIn_app (goodIn_of _ (by decide +kernel)) ggX2_takeOut_X2_slotOf
set_option maxRecDepth 20000 in
theorem ggX2_takeOut_X2_copySlot : GoodIn wsX2_takeOut wsX2_copySlot := goodIn_r _ [11, 7, 12, 13, 14, 15, 16, 17, 18, 19, 20] (by decide +kernel) (by decide +kernel)
set_option maxRecDepth 20000 in
theorem gX2_takeOut_X2_copySlot : GoodIn wsX2_takeOut (wsV RX2 39 RX2 yX2_copySlot wsX2_copySlot) := goodIn_app (goodIn_of _ (by decide +kernel)) ggX2_takeOut_X2_copySlot
theorem dX2_takeOut_0 : decode cX2_takeOut 0 = .ok (.aload_n 0, 1) := by decide +kernel
theorem dX2_takeOut_1 : decode cX2_takeOut 1 = .ok (.iload_n 1, 1) := by decide +kernel
theorem dX2_takeOut_2 : decode cX2_takeOut 2 = .ok (.invokevirtual 31, 3) := by decide +kernel
theorem dX2_takeOut_5 : decode cX2_takeOut 5 = .ok (.istore_n 2, 1) := by decide +kernel
theorem dX2_takeOut_6 : decode cX2_takeOut 6 = .ok (.iload_n 2, 1) := by decide +kernel
theorem dX2_takeOut_7 : decode cX2_takeOut 7 = .ok (.iconst (-1), 1) := by decide +kernel
theorem dX2_takeOut_8 : decode cX2_takeOut 8 = .ok (.if_icmp .ne 4, 3) := by decide +kernel
theorem dX2_takeOut_11 : decode cX2_takeOut 11 = .ok (.return_, 1) := by decide +kernel
theorem dX2_takeOut_12 : decode cX2_takeOut 12 = .ok (.iload_n 2, 1) := by decide +kernel
theorem dX2_takeOut_13 : decode cX2_takeOut 13 = .ok (.istore_n 3, 1) := by decide +kernel
theorem dX2_takeOut_14 : decode cX2_takeOut 14 = .ok (.iload_n 3, 1) := by decide +kernel
theorem dX2_takeOut_15 : decode cX2_takeOut 15 = .ok (.iconst 1, 1) := by decide +kernel
theorem dX2_takeOut_16 : decode cX2_takeOut 16 = .ok (.iadd, 1) := by decide +kernel
theorem dX2_takeOut_17 : decode cX2_takeOut 17 = .ok (.aload_n 0, 1) := by decide +kernel
theorem dX2_takeOut_18 : decode cX2_takeOut 18 = .ok (.getfield 7, 3) := by decide +kernel
theorem dX2_takeOut_21 : decode cX2_takeOut 21 = .ok (.if_icmp .ge 17, 3) := by decide +kernel
theorem dX2_takeOut_24 : decode cX2_takeOut 24 = .ok (.aload_n 0, 1) := by decide +kernel
theorem dX2_takeOut_25 : decode cX2_takeOut 25 = .ok (.iload_n 3, 1) := by decide +kernel
theorem dX2_takeOut_26 : decode cX2_takeOut 26 = .ok (.iconst 1, 1) := by decide +kernel
theorem dX2_takeOut_27 : decode cX2_takeOut 27 = .ok (.iadd, 1) := by decide +kernel
theorem dX2_takeOut_28 : decode cX2_takeOut 28 = .ok (.iload_n 3, 1) := by decide +kernel
theorem dX2_takeOut_29 : decode cX2_takeOut 29 = .ok (.invokevirtual 39, 3) := by decide +kernel
theorem dX2_takeOut_32 : decode cX2_takeOut 32 = .ok (.iinc 3 1, 3) := by decide +kernel
theorem dX2_takeOut_35 : decode cX2_takeOut 35 = .ok (.goto (-21), 3) := by decide +kernel
theorem dX2_takeOut_38 : decode cX2_takeOut 38 = .ok (.aload_n 0, 1) := by decide +kernel
theorem dX2_takeOut_39 : decode cX2_takeOut 39 = .ok (.dup, 1) := by decide +kernel
theorem dX2_takeOut_40 : decode cX2_takeOut 40 = .ok (.getfield 7, 3) := by decide +kernel
theorem dX2_takeOut_43 : decode cX2_takeOut 43 = .ok (.iconst 1, 1) := by decide +kernel
theorem dX2_takeOut_44 : decode cX2_takeOut 44 = .ok (.isub, 1) := by decide +kernel
theorem dX2_takeOut_45 : decode cX2_takeOut 45 = .ok (.putfield 7, 3) := by decide +kernel
theorem dX2_takeOut_48 : decode cX2_takeOut 48 = .ok (.return_, 1) := by decide +kernel
theorem dX2_leastWorkIn_0 : decode cX2_leastWorkIn 0 = .ok (.iconst 0, 1) := by decide +kernel
theorem dX2_leastWorkIn_1 : decode cX2_leastWorkIn 1 = .ok (.istore_n 2, 1) := by decide +kernel
theorem dX2_leastWorkIn_2 : decode cX2_leastWorkIn 2 = .ok (.iload_n 2, 1) := by decide +kernel
theorem dX2_leastWorkIn_3 : decode cX2_leastWorkIn 3 = .ok (.aload_n 0, 1) := by decide +kernel
theorem dX2_leastWorkIn_4 : decode cX2_leastWorkIn 4 = .ok (.getfield 7, 3) := by decide +kernel
theorem dX2_leastWorkIn_7 : decode cX2_leastWorkIn 7 = .ok (.if_icmp .ge 26, 3) := by decide +kernel
theorem dX2_leastWorkIn_10 : decode cX2_leastWorkIn 10 = .ok (.aload_n 0, 1) := by decide +kernel
theorem dX2_leastWorkIn_11 : decode cX2_leastWorkIn 11 = .ok (.getfield 17, 3) := by decide +kernel
theorem dX2_leastWorkIn_14 : decode cX2_leastWorkIn 14 = .ok (.iload_n 2, 1) := by decide +kernel
theorem dX2_leastWorkIn_15 : decode cX2_leastWorkIn 15 = .ok (.iaload, 1) := by decide +kernel
theorem dX2_leastWorkIn_16 : decode cX2_leastWorkIn 16 = .ok (.iload_n 1, 1) := by decide +kernel
theorem dX2_leastWorkIn_17 : decode cX2_leastWorkIn 17 = .ok (.if_icmp .ne 10, 3) := by decide +kernel
theorem dX2_leastWorkIn_20 : decode cX2_leastWorkIn 20 = .ok (.aload_n 0, 1) := by decide +kernel
theorem dX2_leastWorkIn_21 : decode cX2_leastWorkIn 21 = .ok (.getfield 13, 3) := by decide +kernel
theorem dX2_leastWorkIn_24 : decode cX2_leastWorkIn 24 = .ok (.iload_n 2, 1) := by decide +kernel
theorem dX2_leastWorkIn_25 : decode cX2_leastWorkIn 25 = .ok (.iaload, 1) := by decide +kernel
theorem dX2_leastWorkIn_26 : decode cX2_leastWorkIn 26 = .ok (.ireturn, 1) := by decide +kernel
theorem dX2_leastWorkIn_27 : decode cX2_leastWorkIn 27 = .ok (.iinc 2 1, 3) := by decide +kernel
theorem dX2_leastWorkIn_30 : decode cX2_leastWorkIn 30 = .ok (.goto (-28), 3) := by decide +kernel
theorem dX2_leastWorkIn_33 : decode cX2_leastWorkIn 33 = .ok (.iconst 0, 1) := by decide +kernel
theorem dX2_leastWorkIn_34 : decode cX2_leastWorkIn 34 = .ok (.ireturn, 1) := by decide +kernel
theorem dX2_workToUndo_0 : decode cX2_workToUndo 0 = .ok (.iconst (-1), 1) := by decide +kernel
theorem dX2_workToUndo_1 : decode cX2_workToUndo 1 = .ok (.istore_n 1, 1) := by decide +kernel
theorem dX2_workToUndo_2 : decode cX2_workToUndo 2 = .ok (.iconst 0, 1) := by decide +kernel
theorem dX2_workToUndo_3 : decode cX2_workToUndo 3 = .ok (.istore_n 2, 1) := by decide +kernel
theorem dX2_workToUndo_4 : decode cX2_workToUndo 4 = .ok (.iload_n 2, 1) := by decide +kernel
theorem dX2_workToUndo_5 : decode cX2_workToUndo 5 = .ok (.aload_n 0, 1) := by decide +kernel
theorem dX2_workToUndo_6 : decode cX2_workToUndo 6 = .ok (.getfield 7, 3) := by decide +kernel
theorem dX2_workToUndo_9 : decode cX2_workToUndo 9 = .ok (.if_icmp .ge 61, 3) := by decide +kernel
theorem dX2_workToUndo_12 : decode cX2_workToUndo 12 = .ok (.aload_n 0, 1) := by decide +kernel
theorem dX2_workToUndo_13 : decode cX2_workToUndo 13 = .ok (.getfield 17, 3) := by decide +kernel
theorem dX2_workToUndo_16 : decode cX2_workToUndo 16 = .ok (.iload_n 2, 1) := by decide +kernel
theorem dX2_workToUndo_17 : decode cX2_workToUndo 17 = .ok (.iaload, 1) := by decide +kernel
theorem dX2_workToUndo_18 : decode cX2_workToUndo 18 = .ok (.iconst 1, 1) := by decide +kernel
theorem dX2_workToUndo_19 : decode cX2_workToUndo 19 = .ok (.if_icmp .eq 13, 3) := by decide +kernel
theorem dX2_workToUndo_22 : decode cX2_workToUndo 22 = .ok (.aload_n 0, 1) := by decide +kernel
theorem dX2_workToUndo_23 : decode cX2_workToUndo 23 = .ok (.getfield 17, 3) := by decide +kernel
theorem dX2_workToUndo_26 : decode cX2_workToUndo 26 = .ok (.iload_n 2, 1) := by decide +kernel
theorem dX2_workToUndo_27 : decode cX2_workToUndo 27 = .ok (.iaload, 1) := by decide +kernel
theorem dX2_workToUndo_28 : decode cX2_workToUndo 28 = .ok (.iconst 2, 1) := by decide +kernel
theorem dX2_workToUndo_29 : decode cX2_workToUndo 29 = .ok (.if_icmp .ne 7, 3) := by decide +kernel
theorem dX2_workToUndo_32 : decode cX2_workToUndo 32 = .ok (.iconst 1, 1) := by decide +kernel
theorem dX2_workToUndo_33 : decode cX2_workToUndo 33 = .ok (.goto 4, 3) := by decide +kernel
theorem dX2_workToUndo_36 : decode cX2_workToUndo 36 = .ok (.iconst 0, 1) := by decide +kernel
theorem dX2_workToUndo_37 : decode cX2_workToUndo 37 = .ok (.istore_n 3, 1) := by decide +kernel
theorem dX2_workToUndo_38 : decode cX2_workToUndo 38 = .ok (.iload_n 3, 1) := by decide +kernel
theorem dX2_workToUndo_39 : decode cX2_workToUndo 39 = .ok (.ifCond .eq 25, 3) := by decide +kernel
theorem dX2_workToUndo_42 : decode cX2_workToUndo 42 = .ok (.iload_n 1, 1) := by decide +kernel
theorem dX2_workToUndo_43 : decode cX2_workToUndo 43 = .ok (.iconst (-1), 1) := by decide +kernel
theorem dX2_workToUndo_44 : decode cX2_workToUndo 44 = .ok (.if_icmp .eq 18, 3) := by decide +kernel
theorem dX2_workToUndo_47 : decode cX2_workToUndo 47 = .ok (.aload_n 0, 1) := by decide +kernel
theorem dX2_workToUndo_48 : decode cX2_workToUndo 48 = .ok (.getfield 23, 3) := by decide +kernel
theorem dX2_workToUndo_51 : decode cX2_workToUndo 51 = .ok (.iload_n 2, 1) := by decide +kernel
theorem dX2_workToUndo_52 : decode cX2_workToUndo 52 = .ok (.iaload, 1) := by decide +kernel
theorem dX2_workToUndo_53 : decode cX2_workToUndo 53 = .ok (.aload_n 0, 1) := by decide +kernel
theorem dX2_workToUndo_54 : decode cX2_workToUndo 54 = .ok (.getfield 23, 3) := by decide +kernel
theorem dX2_workToUndo_57 : decode cX2_workToUndo 57 = .ok (.iload_n 1, 1) := by decide +kernel
theorem dX2_workToUndo_58 : decode cX2_workToUndo 58 = .ok (.iaload, 1) := by decide +kernel
theorem dX2_workToUndo_59 : decode cX2_workToUndo 59 = .ok (.if_icmp .le 5, 3) := by decide +kernel
theorem dX2_workToUndo_62 : decode cX2_workToUndo 62 = .ok (.iload_n 2, 1) := by decide +kernel
theorem dX2_workToUndo_63 : decode cX2_workToUndo 63 = .ok (.istore_n 1, 1) := by decide +kernel
theorem dX2_workToUndo_64 : decode cX2_workToUndo 64 = .ok (.iinc 2 1, 3) := by decide +kernel
theorem dX2_workToUndo_67 : decode cX2_workToUndo 67 = .ok (.goto (-63), 3) := by decide +kernel
theorem dX2_workToUndo_70 : decode cX2_workToUndo 70 = .ok (.iload_n 1, 1) := by decide +kernel
theorem dX2_workToUndo_71 : decode cX2_workToUndo 71 = .ok (.iconst (-1), 1) := by decide +kernel
theorem dX2_workToUndo_72 : decode cX2_workToUndo 72 = .ok (.if_icmp .ne 7, 3) := by decide +kernel
theorem dX2_workToUndo_75 : decode cX2_workToUndo 75 = .ok (.iconst 0, 1) := by decide +kernel
theorem dX2_workToUndo_76 : decode cX2_workToUndo 76 = .ok (.goto 9, 3) := by decide +kernel
theorem dX2_workToUndo_79 : decode cX2_workToUndo 79 = .ok (.aload_n 0, 1) := by decide +kernel
theorem dX2_workToUndo_80 : decode cX2_workToUndo 80 = .ok (.getfield 13, 3) := by decide +kernel
theorem dX2_workToUndo_83 : decode cX2_workToUndo 83 = .ok (.iload_n 1, 1) := by decide +kernel
theorem dX2_workToUndo_84 : decode cX2_workToUndo 84 = .ok (.iaload, 1) := by decide +kernel
theorem dX2_workToUndo_85 : decode cX2_workToUndo 85 = .ok (.ireturn, 1) := by decide +kernel
set_option maxRecDepth 20000 in
theorem ggX2_baseOf_X1_hasPage : GoodIn wsX2_baseOf wsX1_hasPage := goodIn_r _ [5] (by decide +kernel) (by decide +kernel)
set_option maxRecDepth 20000 in
theorem gX2_baseOf_X1_hasPage : GoodIn wsX2_baseOf (va_wsS RX2 43 yX1_hasPage wsX1_hasPage) := goodIn_app (goodIn_of _ (by decide +kernel)) ggX2_baseOf_X1_hasPage
theorem dX2_baseOf_0 : decode cX2_baseOf 0 = .ok (.iload_n 1, 1) := by decide +kernel
theorem dX2_baseOf_1 : decode cX2_baseOf 1 = .ok (.invokestatic 43, 3) := by decide +kernel
theorem dX2_baseOf_4 : decode cX2_baseOf 4 = .ok (.ifCond .eq 12, 3) := by decide +kernel
theorem dX2_baseOf_7 : decode cX2_baseOf 7 = .ok (.aload_n 0, 1) := by decide +kernel
theorem dX2_baseOf_8 : decode cX2_baseOf 8 = .ok (.getfield 28, 3) := by decide +kernel
theorem dX2_baseOf_11 : decode cX2_baseOf 11 = .ok (.iload_n 1, 1) := by decide +kernel
theorem dX2_baseOf_12 : decode cX2_baseOf 12 = .ok (.iaload, 1) := by decide +kernel
theorem dX2_baseOf_13 : decode cX2_baseOf 13 = .ok (.goto 4, 3) := by decide +kernel
theorem dX2_baseOf_16 : decode cX2_baseOf 16 = .ok (.iconst 0, 1) := by decide +kernel
theorem dX2_baseOf_17 : decode cX2_baseOf 17 = .ok (.ireturn, 1) := by decide +kernel
set_option maxRecDepth 20000 in
theorem ggX2_makeDirty_X1_hasPage : GoodIn wsX2_makeDirty wsX1_hasPage := goodIn_r _ [5] (by decide +kernel) (by decide +kernel)
set_option maxRecDepth 20000 in
theorem gX2_makeDirty_X1_hasPage : GoodIn wsX2_makeDirty (va_wsS RX2 43 yX1_hasPage wsX1_hasPage) := goodIn_app (goodIn_of _ (by decide +kernel)) ggX2_makeDirty_X1_hasPage
theorem dX2_makeDirty_0 : decode cX2_makeDirty 0 = .ok (.iload_n 1, 1) := by decide +kernel
theorem dX2_makeDirty_1 : decode cX2_makeDirty 1 = .ok (.invokestatic 43, 3) := by decide +kernel
theorem dX2_makeDirty_4 : decode cX2_makeDirty 4 = .ok (.ifCond .eq 19, 3) := by decide +kernel
theorem dX2_makeDirty_7 : decode cX2_makeDirty 7 = .ok (.aload_n 0, 1) := by decide +kernel
theorem dX2_makeDirty_8 : decode cX2_makeDirty 8 = .ok (.getfield 28, 3) := by decide +kernel
theorem dX2_makeDirty_11 : decode cX2_makeDirty 11 = .ok (.iload_n 1, 1) := by decide +kernel
theorem dX2_makeDirty_12 : decode cX2_makeDirty 12 = .ok (.iaload, 1) := by decide +kernel
theorem dX2_makeDirty_13 : decode cX2_makeDirty 13 = .ok (.ifCond .ne 10, 3) := by decide +kernel
theorem dX2_makeDirty_16 : decode cX2_makeDirty 16 = .ok (.aload_n 0, 1) := by decide +kernel
theorem dX2_makeDirty_17 : decode cX2_makeDirty 17 = .ok (.getfield 28, 3) := by decide +kernel
theorem dX2_makeDirty_20 : decode cX2_makeDirty 20 = .ok (.iload_n 1, 1) := by decide +kernel
theorem dX2_makeDirty_21 : decode cX2_makeDirty 21 = .ok (.iload_n 2, 1) := by decide +kernel
theorem dX2_makeDirty_22 : decode cX2_makeDirty 22 = .ok (.iastore, 1) := by decide +kernel
theorem dX2_makeDirty_23 : decode cX2_makeDirty 23 = .ok (.return_, 1) := by decide +kernel
set_option maxRecDepth 20000 in
theorem ggX2_makeClean_X1_hasPage : GoodIn wsX2_makeClean wsX1_hasPage := goodIn_r _ [5] (by decide +kernel) (by decide +kernel)
set_option maxRecDepth 20000 in
theorem gX2_makeClean_X1_hasPage : GoodIn wsX2_makeClean (va_wsS RX2 43 yX1_hasPage wsX1_hasPage) := goodIn_app (goodIn_of _ (by decide +kernel)) ggX2_makeClean_X1_hasPage
theorem dX2_makeClean_0 : decode cX2_makeClean 0 = .ok (.iload_n 1, 1) := by decide +kernel
theorem dX2_makeClean_1 : decode cX2_makeClean 1 = .ok (.invokestatic 43, 3) := by decide +kernel
theorem dX2_makeClean_4 : decode cX2_makeClean 4 = .ok (.ifCond .eq 10, 3) := by decide +kernel
theorem dX2_makeClean_7 : decode cX2_makeClean 7 = .ok (.aload_n 0, 1) := by decide +kernel
theorem dX2_makeClean_8 : decode cX2_makeClean 8 = .ok (.getfield 28, 3) := by decide +kernel
theorem dX2_makeClean_11 : decode cX2_makeClean 11 = .ok (.iload_n 1, 1) := by decide +kernel
theorem dX2_makeClean_12 : decode cX2_makeClean 12 = .ok (.iconst 0, 1) := by decide +kernel
theorem dX2_makeClean_13 : decode cX2_makeClean 13 = .ok (.iastore, 1) := by decide +kernel
theorem dX2_makeClean_14 : decode cX2_makeClean 14 = .ok (.return_, 1) := by decide +kernel
theorem dX2_leastBase_0 : decode cX2_leastBase 0 = .ok (.iconst 0, 1) := by decide +kernel
theorem dX2_leastBase_1 : decode cX2_leastBase 1 = .ok (.istore_n 1, 1) := by decide +kernel
theorem dX2_leastBase_2 : decode cX2_leastBase 2 = .ok (.iconst 0, 1) := by decide +kernel
theorem dX2_leastBase_3 : decode cX2_leastBase 3 = .ok (.istore_n 2, 1) := by decide +kernel
theorem dX2_leastBase_4 : decode cX2_leastBase 4 = .ok (.iload_n 2, 1) := by decide +kernel
theorem dX2_leastBase_5 : decode cX2_leastBase 5 = .ok (.aload_n 0, 1) := by decide +kernel
theorem dX2_leastBase_6 : decode cX2_leastBase 6 = .ok (.getfield 28, 3) := by decide +kernel
theorem dX2_leastBase_9 : decode cX2_leastBase 9 = .ok (.arraylength, 1) := by decide +kernel
theorem dX2_leastBase_10 : decode cX2_leastBase 10 = .ok (.if_icmp .ge 39, 3) := by decide +kernel
theorem dX2_leastBase_13 : decode cX2_leastBase 13 = .ok (.aload_n 0, 1) := by decide +kernel
theorem dX2_leastBase_14 : decode cX2_leastBase 14 = .ok (.getfield 28, 3) := by decide +kernel
theorem dX2_leastBase_17 : decode cX2_leastBase 17 = .ok (.iload_n 2, 1) := by decide +kernel
theorem dX2_leastBase_18 : decode cX2_leastBase 18 = .ok (.iaload, 1) := by decide +kernel
theorem dX2_leastBase_19 : decode cX2_leastBase 19 = .ok (.ifCond .eq 24, 3) := by decide +kernel
theorem dX2_leastBase_22 : decode cX2_leastBase 22 = .ok (.iload_n 1, 1) := by decide +kernel
theorem dX2_leastBase_23 : decode cX2_leastBase 23 = .ok (.ifCond .eq 13, 3) := by decide +kernel
theorem dX2_leastBase_26 : decode cX2_leastBase 26 = .ok (.aload_n 0, 1) := by decide +kernel
theorem dX2_leastBase_27 : decode cX2_leastBase 27 = .ok (.getfield 28, 3) := by decide +kernel
theorem dX2_leastBase_30 : decode cX2_leastBase 30 = .ok (.iload_n 2, 1) := by decide +kernel
theorem dX2_leastBase_31 : decode cX2_leastBase 31 = .ok (.iaload, 1) := by decide +kernel
theorem dX2_leastBase_32 : decode cX2_leastBase 32 = .ok (.iload_n 1, 1) := by decide +kernel
theorem dX2_leastBase_33 : decode cX2_leastBase 33 = .ok (.if_icmp .ge 10, 3) := by decide +kernel
theorem dX2_leastBase_36 : decode cX2_leastBase 36 = .ok (.aload_n 0, 1) := by decide +kernel
theorem dX2_leastBase_37 : decode cX2_leastBase 37 = .ok (.getfield 28, 3) := by decide +kernel
theorem dX2_leastBase_40 : decode cX2_leastBase 40 = .ok (.iload_n 2, 1) := by decide +kernel
theorem dX2_leastBase_41 : decode cX2_leastBase 41 = .ok (.iaload, 1) := by decide +kernel
theorem dX2_leastBase_42 : decode cX2_leastBase 42 = .ok (.istore_n 1, 1) := by decide +kernel
theorem dX2_leastBase_43 : decode cX2_leastBase 43 = .ok (.iinc 2 1, 3) := by decide +kernel
theorem dX2_leastBase_46 : decode cX2_leastBase 46 = .ok (.goto (-42), 3) := by decide +kernel
theorem dX2_leastBase_49 : decode cX2_leastBase 49 = .ok (.iload_n 1, 1) := by decide +kernel
theorem dX2_leastBase_50 : decode cX2_leastBase 50 = .ok (.ireturn, 1) := by decide +kernel
set_option maxRecDepth 20000 in
theorem ggX2_makeEmpty_J7_fill_53178 : GoodIn wsX2_makeEmpty wsJ7_fill_53178 := goodIn_r _ [6] (by decide +kernel) (by decide +kernel)
set_option maxRecDepth 20000 in
theorem gX2_makeEmpty_J7_fill_53178 : GoodIn wsX2_makeEmpty (va_wsS RX2 47 yJ7_fill_53178 wsJ7_fill_53178) := goodIn_app (goodIn_of _ (by decide +kernel)) ggX2_makeEmpty_J7_fill_53178
theorem dX2_makeEmpty_0 : decode cX2_makeEmpty 0 = .ok (.aload_n 0, 1) := by decide +kernel
theorem dX2_makeEmpty_1 : decode cX2_makeEmpty 1 = .ok (.iconst 0, 1) := by decide +kernel
theorem dX2_makeEmpty_2 : decode cX2_makeEmpty 2 = .ok (.putfield 7, 3) := by decide +kernel
theorem dX2_makeEmpty_5 : decode cX2_makeEmpty 5 = .ok (.aload_n 0, 1) := by decide +kernel
theorem dX2_makeEmpty_6 : decode cX2_makeEmpty 6 = .ok (.getfield 28, 3) := by decide +kernel
theorem dX2_makeEmpty_9 : decode cX2_makeEmpty 9 = .ok (.iconst 0, 1) := by decide +kernel
theorem dX2_makeEmpty_10 : decode cX2_makeEmpty 10 = .ok (.invokestatic 47, 3) := by decide +kernel
theorem dX2_makeEmpty_13 : decode cX2_makeEmpty 13 = .ok (.return_, 1) := by decide +kernel
set_option maxRecDepth 20000 in
theorem ggX2_becomeLike_X2_makeEmpty : GoodIn wsX2_becomeLike wsX2_makeEmpty := goodIn_r _ [5, 6, 7, 8, 9, 10, 11, 60, 61, 62, 63, 64, 65] (by decide +kernel) (by decide +kernel)
set_option maxRecDepth 20000 in
theorem gX2_becomeLike_X2_makeEmpty : GoodIn wsX2_becomeLike (wsV RX2 53 RX2 yX2_makeEmpty wsX2_makeEmpty) := goodIn_app (goodIn_of _ (by decide +kernel)) ggX2_becomeLike_X2_makeEmpty
set_option maxRecDepth 20000 in
theorem ggX2_becomeLike_X2_bringInMissing : GoodIn wsX2_becomeLike wsX2_bringInMissing := goodIn_r _ [15, 6, 16, 17, 18, 19, 7, 20, 21, 22, 4, 23, 24, 25, 26, 27, 28, 29, 30, 31, 32, 33, 34, 35, 36, 37, 38, 39, 40, 41, 42, 43, 44, 45, 46, 47, 48, 49, 50, 51, 52, 53, 54, 55, 56, 57, 58, 59, 60, 61, 62, 63, 64, 65] (by decide +kernel) (by decide +kernel)
set_option maxRecDepth 20000 in
theorem gX2_becomeLike_X2_bringInMissing : GoodIn wsX2_becomeLike (wsV RX2 56 RX2 yX2_bringInMissing wsX2_bringInMissing) := goodIn_app (goodIn_of _ (by decide +kernel)) ggX2_becomeLike_X2_bringInMissing
theorem dX2_becomeLike_0 : decode cX2_becomeLike 0 = .ok (.aload_n 0, 1) := by decide +kernel
theorem dX2_becomeLike_1 : decode cX2_becomeLike 1 = .ok (.invokevirtual 53, 3) := by decide +kernel
theorem dX2_becomeLike_4 : decode cX2_becomeLike 4 = .ok (.aload_n 0, 1) := by decide +kernel
theorem dX2_becomeLike_5 : decode cX2_becomeLike 5 = .ok (.aload_n 1, 1) := by decide +kernel
theorem dX2_becomeLike_6 : decode cX2_becomeLike 6 = .ok (.invokevirtual 56, 3) := by decide +kernel
theorem dX2_becomeLike_9 : decode cX2_becomeLike 9 = .ok (.return_, 1) := by decide +kernel
set_option maxRecDepth 20000 in
theorem ggX2_bringInMissing_X2_holds : GoodIn wsX2_bringInMissing wsX2_holds := goodIn_r _ [11, 12, 13, 14, 10, 15, 1, 2, 48, 49, 50, 51, 52, 53] (by decide +kernel) (by decide +kernel)
set_option maxRecDepth 20000 in
theorem gX2_bringInMissing_X2_holds : GoodIn wsX2_bringInMissing (wsV RX2 60 RX2 yX2_holds wsX2_holds) := goodIn_app (goodIn_of _ (by decide +kernel)) ggX2_bringInMissing_X2_holds
set_option maxRecDepth 20000 in
theorem ggX2_bringInMissing_X2_bringIn : GoodIn wsX2_bringInMissing wsX2_bringIn := goodIn_r _ [19, 1, 2, 3, 4, 5, 20, 21, 22, 10, 23, 12, 13, 14, 15, 24, 25, 26, 27, 48, 49, 50, 51, 52, 53] (by decide +kernel) (by decide +kernel)
set_option maxRecDepth 20000 in
theorem gX2_bringInMissing_X2_bringIn : GoodIn wsX2_bringInMissing (wsV RX2 63 RX2 yX2_bringIn wsX2_bringIn) := goodIn_app (goodIn_of _ (by decide +kernel)) ggX2_bringInMissing_X2_bringIn
set_option maxRecDepth 20000 in
theorem ggX2_bringInMissing_X2_setState : GoodIn wsX2_bringInMissing wsX2_setState := goodIn_r _ [31, 3, 12, 13, 14, 10, 15, 1, 2, 48, 49, 50, 51, 52, 53] (by decide +kernel) (by decide +kernel)
set_option maxRecDepth 20000 in
theorem gX2_bringInMissing_X2_setState : GoodIn wsX2_bringInMissing (wsV RX2 67 RX2 yX2_setState wsX2_setState) := goodIn_app (goodIn_of _ (by decide +kernel)) ggX2_bringInMissing_X2_setState
set_option maxRecDepth 20000 in
theorem ggX2_bringInMissing_X2_setLast : GoodIn wsX2_bringInMissing wsX2_setLast := goodIn_r _ [35, 4, 12, 13, 14, 10, 15, 1, 2, 48, 49, 50, 51, 52, 53] (by decide +kernel) (by decide +kernel)
set_option maxRecDepth 20000 in
theorem gX2_bringInMissing_X2_setLast : GoodIn wsX2_bringInMissing (wsV RX2 70 RX2 yX2_setLast wsX2_setLast) := goodIn_app (goodIn_of _ (by decide +kernel)) ggX2_bringInMissing_X2_setLast
set_option maxRecDepth 20000 in
theorem ggX2_bringInMissing_X2_setNext : GoodIn wsX2_bringInMissing wsX2_setNext := goodIn_r _ [39, 5, 12, 13, 14, 10, 15, 1, 2, 48, 49, 50, 51, 52, 53] (by decide +kernel) (by decide +kernel)
set_option maxRecDepth 20000 in
theorem gX2_bringInMissing_X2_setNext : GoodIn wsX2_bringInMissing (wsV RX2 73 RX2 yX2_setNext wsX2_setNext) := goodIn_app (goodIn_of _ (by decide +kernel)) ggX2_bringInMissing_X2_setNext
set_option maxRecDepth 20000 in
theorem ggX2_bringInMissing_X2_makeDirty : GoodIn wsX2_bringInMissing wsX2_makeDirty := goodIn_r _ [43, 6, 44, 45, 46, 47, 48, 49, 50, 51, 52, 53] (by decide +kernel) (by decide +kernel)
set_option maxRecDepth 20000 in
theorem gX2_bringInMissing_X2_makeDirty : GoodIn wsX2_bringInMissing (wsV RX2 76 RX2 yX2_makeDirty wsX2_makeDirty) := goodIn_app (goodIn_of _ (by decide +kernel)) ggX2_bringInMissing_X2_makeDirty
theorem dX2_bringInMissing_0 : decode cX2_bringInMissing 0 = .ok (.aload_n 1, 1) := by decide +kernel
theorem dX2_bringInMissing_1 : decode cX2_bringInMissing 1 = .ok (.ifnonnull 4, 3) := by decide +kernel
theorem dX2_bringInMissing_4 : decode cX2_bringInMissing 4 = .ok (.return_, 1) := by decide +kernel
theorem dX2_bringInMissing_5 : decode cX2_bringInMissing 5 = .ok (.iconst 0, 1) := by decide +kernel
theorem dX2_bringInMissing_6 : decode cX2_bringInMissing 6 = .ok (.istore_n 2, 1) := by decide +kernel
theorem dX2_bringInMissing_7 : decode cX2_bringInMissing 7 = .ok (.iload_n 2, 1) := by decide +kernel
theorem dX2_bringInMissing_8 : decode cX2_bringInMissing 8 = .ok (.aload_n 1, 1) := by decide +kernel
theorem dX2_bringInMissing_9 : decode cX2_bringInMissing 9 = .ok (.getfield 7, 3) := by decide +kernel
theorem dX2_bringInMissing_12 : decode cX2_bringInMissing 12 = .ok (.if_icmp .ge 62, 3) := by decide +kernel
theorem dX2_bringInMissing_15 : decode cX2_bringInMissing 15 = .ok (.aload_n 1, 1) := by decide +kernel
theorem dX2_bringInMissing_16 : decode cX2_bringInMissing 16 = .ok (.getfield 13, 3) := by decide +kernel
theorem dX2_bringInMissing_19 : decode cX2_bringInMissing 19 = .ok (.iload_n 2, 1) := by decide +kernel
theorem dX2_bringInMissing_20 : decode cX2_bringInMissing 20 = .ok (.iaload, 1) := by decide +kernel
theorem dX2_bringInMissing_21 : decode cX2_bringInMissing 21 = .ok (.istore_n 3, 1) := by decide +kernel
theorem dX2_bringInMissing_22 : decode cX2_bringInMissing 22 = .ok (.aload_n 0, 1) := by decide +kernel
theorem dX2_bringInMissing_23 : decode cX2_bringInMissing 23 = .ok (.iload_n 3, 1) := by decide +kernel
theorem dX2_bringInMissing_24 : decode cX2_bringInMissing 24 = .ok (.invokevirtual 60, 3) := by decide +kernel
theorem dX2_bringInMissing_27 : decode cX2_bringInMissing 27 = .ok (.ifCond .ne 41, 3) := by decide +kernel
theorem dX2_bringInMissing_30 : decode cX2_bringInMissing 30 = .ok (.aload_n 0, 1) := by decide +kernel
theorem dX2_bringInMissing_31 : decode cX2_bringInMissing 31 = .ok (.iload_n 3, 1) := by decide +kernel
theorem dX2_bringInMissing_32 : decode cX2_bringInMissing 32 = .ok (.invokevirtual 63, 3) := by decide +kernel
theorem dX2_bringInMissing_35 : decode cX2_bringInMissing 35 = .ok (.aload_n 0, 1) := by decide +kernel
theorem dX2_bringInMissing_36 : decode cX2_bringInMissing 36 = .ok (.iload_n 3, 1) := by decide +kernel
theorem dX2_bringInMissing_37 : decode cX2_bringInMissing 37 = .ok (.aload_n 1, 1) := by decide +kernel
theorem dX2_bringInMissing_38 : decode cX2_bringInMissing 38 = .ok (.getfield 17, 3) := by decide +kernel
theorem dX2_bringInMissing_41 : decode cX2_bringInMissing 41 = .ok (.iload_n 2, 1) := by decide +kernel
theorem dX2_bringInMissing_42 : decode cX2_bringInMissing 42 = .ok (.iaload, 1) := by decide +kernel
theorem dX2_bringInMissing_43 : decode cX2_bringInMissing 43 = .ok (.invokevirtual 67, 3) := by decide +kernel
theorem dX2_bringInMissing_46 : decode cX2_bringInMissing 46 = .ok (.aload_n 0, 1) := by decide +kernel
theorem dX2_bringInMissing_47 : decode cX2_bringInMissing 47 = .ok (.iload_n 3, 1) := by decide +kernel
theorem dX2_bringInMissing_48 : decode cX2_bringInMissing 48 = .ok (.aload_n 1, 1) := by decide +kernel
theorem dX2_bringInMissing_49 : decode cX2_bringInMissing 49 = .ok (.getfield 20, 3) := by decide +kernel
theorem dX2_bringInMissing_52 : decode cX2_bringInMissing 52 = .ok (.iload_n 2, 1) := by decide +kernel
theorem dX2_bringInMissing_53 : decode cX2_bringInMissing 53 = .ok (.iaload, 1) := by decide +kernel
theorem dX2_bringInMissing_54 : decode cX2_bringInMissing 54 = .ok (.invokevirtual 70, 3) := by decide +kernel
theorem dX2_bringInMissing_57 : decode cX2_bringInMissing 57 = .ok (.aload_n 0, 1) := by decide +kernel
theorem dX2_bringInMissing_58 : decode cX2_bringInMissing 58 = .ok (.iload_n 3, 1) := by decide +kernel
theorem dX2_bringInMissing_59 : decode cX2_bringInMissing 59 = .ok (.aload_n 1, 1) := by decide +kernel
theorem dX2_bringInMissing_60 : decode cX2_bringInMissing 60 = .ok (.getfield 23, 3) := by decide +kernel
theorem dX2_bringInMissing_63 : decode cX2_bringInMissing 63 = .ok (.iload_n 2, 1) := by decide +kernel
theorem dX2_bringInMissing_64 : decode cX2_bringInMissing 64 = .ok (.iaload, 1) := by decide +kernel
theorem dX2_bringInMissing_65 : decode cX2_bringInMissing 65 = .ok (.invokevirtual 73, 3) := by decide +kernel
theorem dX2_bringInMissing_68 : decode cX2_bringInMissing 68 = .ok (.iinc 2 1, 3) := by decide +kernel
theorem dX2_bringInMissing_71 : decode cX2_bringInMissing 71 = .ok (.goto (-64), 3) := by decide +kernel
theorem dX2_bringInMissing_74 : decode cX2_bringInMissing 74 = .ok (.iconst 0, 1) := by decide +kernel
theorem dX2_bringInMissing_75 : decode cX2_bringInMissing 75 = .ok (.istore_n 2, 1) := by decide +kernel
theorem dX2_bringInMissing_76 : decode cX2_bringInMissing 76 = .ok (.iload_n 2, 1) := by decide +kernel
theorem dX2_bringInMissing_77 : decode cX2_bringInMissing 77 = .ok (.aload_n 1, 1) := by decide +kernel
theorem dX2_bringInMissing_78 : decode cX2_bringInMissing 78 = .ok (.getfield 28, 3) := by decide +kernel
theorem dX2_bringInMissing_81 : decode cX2_bringInMissing 81 = .ok (.arraylength, 1) := by decide +kernel
theorem dX2_bringInMissing_82 : decode cX2_bringInMissing 82 = .ok (.if_icmp .ge 20, 3) := by decide +kernel
theorem dX2_bringInMissing_85 : decode cX2_bringInMissing 85 = .ok (.aload_n 0, 1) := by decide +kernel
theorem dX2_bringInMissing_86 : decode cX2_bringInMissing 86 = .ok (.iload_n 2, 1) := by decide +kernel
theorem dX2_bringInMissing_87 : decode cX2_bringInMissing 87 = .ok (.aload_n 1, 1) := by decide +kernel
theorem dX2_bringInMissing_88 : decode cX2_bringInMissing 88 = .ok (.getfield 28, 3) := by decide +kernel
theorem dX2_bringInMissing_91 : decode cX2_bringInMissing 91 = .ok (.iload_n 2, 1) := by decide +kernel
theorem dX2_bringInMissing_92 : decode cX2_bringInMissing 92 = .ok (.iaload, 1) := by decide +kernel
theorem dX2_bringInMissing_93 : decode cX2_bringInMissing 93 = .ok (.invokevirtual 76, 3) := by decide +kernel
theorem dX2_bringInMissing_96 : decode cX2_bringInMissing 96 = .ok (.iinc 2 1, 3) := by decide +kernel
theorem dX2_bringInMissing_99 : decode cX2_bringInMissing 99 = .ok (.goto (-23), 3) := by decide +kernel
theorem dX2_bringInMissing_102 : decode cX2_bringInMissing 102 = .ok (.return_, 1) := by decide +kernel
theorem dX2_slotOf_0 : decode cX2_slotOf 0 = .ok (.iconst 0, 1) := by decide +kernel
theorem dX2_slotOf_1 : decode cX2_slotOf 1 = .ok (.istore_n 2, 1) := by decide +kernel
theorem dX2_slotOf_2 : decode cX2_slotOf 2 = .ok (.iload_n 2, 1) := by decide +kernel
theorem dX2_slotOf_3 : decode cX2_slotOf 3 = .ok (.aload_n 0, 1) := by decide +kernel
theorem dX2_slotOf_4 : decode cX2_slotOf 4 = .ok (.getfield 7, 3) := by decide +kernel
theorem dX2_slotOf_7 : decode cX2_slotOf 7 = .ok (.if_icmp .ge 21, 3) := by decide +kernel
theorem dX2_slotOf_10 : decode cX2_slotOf 10 = .ok (.aload_n 0, 1) := by decide +kernel
theorem dX2_slotOf_11 : decode cX2_slotOf 11 = .ok (.getfield 13, 3) := by decide +kernel
theorem dX2_slotOf_14 : decode cX2_slotOf 14 = .ok (.iload_n 2, 1) := by decide +kernel
theorem dX2_slotOf_15 : decode cX2_slotOf 15 = .ok (.iaload, 1) := by decide +kernel
theorem dX2_slotOf_16 : decode cX2_slotOf 16 = .ok (.iload_n 1, 1) := by decide +kernel
theorem dX2_slotOf_17 : decode cX2_slotOf 17 = .ok (.if_icmp .ne 5, 3) := by decide +kernel
theorem dX2_slotOf_20 : decode cX2_slotOf 20 = .ok (.iload_n 2, 1) := by decide +kernel
theorem dX2_slotOf_21 : decode cX2_slotOf 21 = .ok (.ireturn, 1) := by decide +kernel
theorem dX2_slotOf_22 : decode cX2_slotOf 22 = .ok (.iinc 2 1, 3) := by decide +kernel
theorem dX2_slotOf_25 : decode cX2_slotOf 25 = .ok (.goto (-23), 3) := by decide +kernel
theorem dX2_slotOf_28 : decode cX2_slotOf 28 = .ok (.iconst (-1), 1) := by decide +kernel
theorem dX2_slotOf_29 : decode cX2_slotOf 29 = .ok (.ireturn, 1) := by decide +kernel
theorem dX2_copySlot_0 : decode cX2_copySlot 0 = .ok (.aload_n 0, 1) := by decide +kernel
theorem dX2_copySlot_1 : decode cX2_copySlot 1 = .ok (.getfield 13, 3) := by decide +kernel
theorem dX2_copySlot_4 : decode cX2_copySlot 4 = .ok (.iload_n 2, 1) := by decide +kernel
theorem dX2_copySlot_5 : decode cX2_copySlot 5 = .ok (.aload_n 0, 1) := by decide +kernel
theorem dX2_copySlot_6 : decode cX2_copySlot 6 = .ok (.getfield 13, 3) := by decide +kernel
theorem dX2_copySlot_9 : decode cX2_copySlot 9 = .ok (.iload_n 1, 1) := by decide +kernel
theorem dX2_copySlot_10 : decode cX2_copySlot 10 = .ok (.iaload, 1) := by decide +kernel
theorem dX2_copySlot_11 : decode cX2_copySlot 11 = .ok (.iastore, 1) := by decide +kernel
theorem dX2_copySlot_12 : decode cX2_copySlot 12 = .ok (.aload_n 0, 1) := by decide +kernel
theorem dX2_copySlot_13 : decode cX2_copySlot 13 = .ok (.getfield 17, 3) := by decide +kernel
theorem dX2_copySlot_16 : decode cX2_copySlot 16 = .ok (.iload_n 2, 1) := by decide +kernel
theorem dX2_copySlot_17 : decode cX2_copySlot 17 = .ok (.aload_n 0, 1) := by decide +kernel
theorem dX2_copySlot_18 : decode cX2_copySlot 18 = .ok (.getfield 17, 3) := by decide +kernel
theorem dX2_copySlot_21 : decode cX2_copySlot 21 = .ok (.iload_n 1, 1) := by decide +kernel
theorem dX2_copySlot_22 : decode cX2_copySlot 22 = .ok (.iaload, 1) := by decide +kernel
theorem dX2_copySlot_23 : decode cX2_copySlot 23 = .ok (.iastore, 1) := by decide +kernel
theorem dX2_copySlot_24 : decode cX2_copySlot 24 = .ok (.aload_n 0, 1) := by decide +kernel
theorem dX2_copySlot_25 : decode cX2_copySlot 25 = .ok (.getfield 20, 3) := by decide +kernel
theorem dX2_copySlot_28 : decode cX2_copySlot 28 = .ok (.iload_n 2, 1) := by decide +kernel
theorem dX2_copySlot_29 : decode cX2_copySlot 29 = .ok (.aload_n 0, 1) := by decide +kernel
theorem dX2_copySlot_30 : decode cX2_copySlot 30 = .ok (.getfield 20, 3) := by decide +kernel
theorem dX2_copySlot_33 : decode cX2_copySlot 33 = .ok (.iload_n 1, 1) := by decide +kernel
theorem dX2_copySlot_34 : decode cX2_copySlot 34 = .ok (.iaload, 1) := by decide +kernel
theorem dX2_copySlot_35 : decode cX2_copySlot 35 = .ok (.iastore, 1) := by decide +kernel
theorem dX2_copySlot_36 : decode cX2_copySlot 36 = .ok (.aload_n 0, 1) := by decide +kernel
theorem dX2_copySlot_37 : decode cX2_copySlot 37 = .ok (.getfield 23, 3) := by decide +kernel
theorem dX2_copySlot_40 : decode cX2_copySlot 40 = .ok (.iload_n 2, 1) := by decide +kernel
theorem dX2_copySlot_41 : decode cX2_copySlot 41 = .ok (.aload_n 0, 1) := by decide +kernel
theorem dX2_copySlot_42 : decode cX2_copySlot 42 = .ok (.getfield 23, 3) := by decide +kernel
theorem dX2_copySlot_45 : decode cX2_copySlot 45 = .ok (.iload_n 1, 1) := by decide +kernel
theorem dX2_copySlot_46 : decode cX2_copySlot 46 = .ok (.iaload, 1) := by decide +kernel
theorem dX2_copySlot_47 : decode cX2_copySlot 47 = .ok (.iastore, 1) := by decide +kernel
theorem dX2_copySlot_48 : decode cX2_copySlot 48 = .ok (.return_, 1) := by decide +kernel
