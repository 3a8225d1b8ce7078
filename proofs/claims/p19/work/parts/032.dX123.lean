/-! printed: names, fields, word lists, decode rows (out of claim/NAMES.whole.lean.txt) -/
theorem dX1_init_0 : decode cX1_init 0 = .ok (.aload_n 0, 1) := by decide +kernel
theorem dX1_init_1 : decode cX1_init 1 = .ok (.invokespecial 3, 3) := by decide +kernel
theorem dX1_init_4 : decode cX1_init 4 = .ok (.aload_n 0, 1) := by decide +kernel
theorem dX1_init_5 : decode cX1_init 5 = .ok (.iconst 3, 1) := by decide +kernel
theorem dX1_init_6 : decode cX1_init 6 = .ok (.newarray .int, 2) := by decide +kernel
theorem dX1_init_8 : decode cX1_init 8 = .ok (.putfield 9, 3) := by decide +kernel
theorem dX1_init_11 : decode cX1_init 11 = .ok (.aload_n 0, 1) := by decide +kernel
theorem dX1_init_12 : decode cX1_init 12 = .ok (.iconst 3, 1) := by decide +kernel
theorem dX1_init_13 : decode cX1_init 13 = .ok (.newarray .int, 2) := by decide +kernel
theorem dX1_init_15 : decode cX1_init 15 = .ok (.putfield 15, 3) := by decide +kernel
theorem dX1_init_18 : decode cX1_init 18 = .ok (.aload_n 0, 1) := by decide +kernel
theorem dX1_init_19 : decode cX1_init 19 = .ok (.iconst 3, 1) := by decide +kernel
theorem dX1_init_20 : decode cX1_init 20 = .ok (.newarray .int, 2) := by decide +kernel
theorem dX1_init_22 : decode cX1_init 22 = .ok (.putfield 18, 3) := by decide +kernel
theorem dX1_init_25 : decode cX1_init 25 = .ok (.aload_n 0, 1) := by decide +kernel
theorem dX1_init_26 : decode cX1_init 26 = .ok (.iconst 3, 1) := by decide +kernel
theorem dX1_init_27 : decode cX1_init 27 = .ok (.newarray .int, 2) := by decide +kernel
theorem dX1_init_29 : decode cX1_init 29 = .ok (.putfield 21, 3) := by decide +kernel
theorem dX1_init_32 : decode cX1_init 32 = .ok (.aload_n 0, 1) := by decide +kernel
theorem dX1_init_33 : decode cX1_init 33 = .ok (.iconst 3, 1) := by decide +kernel
theorem dX1_init_34 : decode cX1_init 34 = .ok (.newarray .int, 2) := by decide +kernel
theorem dX1_init_36 : decode cX1_init 36 = .ok (.putfield 24, 3) := by decide +kernel
theorem dX1_init_39 : decode cX1_init 39 = .ok (.iconst 0, 1) := by decide +kernel
theorem dX1_init_40 : decode cX1_init 40 = .ok (.istore_n 1, 1) := by decide +kernel
theorem dX1_init_41 : decode cX1_init 41 = .ok (.iload_n 1, 1) := by decide +kernel
theorem dX1_init_42 : decode cX1_init 42 = .ok (.iconst 3, 1) := by decide +kernel
theorem dX1_init_43 : decode cX1_init 43 = .ok (.if_icmp .ge 24, 3) := by decide +kernel
theorem dX1_init_46 : decode cX1_init 46 = .ok (.aload_n 0, 1) := by decide +kernel
theorem dX1_init_47 : decode cX1_init 47 = .ok (.getfield 9, 3) := by decide +kernel
theorem dX1_init_50 : decode cX1_init 50 = .ok (.iload_n 1, 1) := by decide +kernel
theorem dX1_init_51 : decode cX1_init 51 = .ok (.iconst (-1), 1) := by decide +kernel
theorem dX1_init_52 : decode cX1_init 52 = .ok (.iastore, 1) := by decide +kernel
theorem dX1_init_53 : decode cX1_init 53 = .ok (.aload_n 0, 1) := by decide +kernel
theorem dX1_init_54 : decode cX1_init 54 = .ok (.getfield 18, 3) := by decide +kernel
theorem dX1_init_57 : decode cX1_init 57 = .ok (.iload_n 1, 1) := by decide +kernel
theorem dX1_init_58 : decode cX1_init 58 = .ok (.bipush 8, 2) := by decide +kernel
theorem dX1_init_60 : decode cX1_init 60 = .ok (.iastore, 1) := by decide +kernel
theorem dX1_init_61 : decode cX1_init 61 = .ok (.iinc 1 1, 3) := by decide +kernel
theorem dX1_init_64 : decode cX1_init 64 = .ok (.goto (-23), 3) := by decide +kernel
theorem dX1_init_67 : decode cX1_init 67 = .ok (.return_, 1) := by decide +kernel
theorem dX1_crewHours_0 : decode cX1_crewHours 0 = .ok (.aload_n 0, 1) := by decide +kernel
theorem dX1_crewHours_1 : decode cX1_crewHours 1 = .ok (.getfield 18, 3) := by decide +kernel
theorem dX1_crewHours_4 : decode cX1_crewHours 4 = .ok (.iload_n 1, 1) := by decide +kernel
theorem dX1_crewHours_5 : decode cX1_crewHours 5 = .ok (.iaload, 1) := by decide +kernel
theorem dX1_crewHours_6 : decode cX1_crewHours 6 = .ok (.ireturn, 1) := by decide +kernel
theorem dX1_setCrewHours_0 : decode cX1_setCrewHours 0 = .ok (.aload_n 0, 1) := by decide +kernel
theorem dX1_setCrewHours_1 : decode cX1_setCrewHours 1 = .ok (.getfield 18, 3) := by decide +kernel
theorem dX1_setCrewHours_4 : decode cX1_setCrewHours 4 = .ok (.iload_n 1, 1) := by decide +kernel
theorem dX1_setCrewHours_5 : decode cX1_setCrewHours 5 = .ok (.iload_n 2, 1) := by decide +kernel
theorem dX1_setCrewHours_6 : decode cX1_setCrewHours 6 = .ok (.iastore, 1) := by decide +kernel
theorem dX1_setCrewHours_7 : decode cX1_setCrewHours 7 = .ok (.return_, 1) := by decide +kernel
theorem dX1_turbineOf_0 : decode cX1_turbineOf 0 = .ok (.aload_n 0, 1) := by decide +kernel
theorem dX1_turbineOf_1 : decode cX1_turbineOf 1 = .ok (.getfield 9, 3) := by decide +kernel
theorem dX1_turbineOf_4 : decode cX1_turbineOf 4 = .ok (.iload_n 1, 1) := by decide +kernel
theorem dX1_turbineOf_5 : decode cX1_turbineOf 5 = .ok (.iaload, 1) := by decide +kernel
theorem dX1_turbineOf_6 : decode cX1_turbineOf 6 = .ok (.ireturn, 1) := by decide +kernel
theorem dX1_hoursLeft_0 : decode cX1_hoursLeft 0 = .ok (.aload_n 0, 1) := by decide +kernel
theorem dX1_hoursLeft_1 : decode cX1_hoursLeft 1 = .ok (.getfield 15, 3) := by decide +kernel
theorem dX1_hoursLeft_4 : decode cX1_hoursLeft 4 = .ok (.iload_n 1, 1) := by decide +kernel
theorem dX1_hoursLeft_5 : decode cX1_hoursLeft 5 = .ok (.iaload, 1) := by decide +kernel
theorem dX1_hoursLeft_6 : decode cX1_hoursLeft 6 = .ok (.ireturn, 1) := by decide +kernel
theorem dX1_workedToday_0 : decode cX1_workedToday 0 = .ok (.aload_n 0, 1) := by decide +kernel
theorem dX1_workedToday_1 : decode cX1_workedToday 1 = .ok (.getfield 21, 3) := by decide +kernel
theorem dX1_workedToday_4 : decode cX1_workedToday 4 = .ok (.iload_n 1, 1) := by decide +kernel
theorem dX1_workedToday_5 : decode cX1_workedToday 5 = .ok (.iaload, 1) := by decide +kernel
theorem dX1_workedToday_6 : decode cX1_workedToday 6 = .ok (.ireturn, 1) := by decide +kernel
theorem dX1_workedInAll_0 : decode cX1_workedInAll 0 = .ok (.aload_n 0, 1) := by decide +kernel
theorem dX1_workedInAll_1 : decode cX1_workedInAll 1 = .ok (.getfield 24, 3) := by decide +kernel
theorem dX1_workedInAll_4 : decode cX1_workedInAll 4 = .ok (.iload_n 1, 1) := by decide +kernel
theorem dX1_workedInAll_5 : decode cX1_workedInAll 5 = .ok (.iaload, 1) := by decide +kernel
theorem dX1_workedInAll_6 : decode cX1_workedInAll 6 = .ok (.ireturn, 1) := by decide +kernel
theorem dX1_isFree_0 : decode cX1_isFree 0 = .ok (.aload_n 0, 1) := by decide +kernel
theorem dX1_isFree_1 : decode cX1_isFree 1 = .ok (.getfield 9, 3) := by decide +kernel
theorem dX1_isFree_4 : decode cX1_isFree 4 = .ok (.iload_n 1, 1) := by decide +kernel
theorem dX1_isFree_5 : decode cX1_isFree 5 = .ok (.iaload, 1) := by decide +kernel
theorem dX1_isFree_6 : decode cX1_isFree 6 = .ok (.iconst (-1), 1) := by decide +kernel
theorem dX1_isFree_7 : decode cX1_isFree 7 = .ok (.if_icmp .ne 7, 3) := by decide +kernel
theorem dX1_isFree_10 : decode cX1_isFree 10 = .ok (.iconst 1, 1) := by decide +kernel
theorem dX1_isFree_11 : decode cX1_isFree 11 = .ok (.goto 4, 3) := by decide +kernel
theorem dX1_isFree_14 : decode cX1_isFree 14 = .ok (.iconst 0, 1) := by decide +kernel
theorem dX1_isFree_15 : decode cX1_isFree 15 = .ok (.ireturn, 1) := by decide +kernel
theorem dX1_isAtWorkOn_0 : decode cX1_isAtWorkOn 0 = .ok (.iconst 0, 1) := by decide +kernel
theorem dX1_isAtWorkOn_1 : decode cX1_isAtWorkOn 1 = .ok (.istore_n 2, 1) := by decide +kernel
theorem dX1_isAtWorkOn_2 : decode cX1_isAtWorkOn 2 = .ok (.iload_n 2, 1) := by decide +kernel
theorem dX1_isAtWorkOn_3 : decode cX1_isAtWorkOn 3 = .ok (.iconst 3, 1) := by decide +kernel
theorem dX1_isAtWorkOn_4 : decode cX1_isAtWorkOn 4 = .ok (.if_icmp .ge 21, 3) := by decide +kernel
theorem dX1_isAtWorkOn_7 : decode cX1_isAtWorkOn 7 = .ok (.aload_n 0, 1) := by decide +kernel
theorem dX1_isAtWorkOn_8 : decode cX1_isAtWorkOn 8 = .ok (.getfield 9, 3) := by decide +kernel
theorem dX1_isAtWorkOn_11 : decode cX1_isAtWorkOn 11 = .ok (.iload_n 2, 1) := by decide +kernel
theorem dX1_isAtWorkOn_12 : decode cX1_isAtWorkOn 12 = .ok (.iaload, 1) := by decide +kernel
theorem dX1_isAtWorkOn_13 : decode cX1_isAtWorkOn 13 = .ok (.iload_n 1, 1) := by decide +kernel
theorem dX1_isAtWorkOn_14 : decode cX1_isAtWorkOn 14 = .ok (.if_icmp .ne 5, 3) := by decide +kernel
theorem dX1_isAtWorkOn_17 : decode cX1_isAtWorkOn 17 = .ok (.iconst 1, 1) := by decide +kernel
theorem dX1_isAtWorkOn_18 : decode cX1_isAtWorkOn 18 = .ok (.ireturn, 1) := by decide +kernel
theorem dX1_isAtWorkOn_19 : decode cX1_isAtWorkOn 19 = .ok (.iinc 2 1, 3) := by decide +kernel
theorem dX1_isAtWorkOn_22 : decode cX1_isAtWorkOn 22 = .ok (.goto (-20), 3) := by decide +kernel
theorem dX1_isAtWorkOn_25 : decode cX1_isAtWorkOn 25 = .ok (.iconst 0, 1) := by decide +kernel
theorem dX1_isAtWorkOn_26 : decode cX1_isAtWorkOn 26 = .ok (.ireturn, 1) := by decide +kernel
theorem dX1_send_0 : decode cX1_send 0 = .ok (.aload_n 0, 1) := by decide +kernel
theorem dX1_send_1 : decode cX1_send 1 = .ok (.getfield 9, 3) := by decide +kernel
theorem dX1_send_4 : decode cX1_send 4 = .ok (.iload_n 1, 1) := by decide +kernel
theorem dX1_send_5 : decode cX1_send 5 = .ok (.iload_n 2, 1) := by decide +kernel
theorem dX1_send_6 : decode cX1_send 6 = .ok (.iastore, 1) := by decide +kernel
theorem dX1_send_7 : decode cX1_send 7 = .ok (.aload_n 0, 1) := by decide +kernel
theorem dX1_send_8 : decode cX1_send 8 = .ok (.getfield 15, 3) := by decide +kernel
theorem dX1_send_11 : decode cX1_send 11 = .ok (.iload_n 1, 1) := by decide +kernel
theorem dX1_send_12 : decode cX1_send 12 = .ok (.iload_n 3, 1) := by decide +kernel
theorem dX1_send_13 : decode cX1_send 13 = .ok (.iastore, 1) := by decide +kernel
theorem dX1_send_14 : decode cX1_send 14 = .ok (.return_, 1) := by decide +kernel
set_option maxRecDepth 20000 in
theorem ggX1_canWork_X1_isFree : GoodIn wsX1_canWork wsX1_isFree := goodIn_r _ [7, 8, 9, 10, 11, 12, 13] (by decide +kernel) (by decide +kernel)
set_option maxRecDepth 20000 in
theorem gX1_canWork_X1_isFree : GoodIn wsX1_canWork (wsV RX1 27 RX1 yX1_isFree wsX1_isFree) := goodIn_app (goodIn_of _ (by decide +kernel)) ggX1_canWork_X1_isFree
theorem dX1_canWork_0 : decode cX1_canWork 0 = .ok (.aload_n 0, 1) := by decide +kernel
theorem dX1_canWork_1 : decode cX1_canWork 1 = .ok (.iload_n 1, 1) := by decide +kernel
theorem dX1_canWork_2 : decode cX1_canWork 2 = .ok (.invokevirtual 27, 3) := by decide +kernel
theorem dX1_canWork_5 : decode cX1_canWork 5 = .ok (.ifCond .ne 22, 3) := by decide +kernel
theorem dX1_canWork_8 : decode cX1_canWork 8 = .ok (.aload_n 0, 1) := by decide +kernel
theorem dX1_canWork_9 : decode cX1_canWork 9 = .ok (.getfield 21, 3) := by decide +kernel
theorem dX1_canWork_12 : decode cX1_canWork 12 = .ok (.iload_n 1, 1) := by decide +kernel
theorem dX1_canWork_13 : decode cX1_canWork 13 = .ok (.iaload, 1) := by decide +kernel
theorem dX1_canWork_14 : decode cX1_canWork 14 = .ok (.aload_n 0, 1) := by decide +kernel
theorem dX1_canWork_15 : decode cX1_canWork 15 = .ok (.getfield 18, 3) := by decide +kernel
theorem dX1_canWork_18 : decode cX1_canWork 18 = .ok (.iload_n 1, 1) := by decide +kernel
theorem dX1_canWork_19 : decode cX1_canWork 19 = .ok (.iaload, 1) := by decide +kernel
theorem dX1_canWork_20 : decode cX1_canWork 20 = .ok (.if_icmp .ge 7, 3) := by decide +kernel
theorem dX1_canWork_23 : decode cX1_canWork 23 = .ok (.iconst 1, 1) := by decide +kernel
theorem dX1_canWork_24 : decode cX1_canWork 24 = .ok (.goto 4, 3) := by decide +kernel
theorem dX1_canWork_27 : decode cX1_canWork 27 = .ok (.iconst 0, 1) := by decide +kernel
theorem dX1_canWork_28 : decode cX1_canWork 28 = .ok (.ireturn, 1) := by decide +kernel
theorem dX1_workAnHour_0 : decode cX1_workAnHour 0 = .ok (.aload_n 0, 1) := by decide +kernel
theorem dX1_workAnHour_1 : decode cX1_workAnHour 1 = .ok (.getfield 15, 3) := by decide +kernel
theorem dX1_workAnHour_4 : decode cX1_workAnHour 4 = .ok (.iload_n 1, 1) := by decide +kernel
theorem dX1_workAnHour_5 : decode cX1_workAnHour 5 = .ok (.dup2, 1) := by decide +kernel
theorem dX1_workAnHour_6 : decode cX1_workAnHour 6 = .ok (.iaload, 1) := by decide +kernel
theorem dX1_workAnHour_7 : decode cX1_workAnHour 7 = .ok (.iconst 1, 1) := by decide +kernel
theorem dX1_workAnHour_8 : decode cX1_workAnHour 8 = .ok (.isub, 1) := by decide +kernel
theorem dX1_workAnHour_9 : decode cX1_workAnHour 9 = .ok (.iastore, 1) := by decide +kernel
theorem dX1_workAnHour_10 : decode cX1_workAnHour 10 = .ok (.aload_n 0, 1) := by decide +kernel
theorem dX1_workAnHour_11 : decode cX1_workAnHour 11 = .ok (.getfield 21, 3) := by decide +kernel
theorem dX1_workAnHour_14 : decode cX1_workAnHour 14 = .ok (.iload_n 1, 1) := by decide +kernel
theorem dX1_workAnHour_15 : decode cX1_workAnHour 15 = .ok (.dup2, 1) := by decide +kernel
theorem dX1_workAnHour_16 : decode cX1_workAnHour 16 = .ok (.iaload, 1) := by decide +kernel
theorem dX1_workAnHour_17 : decode cX1_workAnHour 17 = .ok (.iconst 1, 1) := by decide +kernel
theorem dX1_workAnHour_18 : decode cX1_workAnHour 18 = .ok (.iadd, 1) := by decide +kernel
theorem dX1_workAnHour_19 : decode cX1_workAnHour 19 = .ok (.iastore, 1) := by decide +kernel
theorem dX1_workAnHour_20 : decode cX1_workAnHour 20 = .ok (.aload_n 0, 1) := by decide +kernel
theorem dX1_workAnHour_21 : decode cX1_workAnHour 21 = .ok (.getfield 24, 3) := by decide +kernel
theorem dX1_workAnHour_24 : decode cX1_workAnHour 24 = .ok (.iload_n 1, 1) := by decide +kernel
theorem dX1_workAnHour_25 : decode cX1_workAnHour 25 = .ok (.dup2, 1) := by decide +kernel
theorem dX1_workAnHour_26 : decode cX1_workAnHour 26 = .ok (.iaload, 1) := by decide +kernel
theorem dX1_workAnHour_27 : decode cX1_workAnHour 27 = .ok (.iconst 1, 1) := by decide +kernel
theorem dX1_workAnHour_28 : decode cX1_workAnHour 28 = .ok (.iadd, 1) := by decide +kernel
theorem dX1_workAnHour_29 : decode cX1_workAnHour 29 = .ok (.iastore, 1) := by decide +kernel
theorem dX1_workAnHour_30 : decode cX1_workAnHour 30 = .ok (.return_, 1) := by decide +kernel
set_option maxRecDepth 20000 in
theorem ggX1_hasEnded_X1_isFree : GoodIn wsX1_hasEnded wsX1_isFree := goodIn_r _ [6, 7, 8, 9, 10, 11, 12] (by decide +kernel) (by decide +kernel)
set_option maxRecDepth 20000 in
theorem gX1_hasEnded_X1_isFree : GoodIn wsX1_hasEnded (wsV RX1 27 RX1 yX1_isFree wsX1_isFree) := goodIn_app (goodIn_of _ (by decide +kernel)) ggX1_hasEnded_X1_isFree
theorem dX1_hasEnded_0 : decode cX1_hasEnded 0 = .ok (.aload_n 0, 1) := by decide +kernel
theorem dX1_hasEnded_1 : decode cX1_hasEnded 1 = .ok (.iload_n 1, 1) := by decide +kernel
theorem dX1_hasEnded_2 : decode cX1_hasEnded 2 = .ok (.invokevirtual 27, 3) := by decide +kernel
theorem dX1_hasEnded_5 : decode cX1_hasEnded 5 = .ok (.ifCond .ne 16, 3) := by decide +kernel
theorem dX1_hasEnded_8 : decode cX1_hasEnded 8 = .ok (.aload_n 0, 1) := by decide +kernel
theorem dX1_hasEnded_9 : decode cX1_hasEnded 9 = .ok (.getfield 15, 3) := by decide +kernel
theorem dX1_hasEnded_12 : decode cX1_hasEnded 12 = .ok (.iload_n 1, 1) := by decide +kernel
theorem dX1_hasEnded_13 : decode cX1_hasEnded 13 = .ok (.iaload, 1) := by decide +kernel
theorem dX1_hasEnded_14 : decode cX1_hasEnded 14 = .ok (.ifCond .ne 7, 3) := by decide +kernel
theorem dX1_hasEnded_17 : decode cX1_hasEnded 17 = .ok (.iconst 1, 1) := by decide +kernel
theorem dX1_hasEnded_18 : decode cX1_hasEnded 18 = .ok (.goto 4, 3) := by decide +kernel
theorem dX1_hasEnded_21 : decode cX1_hasEnded 21 = .ok (.iconst 0, 1) := by decide +kernel
theorem dX1_hasEnded_22 : decode cX1_hasEnded 22 = .ok (.ireturn, 1) := by decide +kernel
theorem dX1_release_0 : decode cX1_release 0 = .ok (.aload_n 0, 1) := by decide +kernel
theorem dX1_release_1 : decode cX1_release 1 = .ok (.getfield 9, 3) := by decide +kernel
theorem dX1_release_4 : decode cX1_release 4 = .ok (.iload_n 1, 1) := by decide +kernel
theorem dX1_release_5 : decode cX1_release 5 = .ok (.iconst (-1), 1) := by decide +kernel
theorem dX1_release_6 : decode cX1_release 6 = .ok (.iastore, 1) := by decide +kernel
theorem dX1_release_7 : decode cX1_release 7 = .ok (.return_, 1) := by decide +kernel
theorem dX1_beginDay_0 : decode cX1_beginDay 0 = .ok (.iconst 0, 1) := by decide +kernel
theorem dX1_beginDay_1 : decode cX1_beginDay 1 = .ok (.istore_n 1, 1) := by decide +kernel
theorem dX1_beginDay_2 : decode cX1_beginDay 2 = .ok (.iload_n 1, 1) := by decide +kernel
theorem dX1_beginDay_3 : decode cX1_beginDay 3 = .ok (.iconst 3, 1) := by decide +kernel
theorem dX1_beginDay_4 : decode cX1_beginDay 4 = .ok (.if_icmp .ge 16, 3) := by decide +kernel
theorem dX1_beginDay_7 : decode cX1_beginDay 7 = .ok (.aload_n 0, 1) := by decide +kernel
theorem dX1_beginDay_8 : decode cX1_beginDay 8 = .ok (.getfield 21, 3) := by decide +kernel
theorem dX1_beginDay_11 : decode cX1_beginDay 11 = .ok (.iload_n 1, 1) := by decide +kernel
theorem dX1_beginDay_12 : decode cX1_beginDay 12 = .ok (.iconst 0, 1) := by decide +kernel
theorem dX1_beginDay_13 : decode cX1_beginDay 13 = .ok (.iastore, 1) := by decide +kernel
theorem dX1_beginDay_14 : decode cX1_beginDay 14 = .ok (.iinc 1 1, 3) := by decide +kernel
theorem dX1_beginDay_17 : decode cX1_beginDay 17 = .ok (.goto (-15), 3) := by decide +kernel
theorem dX1_beginDay_20 : decode cX1_beginDay 20 = .ok (.return_, 1) := by decide +kernel
theorem dX2_init_0 : decode cX2_init 0 = .ok (.aload_n 0, 1) := by decide +kernel
theorem dX2_init_1 : decode cX2_init 1 = .ok (.invokespecial 3, 3) := by decide +kernel
theorem dX2_init_4 : decode cX2_init 4 = .ok (.aload_n 0, 1) := by decide +kernel
theorem dX2_init_5 : decode cX2_init 5 = .ok (.sipush 480, 3) := by decide +kernel
theorem dX2_init_8 : decode cX2_init 8 = .ok (.newarray .int, 2) := by decide +kernel
theorem dX2_init_10 : decode cX2_init 10 = .ok (.putfield 9, 3) := by decide +kernel
theorem dX2_init_13 : decode cX2_init 13 = .ok (.aload_n 0, 1) := by decide +kernel
theorem dX2_init_14 : decode cX2_init 14 = .ok (.sipush 480, 3) := by decide +kernel
theorem dX2_init_17 : decode cX2_init 17 = .ok (.newarray .int, 2) := by decide +kernel
theorem dX2_init_19 : decode cX2_init 19 = .ok (.putfield 15, 3) := by decide +kernel
theorem dX2_init_22 : decode cX2_init 22 = .ok (.aload_n 0, 1) := by decide +kernel
theorem dX2_init_23 : decode cX2_init 23 = .ok (.sipush 480, 3) := by decide +kernel
theorem dX2_init_26 : decode cX2_init 26 = .ok (.newarray .int, 2) := by decide +kernel
theorem dX2_init_28 : decode cX2_init 28 = .ok (.putfield 18, 3) := by decide +kernel
theorem dX2_init_31 : decode cX2_init 31 = .ok (.iconst 0, 1) := by decide +kernel
theorem dX2_init_32 : decode cX2_init 32 = .ok (.istore_n 1, 1) := by decide +kernel
theorem dX2_init_33 : decode cX2_init 33 = .ok (.iload_n 1, 1) := by decide +kernel
theorem dX2_init_34 : decode cX2_init 34 = .ok (.sipush 480, 3) := by decide +kernel
theorem dX2_init_37 : decode cX2_init 37 = .ok (.if_icmp .ge 23, 3) := by decide +kernel
theorem dX2_init_40 : decode cX2_init 40 = .ok (.aload_n 0, 1) := by decide +kernel
theorem dX2_init_41 : decode cX2_init 41 = .ok (.getfield 9, 3) := by decide +kernel
theorem dX2_init_44 : decode cX2_init 44 = .ok (.iload_n 1, 1) := by decide +kernel
theorem dX2_init_45 : decode cX2_init 45 = .ok (.iconst (-1), 1) := by decide +kernel
theorem dX2_init_46 : decode cX2_init 46 = .ok (.iastore, 1) := by decide +kernel
theorem dX2_init_47 : decode cX2_init 47 = .ok (.aload_n 0, 1) := by decide +kernel
theorem dX2_init_48 : decode cX2_init 48 = .ok (.getfield 15, 3) := by decide +kernel
theorem dX2_init_51 : decode cX2_init 51 = .ok (.iload_n 1, 1) := by decide +kernel
theorem dX2_init_52 : decode cX2_init 52 = .ok (.iconst 2, 1) := by decide +kernel
theorem dX2_init_53 : decode cX2_init 53 = .ok (.iastore, 1) := by decide +kernel
theorem dX2_init_54 : decode cX2_init 54 = .ok (.iinc 1 1, 3) := by decide +kernel
theorem dX2_init_57 : decode cX2_init 57 = .ok (.goto (-24), 3) := by decide +kernel
theorem dX2_init_60 : decode cX2_init 60 = .ok (.return_, 1) := by decide +kernel
theorem dX2_slotUnits_0 : decode cX2_slotUnits 0 = .ok (.aload_n 0, 1) := by decide +kernel
theorem dX2_slotUnits_1 : decode cX2_slotUnits 1 = .ok (.getfield 9, 3) := by decide +kernel
theorem dX2_slotUnits_4 : decode cX2_slotUnits 4 = .ok (.iload_n 1, 1) := by decide +kernel
theorem dX2_slotUnits_5 : decode cX2_slotUnits 5 = .ok (.iaload, 1) := by decide +kernel
theorem dX2_slotUnits_6 : decode cX2_slotUnits 6 = .ok (.ireturn, 1) := by decide +kernel
theorem dX2_setSlot_0 : decode cX2_setSlot 0 = .ok (.aload_n 0, 1) := by decide +kernel
theorem dX2_setSlot_1 : decode cX2_setSlot 1 = .ok (.getfield 9, 3) := by decide +kernel
theorem dX2_setSlot_4 : decode cX2_setSlot 4 = .ok (.iload_n 1, 1) := by decide +kernel
theorem dX2_setSlot_5 : decode cX2_setSlot 5 = .ok (.iload_n 2, 1) := by decide +kernel
theorem dX2_setSlot_6 : decode cX2_setSlot 6 = .ok (.iastore, 1) := by decide +kernel
theorem dX2_setSlot_7 : decode cX2_setSlot 7 = .ok (.aload_n 0, 1) := by decide +kernel
theorem dX2_setSlot_8 : decode cX2_setSlot 8 = .ok (.getfield 15, 3) := by decide +kernel
theorem dX2_setSlot_11 : decode cX2_setSlot 11 = .ok (.iload_n 1, 1) := by decide +kernel
theorem dX2_setSlot_12 : decode cX2_setSlot 12 = .ok (.iload_n 3, 1) := by decide +kernel
theorem dX2_setSlot_13 : decode cX2_setSlot 13 = .ok (.iastore, 1) := by decide +kernel
theorem dX2_setSlot_14 : decode cX2_setSlot 14 = .ok (.return_, 1) := by decide +kernel
set_option maxRecDepth 20000 in
theorem ggX2_endHour_X2_proceedsOf : GoodIn wsX2_endHour wsX2_proceedsOf := goodIn_r _ [7, 8, 9, 10, 11, 6, 12, 1, 13, 14, 15, 16, 17, 18, 19, 20, 21] (by decide +kernel) (by decide +kernel)
set_option maxRecDepth 20000 in
theorem gX2_endHour_X2_proceedsOf : GoodIn wsX2_endHour (wsV RX2 25 RX2 yX2_proceedsOf wsX2_proceedsOf) := goodIn_app (goodIn_of _ (by decide +kernel)) ggX2_endHour_X2_proceedsOf
theorem dX2_endHour_0 : decode cX2_endHour 0 = .ok (.aload_n 0, 1) := by decide +kernel
theorem dX2_endHour_1 : decode cX2_endHour 1 = .ok (.getfield 18, 3) := by decide +kernel
theorem dX2_endHour_4 : decode cX2_endHour 4 = .ok (.iload_n 1, 1) := by decide +kernel
theorem dX2_endHour_5 : decode cX2_endHour 5 = .ok (.iload_n 2, 1) := by decide +kernel
theorem dX2_endHour_6 : decode cX2_endHour 6 = .ok (.iastore, 1) := by decide +kernel
theorem dX2_endHour_7 : decode cX2_endHour 7 = .ok (.aload_n 0, 1) := by decide +kernel
theorem dX2_endHour_8 : decode cX2_endHour 8 = .ok (.dup, 1) := by decide +kernel
theorem dX2_endHour_9 : decode cX2_endHour 9 = .ok (.getfield 21, 3) := by decide +kernel
theorem dX2_endHour_12 : decode cX2_endHour 12 = .ok (.aload_n 0, 1) := by decide +kernel
theorem dX2_endHour_13 : decode cX2_endHour 13 = .ok (.iload_n 1, 1) := by decide +kernel
theorem dX2_endHour_14 : decode cX2_endHour 14 = .ok (.invokevirtual 25, 3) := by decide +kernel
theorem dX2_endHour_17 : decode cX2_endHour 17 = .ok (.i2l, 1) := by decide +kernel
theorem dX2_endHour_18 : decode cX2_endHour 18 = .ok (.ladd, 1) := by decide +kernel
theorem dX2_endHour_19 : decode cX2_endHour 19 = .ok (.putfield 21, 3) := by decide +kernel
theorem dX2_endHour_22 : decode cX2_endHour 22 = .ok (.return_, 1) := by decide +kernel
theorem dX2_madeIn_0 : decode cX2_madeIn 0 = .ok (.aload_n 0, 1) := by decide +kernel
theorem dX2_madeIn_1 : decode cX2_madeIn 1 = .ok (.getfield 18, 3) := by decide +kernel
theorem dX2_madeIn_4 : decode cX2_madeIn 4 = .ok (.iload_n 1, 1) := by decide +kernel
theorem dX2_madeIn_5 : decode cX2_madeIn 5 = .ok (.iaload, 1) := by decide +kernel
theorem dX2_madeIn_6 : decode cX2_madeIn 6 = .ok (.ireturn, 1) := by decide +kernel
theorem dX2_soldFor_0 : decode cX2_soldFor 0 = .ok (.aload_n 0, 1) := by decide +kernel
theorem dX2_soldFor_1 : decode cX2_soldFor 1 = .ok (.getfield 9, 3) := by decide +kernel
theorem dX2_soldFor_4 : decode cX2_soldFor 4 = .ok (.iload_n 1, 1) := by decide +kernel
theorem dX2_soldFor_5 : decode cX2_soldFor 5 = .ok (.iaload, 1) := by decide +kernel
theorem dX2_soldFor_6 : decode cX2_soldFor 6 = .ok (.iconst (-1), 1) := by decide +kernel
theorem dX2_soldFor_7 : decode cX2_soldFor 7 = .ok (.if_icmp .ne 7, 3) := by decide +kernel
theorem dX2_soldFor_10 : decode cX2_soldFor 10 = .ok (.iconst 0, 1) := by decide +kernel
theorem dX2_soldFor_11 : decode cX2_soldFor 11 = .ok (.goto 9, 3) := by decide +kernel
theorem dX2_soldFor_14 : decode cX2_soldFor 14 = .ok (.aload_n 0, 1) := by decide +kernel
theorem dX2_soldFor_15 : decode cX2_soldFor 15 = .ok (.getfield 9, 3) := by decide +kernel
theorem dX2_soldFor_18 : decode cX2_soldFor 18 = .ok (.iload_n 1, 1) := by decide +kernel
theorem dX2_soldFor_19 : decode cX2_soldFor 19 = .ok (.iaload, 1) := by decide +kernel
theorem dX2_soldFor_20 : decode cX2_soldFor 20 = .ok (.ireturn, 1) := by decide +kernel
set_option maxRecDepth 20000 in
theorem ggX2_imbalanceOf_X2_soldFor : GoodIn wsX2_imbalanceOf wsX2_soldFor := goodIn_r _ [6, 7, 8, 9, 10, 11] (by decide +kernel) (by decide +kernel)
set_option maxRecDepth 20000 in
theorem gX2_imbalanceOf_X2_soldFor : GoodIn wsX2_imbalanceOf (wsV RX2 29 RX2 yX2_soldFor wsX2_soldFor) := goodIn_app (goodIn_of _ (by decide +kernel)) ggX2_imbalanceOf_X2_soldFor
theorem dX2_imbalanceOf_0 : decode cX2_imbalanceOf 0 = .ok (.aload_n 0, 1) := by decide +kernel
theorem dX2_imbalanceOf_1 : decode cX2_imbalanceOf 1 = .ok (.iload_n 1, 1) := by decide +kernel
theorem dX2_imbalanceOf_2 : decode cX2_imbalanceOf 2 = .ok (.invokevirtual 29, 3) := by decide +kernel
theorem dX2_imbalanceOf_5 : decode cX2_imbalanceOf 5 = .ok (.aload_n 0, 1) := by decide +kernel
theorem dX2_imbalanceOf_6 : decode cX2_imbalanceOf 6 = .ok (.getfield 18, 3) := by decide +kernel
theorem dX2_imbalanceOf_9 : decode cX2_imbalanceOf 9 = .ok (.iload_n 1, 1) := by decide +kernel
theorem dX2_imbalanceOf_10 : decode cX2_imbalanceOf 10 = .ok (.iaload, 1) := by decide +kernel
theorem dX2_imbalanceOf_11 : decode cX2_imbalanceOf 11 = .ok (.isub, 1) := by decide +kernel
theorem dX2_imbalanceOf_12 : decode cX2_imbalanceOf 12 = .ok (.ireturn, 1) := by decide +kernel
set_option maxRecDepth 20000 in
theorem ggX2_proceedsOf_X2_imbalanceOf : GoodIn wsX2_proceedsOf wsX2_imbalanceOf := goodIn_r _ [6, 7, 8, 9, 10, 5, 11, 12, 13, 14, 15, 16] (by decide +kernel) (by decide +kernel)
set_option maxRecDepth 20000 in
theorem gX2_proceedsOf_X2_imbalanceOf : GoodIn wsX2_proceedsOf (wsV RX2 32 RX2 yX2_imbalanceOf wsX2_imbalanceOf) := goodIn_app (goodIn_of _ (by decide +kernel)) ggX2_proceedsOf_X2_imbalanceOf
set_option maxRecDepth 20000 in
theorem ggX2_proceedsOf_X2_soldFor : GoodIn wsX2_proceedsOf wsX2_soldFor := goodIn_r _ [11, 12, 13, 14, 15, 16] (by decide +kernel) (by decide +kernel)
set_option maxRecDepth 20000 in
theorem gX2_proceedsOf_X2_soldFor : GoodIn wsX2_proceedsOf (wsV RX2 29 RX2 yX2_soldFor wsX2_soldFor) := goodIn_app (goodIn_of _ (by decide +kernel)) ggX2_proceedsOf_X2_soldFor
theorem dX2_proceedsOf_0 : decode cX2_proceedsOf 0 = .ok (.aload_n 0, 1) := by decide +kernel
theorem dX2_proceedsOf_1 : decode cX2_proceedsOf 1 = .ok (.getfield 15, 3) := by decide +kernel
theorem dX2_proceedsOf_4 : decode cX2_proceedsOf 4 = .ok (.iload_n 1, 1) := by decide +kernel
theorem dX2_proceedsOf_5 : decode cX2_proceedsOf 5 = .ok (.iaload, 1) := by decide +kernel
theorem dX2_proceedsOf_6 : decode cX2_proceedsOf 6 = .ok (.istore_n 2, 1) := by decide +kernel
theorem dX2_proceedsOf_7 : decode cX2_proceedsOf 7 = .ok (.aload_n 0, 1) := by decide +kernel
theorem dX2_proceedsOf_8 : decode cX2_proceedsOf 8 = .ok (.iload_n 1, 1) := by decide +kernel
theorem dX2_proceedsOf_9 : decode cX2_proceedsOf 9 = .ok (.invokevirtual 32, 3) := by decide +kernel
theorem dX2_proceedsOf_12 : decode cX2_proceedsOf 12 = .ok (.istore_n 3, 1) := by decide +kernel
theorem dX2_proceedsOf_13 : decode cX2_proceedsOf 13 = .ok (.aload_n 0, 1) := by decide +kernel
theorem dX2_proceedsOf_14 : decode cX2_proceedsOf 14 = .ok (.iload_n 1, 1) := by decide +kernel
theorem dX2_proceedsOf_15 : decode cX2_proceedsOf 15 = .ok (.invokevirtual 29, 3) := by decide +kernel
theorem dX2_proceedsOf_18 : decode cX2_proceedsOf 18 = .ok (.iload_n 2, 1) := by decide +kernel
theorem dX2_proceedsOf_19 : decode cX2_proceedsOf 19 = .ok (.imul, 1) := by decide +kernel
theorem dX2_proceedsOf_20 : decode cX2_proceedsOf 20 = .ok (.istore 4, 2) := by decide +kernel
theorem dX2_proceedsOf_22 : decode cX2_proceedsOf 22 = .ok (.iload_n 3, 1) := by decide +kernel
theorem dX2_proceedsOf_23 : decode cX2_proceedsOf 23 = .ok (.ifCond .le 14, 3) := by decide +kernel
theorem dX2_proceedsOf_26 : decode cX2_proceedsOf 26 = .ok (.iload 4, 2) := by decide +kernel
theorem dX2_proceedsOf_28 : decode cX2_proceedsOf 28 = .ok (.iload_n 3, 1) := by decide +kernel
theorem dX2_proceedsOf_29 : decode cX2_proceedsOf 29 = .ok (.iconst 2, 1) := by decide +kernel
theorem dX2_proceedsOf_30 : decode cX2_proceedsOf 30 = .ok (.imul, 1) := by decide +kernel
theorem dX2_proceedsOf_31 : decode cX2_proceedsOf 31 = .ok (.iload_n 2, 1) := by decide +kernel
theorem dX2_proceedsOf_32 : decode cX2_proceedsOf 32 = .ok (.imul, 1) := by decide +kernel
theorem dX2_proceedsOf_33 : decode cX2_proceedsOf 33 = .ok (.isub, 1) := by decide +kernel
theorem dX2_proceedsOf_34 : decode cX2_proceedsOf 34 = .ok (.goto 11, 3) := by decide +kernel
theorem dX2_proceedsOf_37 : decode cX2_proceedsOf 37 = .ok (.iload 4, 2) := by decide +kernel
theorem dX2_proceedsOf_39 : decode cX2_proceedsOf 39 = .ok (.iload_n 3, 1) := by decide +kernel
theorem dX2_proceedsOf_40 : decode cX2_proceedsOf 40 = .ok (.iload_n 2, 1) := by decide +kernel
theorem dX2_proceedsOf_41 : decode cX2_proceedsOf 41 = .ok (.iconst 2, 1) := by decide +kernel
theorem dX2_proceedsOf_42 : decode cX2_proceedsOf 42 = .ok (.idiv, 1) := by decide +kernel
theorem dX2_proceedsOf_43 : decode cX2_proceedsOf 43 = .ok (.imul, 1) := by decide +kernel
theorem dX2_proceedsOf_44 : decode cX2_proceedsOf 44 = .ok (.isub, 1) := by decide +kernel
theorem dX2_proceedsOf_45 : decode cX2_proceedsOf 45 = .ok (.ireturn, 1) := by decide +kernel
theorem dX2_proceedsInAll_0 : decode cX2_proceedsInAll 0 = .ok (.aload_n 0, 1) := by decide +kernel
theorem dX2_proceedsInAll_1 : decode cX2_proceedsInAll 1 = .ok (.getfield 21, 3) := by decide +kernel
theorem dX2_proceedsInAll_4 : decode cX2_proceedsInAll 4 = .ok (.lreturn, 1) := by decide +kernel
set_option maxRecDepth 20000 in
theorem ggX2_madeToSold_X2_soldFor : GoodIn wsX2_madeToSold wsX2_soldFor := goodIn_r _ [6, 7, 8, 9, 10, 11] (by decide +kernel) (by decide +kernel)
set_option maxRecDepth 20000 in
theorem gX2_madeToSold_X2_soldFor : GoodIn wsX2_madeToSold (wsV RX2 29 RX2 yX2_soldFor wsX2_soldFor) := goodIn_app (goodIn_of _ (by decide +kernel)) ggX2_madeToSold_X2_soldFor
theorem dX2_madeToSold_0 : decode cX2_madeToSold 0 = .ok (.aload_n 0, 1) := by decide +kernel
theorem dX2_madeToSold_1 : decode cX2_madeToSold 1 = .ok (.iload_n 1, 1) := by decide +kernel
theorem dX2_madeToSold_2 : decode cX2_madeToSold 2 = .ok (.invokevirtual 29, 3) := by decide +kernel
theorem dX2_madeToSold_5 : decode cX2_madeToSold 5 = .ok (.istore_n 2, 1) := by decide +kernel
theorem dX2_madeToSold_6 : decode cX2_madeToSold 6 = .ok (.iload_n 2, 1) := by decide +kernel
theorem dX2_madeToSold_7 : decode cX2_madeToSold 7 = .ok (.ifCond .ne 7, 3) := by decide +kernel
theorem dX2_madeToSold_10 : decode cX2_madeToSold 10 = .ok (.fconst 0, 1) := by decide +kernel
theorem dX2_madeToSold_11 : decode cX2_madeToSold 11 = .ok (.goto 13, 3) := by decide +kernel
theorem dX2_madeToSold_14 : decode cX2_madeToSold 14 = .ok (.aload_n 0, 1) := by decide +kernel
theorem dX2_madeToSold_15 : decode cX2_madeToSold 15 = .ok (.getfield 18, 3) := by decide +kernel
theorem dX2_madeToSold_18 : decode cX2_madeToSold 18 = .ok (.iload_n 1, 1) := by decide +kernel
theorem dX2_madeToSold_19 : decode cX2_madeToSold 19 = .ok (.iaload, 1) := by decide +kernel
theorem dX2_madeToSold_20 : decode cX2_madeToSold 20 = .ok (.i2f, 1) := by decide +kernel
theorem dX2_madeToSold_21 : decode cX2_madeToSold 21 = .ok (.iload_n 2, 1) := by decide +kernel
theorem dX2_madeToSold_22 : decode cX2_madeToSold 22 = .ok (.i2f, 1) := by decide +kernel
theorem dX2_madeToSold_23 : decode cX2_madeToSold 23 = .ok (.fdiv, 1) := by decide +kernel
theorem dX2_madeToSold_24 : decode cX2_madeToSold 24 = .ok (.freturn, 1) := by decide +kernel
theorem dX3_init_0 : decode cX3_init 0 = .ok (.aload_n 0, 1) := by decide +kernel
theorem dX3_init_1 : decode cX3_init 1 = .ok (.invokespecial 3, 3) := by decide +kernel
theorem dX3_init_4 : decode cX3_init 4 = .ok (.aload_n 0, 1) := by decide +kernel
theorem dX3_init_5 : decode cX3_init 5 = .ok (.sipush 480, 3) := by decide +kernel
theorem dX3_init_8 : decode cX3_init 8 = .ok (.newarray .int, 2) := by decide +kernel
theorem dX3_init_10 : decode cX3_init 10 = .ok (.putfield 9, 3) := by decide +kernel
theorem dX3_init_13 : decode cX3_init 13 = .ok (.aload_n 0, 1) := by decide +kernel
theorem dX3_init_14 : decode cX3_init 14 = .ok (.sipush 480, 3) := by decide +kernel
theorem dX3_init_17 : decode cX3_init 17 = .ok (.newarray .boolean, 2) := by decide +kernel
theorem dX3_init_19 : decode cX3_init 19 = .ok (.putfield 15, 3) := by decide +kernel
theorem dX3_init_22 : decode cX3_init 22 = .ok (.aload_n 0, 1) := by decide +kernel
theorem dX3_init_23 : decode cX3_init 23 = .ok (.sipush 480, 3) := by decide +kernel
theorem dX3_init_26 : decode cX3_init 26 = .ok (.newarray .int, 2) := by decide +kernel
theorem dX3_init_28 : decode cX3_init 28 = .ok (.putfield 19, 3) := by decide +kernel
theorem dX3_init_31 : decode cX3_init 31 = .ok (.iconst 0, 1) := by decide +kernel
theorem dX3_init_32 : decode cX3_init 32 = .ok (.istore_n 1, 1) := by decide +kernel
theorem dX3_init_33 : decode cX3_init 33 = .ok (.iload_n 1, 1) := by decide +kernel
theorem dX3_init_34 : decode cX3_init 34 = .ok (.sipush 480, 3) := by decide +kernel
theorem dX3_init_37 : decode cX3_init 37 = .ok (.if_icmp .ge 24, 3) := by decide +kernel
theorem dX3_init_40 : decode cX3_init 40 = .ok (.aload_n 0, 1) := by decide +kernel
theorem dX3_init_41 : decode cX3_init 41 = .ok (.getfield 9, 3) := by decide +kernel
theorem dX3_init_44 : decode cX3_init 44 = .ok (.iload_n 1, 1) := by decide +kernel
theorem dX3_init_45 : decode cX3_init 45 = .ok (.bipush 10, 2) := by decide +kernel
theorem dX3_init_47 : decode cX3_init 47 = .ok (.iastore, 1) := by decide +kernel
theorem dX3_init_48 : decode cX3_init 48 = .ok (.aload_n 0, 1) := by decide +kernel
theorem dX3_init_49 : decode cX3_init 49 = .ok (.getfield 19, 3) := by decide +kernel
theorem dX3_init_52 : decode cX3_init 52 = .ok (.iload_n 1, 1) := by decide +kernel
theorem dX3_init_53 : decode cX3_init 53 = .ok (.iconst (-1), 1) := by decide +kernel
theorem dX3_init_54 : decode cX3_init 54 = .ok (.iastore, 1) := by decide +kernel
theorem dX3_init_55 : decode cX3_init 55 = .ok (.iinc 1 1, 3) := by decide +kernel
theorem dX3_init_58 : decode cX3_init 58 = .ok (.goto (-25), 3) := by decide +kernel
theorem dX3_init_61 : decode cX3_init 61 = .ok (.return_, 1) := by decide +kernel
theorem dX3_tellWind_0 : decode cX3_tellWind 0 = .ok (.iload_n 1, 1) := by decide +kernel
theorem dX3_tellWind_1 : decode cX3_tellWind 1 = .ok (.istore 5, 2) := by decide +kernel
theorem dX3_tellWind_3 : decode cX3_tellWind 3 = .ok (.iload 5, 2) := by decide +kernel
theorem dX3_tellWind_5 : decode cX3_tellWind 5 = .ok (.iload_n 2, 1) := by decide +kernel
theorem dX3_tellWind_6 : decode cX3_tellWind 6 = .ok (.if_icmp .gt 26, 3) := by decide +kernel
theorem dX3_tellWind_9 : decode cX3_tellWind 9 = .ok (.aload_n 0, 1) := by decide +kernel
theorem dX3_tellWind_10 : decode cX3_tellWind 10 = .ok (.getfield 9, 3) := by decide +kernel
theorem dX3_tellWind_13 : decode cX3_tellWind 13 = .ok (.iload 5, 2) := by decide +kernel
theorem dX3_tellWind_15 : decode cX3_tellWind 15 = .ok (.iload_n 3, 1) := by decide +kernel
theorem dX3_tellWind_16 : decode cX3_tellWind 16 = .ok (.iastore, 1) := by decide +kernel
theorem dX3_tellWind_17 : decode cX3_tellWind 17 = .ok (.aload_n 0, 1) := by decide +kernel
theorem dX3_tellWind_18 : decode cX3_tellWind 18 = .ok (.getfield 15, 3) := by decide +kernel
theorem dX3_tellWind_21 : decode cX3_tellWind 21 = .ok (.iload 5, 2) := by decide +kernel
theorem dX3_tellWind_23 : decode cX3_tellWind 23 = .ok (.iload 4, 2) := by decide +kernel
theorem dX3_tellWind_25 : decode cX3_tellWind 25 = .ok (.bastore, 1) := by decide +kernel
theorem dX3_tellWind_26 : decode cX3_tellWind 26 = .ok (.iinc 5 1, 3) := by decide +kernel
theorem dX3_tellWind_29 : decode cX3_tellWind 29 = .ok (.goto (-26), 3) := by decide +kernel
theorem dX3_tellWind_32 : decode cX3_tellWind 32 = .ok (.return_, 1) := by decide +kernel
theorem dX3_tellWaves_0 : decode cX3_tellWaves 0 = .ok (.aload_n 0, 1) := by decide +kernel
theorem dX3_tellWaves_1 : decode cX3_tellWaves 1 = .ok (.getfield 19, 3) := by decide +kernel
theorem dX3_tellWaves_4 : decode cX3_tellWaves 4 = .ok (.iload_n 1, 1) := by decide +kernel
theorem dX3_tellWaves_5 : decode cX3_tellWaves 5 = .ok (.iload_n 2, 1) := by decide +kernel
theorem dX3_tellWaves_6 : decode cX3_tellWaves 6 = .ok (.iastore, 1) := by decide +kernel
theorem dX3_tellWaves_7 : decode cX3_tellWaves 7 = .ok (.return_, 1) := by decide +kernel
theorem dX3_speedIn_0 : decode cX3_speedIn 0 = .ok (.aload_n 0, 1) := by decide +kernel
theorem dX3_speedIn_1 : decode cX3_speedIn 1 = .ok (.getfield 9, 3) := by decide +kernel
theorem dX3_speedIn_4 : decode cX3_speedIn 4 = .ok (.iload_n 1, 1) := by decide +kernel
theorem dX3_speedIn_5 : decode cX3_speedIn 5 = .ok (.iaload, 1) := by decide +kernel
theorem dX3_speedIn_6 : decode cX3_speedIn 6 = .ok (.ireturn, 1) := by decide +kernel
theorem dX3_isWestIn_0 : decode cX3_isWestIn 0 = .ok (.aload_n 0, 1) := by decide +kernel
theorem dX3_isWestIn_1 : decode cX3_isWestIn 1 = .ok (.getfield 15, 3) := by decide +kernel
theorem dX3_isWestIn_4 : decode cX3_isWestIn 4 = .ok (.iload_n 1, 1) := by decide +kernel
theorem dX3_isWestIn_5 : decode cX3_isWestIn 5 = .ok (.baload, 1) := by decide +kernel
theorem dX3_isWestIn_6 : decode cX3_isWestIn 6 = .ok (.ireturn, 1) := by decide +kernel
theorem dX3_wavesIn_0 : decode cX3_wavesIn 0 = .ok (.aload_n 0, 1) := by decide +kernel
theorem dX3_wavesIn_1 : decode cX3_wavesIn 1 = .ok (.getfield 19, 3) := by decide +kernel
theorem dX3_wavesIn_4 : decode cX3_wavesIn 4 = .ok (.iload_n 1, 1) := by decide +kernel
theorem dX3_wavesIn_5 : decode cX3_wavesIn 5 = .ok (.iaload, 1) := by decide +kernel
theorem dX3_wavesIn_6 : decode cX3_wavesIn 6 = .ok (.iconst (-1), 1) := by decide +kernel
theorem dX3_wavesIn_7 : decode cX3_wavesIn 7 = .ok (.if_icmp .ne 14, 3) := by decide +kernel
theorem dX3_wavesIn_10 : decode cX3_wavesIn 10 = .ok (.aload_n 0, 1) := by decide +kernel
theorem dX3_wavesIn_11 : decode cX3_wavesIn 11 = .ok (.getfield 9, 3) := by decide +kernel
theorem dX3_wavesIn_14 : decode cX3_wavesIn 14 = .ok (.iload_n 1, 1) := by decide +kernel
theorem dX3_wavesIn_15 : decode cX3_wavesIn 15 = .ok (.iaload, 1) := by decide +kernel
theorem dX3_wavesIn_16 : decode cX3_wavesIn 16 = .ok (.iconst 3, 1) := by decide +kernel
theorem dX3_wavesIn_17 : decode cX3_wavesIn 17 = .ok (.idiv, 1) := by decide +kernel
theorem dX3_wavesIn_18 : decode cX3_wavesIn 18 = .ok (.goto 9, 3) := by decide +kernel
theorem dX3_wavesIn_21 : decode cX3_wavesIn 21 = .ok (.aload_n 0, 1) := by decide +kernel
theorem dX3_wavesIn_22 : decode cX3_wavesIn 22 = .ok (.getfield 19, 3) := by decide +kernel
theorem dX3_wavesIn_25 : decode cX3_wavesIn 25 = .ok (.iload_n 1, 1) := by decide +kernel
theorem dX3_wavesIn_26 : decode cX3_wavesIn 26 = .ok (.iaload, 1) := by decide +kernel
theorem dX3_wavesIn_27 : decode cX3_wavesIn 27 = .ok (.ireturn, 1) := by decide +kernel
set_option maxRecDepth 20000 in
theorem ggX4_init_X3_init : GoodIn wsX4_init wsX3_init := goodIn_r _ [23, 24, 2, 3, 25, 26, 27, 28, 29, 55, 56, 57] (by decide +kernel) (by decide +kernel)
set_option maxRecDepth 20000 in
theorem gX4_init_X3_init : GoodIn wsX4_init (wsX3_init) := ggX4_init_X3_init
set_option maxRecDepth 20000 in
theorem ggX4_init_X0_init : GoodIn wsX4_init wsX0_init := goodIn_r _ [32, 33, 2, 3, 25, 34, 35, 27, 36, 37, 38, 63, 64, 65, 66, 67, 68, 69] (by decide +kernel) (by decide +kernel)
set_option maxRecDepth 20000 in
theorem gX4_init_X0_init : GoodIn wsX4_init (wsX0_init) := ggX4_init_X0_init
set_option maxRecDepth 20000 in
theorem ggX4_init_X1_init : GoodIn wsX4_init wsX1_init := goodIn_r _ [41, 42, 2, 3, 25, 43, 44, 45, 46, 47, 70, 71, 72, 73, 74] (by decide +kernel) (by decide +kernel)
set_option maxRecDepth 20000 in
theorem gX4_init_X1_init : GoodIn wsX4_init (wsX1_init) := ggX4_init_X1_init
set_option maxRecDepth 20000 in
theorem ggX4_init_X2_init : GoodIn wsX4_init wsX2_init := goodIn_r _ [50, 51, 2, 3, 25, 52, 53, 54, 75, 76, 77, 78] (by decide +kernel) (by decide +kernel)
set_option maxRecDepth 20000 in
theorem gX4_init_X2_init : GoodIn wsX4_init (wsX2_init) := ggX4_init_X2_init
