/-! printed: names, fields, word lists, decode rows (out of claim/NAMES.whole.lean.txt) -/
theorem dX0_init_0 : decode cX0_init 0 = .ok (.aload_n 0, 1) := by decide +kernel
theorem dX0_init_1 : decode cX0_init 1 = .ok (.invokespecial 3, 3) := by decide +kernel
theorem dX0_init_4 : decode cX0_init 4 = .ok (.aload_n 0, 1) := by decide +kernel
theorem dX0_init_5 : decode cX0_init 5 = .ok (.bipush 24, 2) := by decide +kernel
theorem dX0_init_7 : decode cX0_init 7 = .ok (.newarray .int, 2) := by decide +kernel
theorem dX0_init_9 : decode cX0_init 9 = .ok (.putfield 9, 3) := by decide +kernel
theorem dX0_init_12 : decode cX0_init 12 = .ok (.aload_n 0, 1) := by decide +kernel
theorem dX0_init_13 : decode cX0_init 13 = .ok (.bipush 12, 2) := by decide +kernel
theorem dX0_init_15 : decode cX0_init 15 = .ok (.newarray .int, 2) := by decide +kernel
theorem dX0_init_17 : decode cX0_init 17 = .ok (.putfield 15, 3) := by decide +kernel
theorem dX0_init_20 : decode cX0_init 20 = .ok (.aload_n 0, 1) := by decide +kernel
theorem dX0_init_21 : decode cX0_init 21 = .ok (.bipush 12, 2) := by decide +kernel
theorem dX0_init_23 : decode cX0_init 23 = .ok (.newarray .boolean, 2) := by decide +kernel
theorem dX0_init_25 : decode cX0_init 25 = .ok (.putfield 18, 3) := by decide +kernel
theorem dX0_init_28 : decode cX0_init 28 = .ok (.aload_n 0, 1) := by decide +kernel
theorem dX0_init_29 : decode cX0_init 29 = .ok (.bipush 12, 2) := by decide +kernel
theorem dX0_init_31 : decode cX0_init 31 = .ok (.newarray .boolean, 2) := by decide +kernel
theorem dX0_init_33 : decode cX0_init 33 = .ok (.putfield 22, 3) := by decide +kernel
theorem dX0_init_36 : decode cX0_init 36 = .ok (.aload_n 0, 1) := by decide +kernel
theorem dX0_init_37 : decode cX0_init 37 = .ok (.bipush 12, 2) := by decide +kernel
theorem dX0_init_39 : decode cX0_init 39 = .ok (.newarray .int, 2) := by decide +kernel
theorem dX0_init_41 : decode cX0_init 41 = .ok (.putfield 25, 3) := by decide +kernel
theorem dX0_init_44 : decode cX0_init 44 = .ok (.iconst 0, 1) := by decide +kernel
theorem dX0_init_45 : decode cX0_init 45 = .ok (.istore_n 1, 1) := by decide +kernel
theorem dX0_init_46 : decode cX0_init 46 = .ok (.iload_n 1, 1) := by decide +kernel
theorem dX0_init_47 : decode cX0_init 47 = .ok (.bipush 24, 2) := by decide +kernel
theorem dX0_init_49 : decode cX0_init 49 = .ok (.if_icmp .ge 16, 3) := by decide +kernel
theorem dX0_init_52 : decode cX0_init 52 = .ok (.aload_n 0, 1) := by decide +kernel
theorem dX0_init_53 : decode cX0_init 53 = .ok (.getfield 9, 3) := by decide +kernel
theorem dX0_init_56 : decode cX0_init 56 = .ok (.iload_n 1, 1) := by decide +kernel
theorem dX0_init_57 : decode cX0_init 57 = .ok (.iconst (-1), 1) := by decide +kernel
theorem dX0_init_58 : decode cX0_init 58 = .ok (.iastore, 1) := by decide +kernel
theorem dX0_init_59 : decode cX0_init 59 = .ok (.iinc 1 1, 3) := by decide +kernel
theorem dX0_init_62 : decode cX0_init 62 = .ok (.goto (-16), 3) := by decide +kernel
theorem dX0_init_65 : decode cX0_init 65 = .ok (.return_, 1) := by decide +kernel
set_option maxRecDepth 20000 in
theorem ggX0_has_X4_isWithin : GoodIn wsX0_has wsX4_isWithin := goodIn_r _ [4] (by decide +kernel) (by decide +kernel)
set_option maxRecDepth 20000 in
theorem gX0_has_X4_isWithin_n32 : GoodIn wsX0_has (wsX4_isWithin) := ggX0_has_X4_isWithin
theorem dX0_has_0 : decode cX0_has 0 = .ok (.iload_n 1, 1) := by decide +kernel
theorem dX0_has_1 : decode cX0_has 1 = .ok (.iconst 0, 1) := by decide +kernel
theorem dX0_has_2 : decode cX0_has 2 = .ok (.aload_n 0, 1) := by decide +kernel
theorem dX0_has_3 : decode cX0_has 3 = .ok (.getfield 28, 3) := by decide +kernel
theorem dX0_has_6 : decode cX0_has 6 = .ok (.iconst 1, 1) := by decide +kernel
theorem dX0_has_7 : decode cX0_has 7 = .ok (.isub, 1) := by decide +kernel
theorem dX0_has_8 : decode cX0_has 8 = .ok (.invokestatic 32, 3) := by decide +kernel
theorem dX0_has_11 : decode cX0_has 11 = .ok (.ireturn, 1) := by decide +kernel
theorem dX0_hasRoomAt_0 : decode cX0_hasRoomAt 0 = .ok (.aload_n 0, 1) := by decide +kernel
theorem dX0_hasRoomAt_1 : decode cX0_hasRoomAt 1 = .ok (.getfield 9, 3) := by decide +kernel
theorem dX0_hasRoomAt_4 : decode cX0_hasRoomAt 4 = .ok (.iload_n 1, 1) := by decide +kernel
theorem dX0_hasRoomAt_5 : decode cX0_hasRoomAt 5 = .ok (.iaload, 1) := by decide +kernel
theorem dX0_hasRoomAt_6 : decode cX0_hasRoomAt 6 = .ok (.iconst (-1), 1) := by decide +kernel
theorem dX0_hasRoomAt_7 : decode cX0_hasRoomAt 7 = .ok (.if_icmp .ne 16, 3) := by decide +kernel
theorem dX0_hasRoomAt_10 : decode cX0_hasRoomAt 10 = .ok (.aload_n 0, 1) := by decide +kernel
theorem dX0_hasRoomAt_11 : decode cX0_hasRoomAt 11 = .ok (.getfield 28, 3) := by decide +kernel
theorem dX0_hasRoomAt_14 : decode cX0_hasRoomAt 14 = .ok (.bipush 12, 2) := by decide +kernel
theorem dX0_hasRoomAt_16 : decode cX0_hasRoomAt 16 = .ok (.if_icmp .ge 7, 3) := by decide +kernel
theorem dX0_hasRoomAt_19 : decode cX0_hasRoomAt 19 = .ok (.iconst 1, 1) := by decide +kernel
theorem dX0_hasRoomAt_20 : decode cX0_hasRoomAt 20 = .ok (.goto 4, 3) := by decide +kernel
theorem dX0_hasRoomAt_23 : decode cX0_hasRoomAt 23 = .ok (.iconst 0, 1) := by decide +kernel
theorem dX0_hasRoomAt_24 : decode cX0_hasRoomAt 24 = .ok (.ireturn, 1) := by decide +kernel
theorem dX0_build_0 : decode cX0_build 0 = .ok (.aload_n 0, 1) := by decide +kernel
theorem dX0_build_1 : decode cX0_build 1 = .ok (.getfield 28, 3) := by decide +kernel
theorem dX0_build_4 : decode cX0_build 4 = .ok (.istore_n 2, 1) := by decide +kernel
theorem dX0_build_5 : decode cX0_build 5 = .ok (.aload_n 0, 1) := by decide +kernel
theorem dX0_build_6 : decode cX0_build 6 = .ok (.getfield 9, 3) := by decide +kernel
theorem dX0_build_9 : decode cX0_build 9 = .ok (.iload_n 1, 1) := by decide +kernel
theorem dX0_build_10 : decode cX0_build 10 = .ok (.iload_n 2, 1) := by decide +kernel
theorem dX0_build_11 : decode cX0_build 11 = .ok (.iastore, 1) := by decide +kernel
theorem dX0_build_12 : decode cX0_build 12 = .ok (.aload_n 0, 1) := by decide +kernel
theorem dX0_build_13 : decode cX0_build 13 = .ok (.getfield 15, 3) := by decide +kernel
theorem dX0_build_16 : decode cX0_build 16 = .ok (.iload_n 2, 1) := by decide +kernel
theorem dX0_build_17 : decode cX0_build 17 = .ok (.iload_n 1, 1) := by decide +kernel
theorem dX0_build_18 : decode cX0_build 18 = .ok (.iastore, 1) := by decide +kernel
theorem dX0_build_19 : decode cX0_build 19 = .ok (.aload_n 0, 1) := by decide +kernel
theorem dX0_build_20 : decode cX0_build 20 = .ok (.dup, 1) := by decide +kernel
theorem dX0_build_21 : decode cX0_build 21 = .ok (.getfield 28, 3) := by decide +kernel
theorem dX0_build_24 : decode cX0_build 24 = .ok (.iconst 1, 1) := by decide +kernel
theorem dX0_build_25 : decode cX0_build 25 = .ok (.iadd, 1) := by decide +kernel
theorem dX0_build_26 : decode cX0_build 26 = .ok (.putfield 28, 3) := by decide +kernel
theorem dX0_build_29 : decode cX0_build 29 = .ok (.iload_n 2, 1) := by decide +kernel
theorem dX0_build_30 : decode cX0_build 30 = .ok (.ireturn, 1) := by decide +kernel
theorem dX0_placeOf_0 : decode cX0_placeOf 0 = .ok (.aload_n 0, 1) := by decide +kernel
theorem dX0_placeOf_1 : decode cX0_placeOf 1 = .ok (.getfield 15, 3) := by decide +kernel
theorem dX0_placeOf_4 : decode cX0_placeOf 4 = .ok (.iload_n 1, 1) := by decide +kernel
theorem dX0_placeOf_5 : decode cX0_placeOf 5 = .ok (.iaload, 1) := by decide +kernel
theorem dX0_placeOf_6 : decode cX0_placeOf 6 = .ok (.ireturn, 1) := by decide +kernel
theorem dX0_isBroken_0 : decode cX0_isBroken 0 = .ok (.aload_n 0, 1) := by decide +kernel
theorem dX0_isBroken_1 : decode cX0_isBroken 1 = .ok (.getfield 18, 3) := by decide +kernel
theorem dX0_isBroken_4 : decode cX0_isBroken 4 = .ok (.iload_n 1, 1) := by decide +kernel
theorem dX0_isBroken_5 : decode cX0_isBroken 5 = .ok (.baload, 1) := by decide +kernel
theorem dX0_isBroken_6 : decode cX0_isBroken 6 = .ok (.ireturn, 1) := by decide +kernel
theorem dX0_countBroken_0 : decode cX0_countBroken 0 = .ok (.aload_n 0, 1) := by decide +kernel
theorem dX0_countBroken_1 : decode cX0_countBroken 1 = .ok (.getfield 36, 3) := by decide +kernel
theorem dX0_countBroken_4 : decode cX0_countBroken 4 = .ok (.ireturn, 1) := by decide +kernel
theorem dX0_madeInAllBy_0 : decode cX0_madeInAllBy 0 = .ok (.aload_n 0, 1) := by decide +kernel
theorem dX0_madeInAllBy_1 : decode cX0_madeInAllBy 1 = .ok (.getfield 25, 3) := by decide +kernel
theorem dX0_madeInAllBy_4 : decode cX0_madeInAllBy 4 = .ok (.iload_n 1, 1) := by decide +kernel
theorem dX0_madeInAllBy_5 : decode cX0_madeInAllBy 5 = .ok (.iaload, 1) := by decide +kernel
theorem dX0_madeInAllBy_6 : decode cX0_madeInAllBy 6 = .ok (.ireturn, 1) := by decide +kernel
theorem dX0_breakDown_0 : decode cX0_breakDown 0 = .ok (.aload_n 0, 1) := by decide +kernel
theorem dX0_breakDown_1 : decode cX0_breakDown 1 = .ok (.getfield 18, 3) := by decide +kernel
theorem dX0_breakDown_4 : decode cX0_breakDown 4 = .ok (.iload_n 1, 1) := by decide +kernel
theorem dX0_breakDown_5 : decode cX0_breakDown 5 = .ok (.iconst 1, 1) := by decide +kernel
theorem dX0_breakDown_6 : decode cX0_breakDown 6 = .ok (.bastore, 1) := by decide +kernel
theorem dX0_breakDown_7 : decode cX0_breakDown 7 = .ok (.aload_n 0, 1) := by decide +kernel
theorem dX0_breakDown_8 : decode cX0_breakDown 8 = .ok (.dup, 1) := by decide +kernel
theorem dX0_breakDown_9 : decode cX0_breakDown 9 = .ok (.getfield 36, 3) := by decide +kernel
theorem dX0_breakDown_12 : decode cX0_breakDown 12 = .ok (.iconst 1, 1) := by decide +kernel
theorem dX0_breakDown_13 : decode cX0_breakDown 13 = .ok (.iadd, 1) := by decide +kernel
theorem dX0_breakDown_14 : decode cX0_breakDown 14 = .ok (.putfield 36, 3) := by decide +kernel
theorem dX0_breakDown_17 : decode cX0_breakDown 17 = .ok (.return_, 1) := by decide +kernel
theorem dX0_mend_0 : decode cX0_mend 0 = .ok (.aload_n 0, 1) := by decide +kernel
theorem dX0_mend_1 : decode cX0_mend 1 = .ok (.getfield 18, 3) := by decide +kernel
theorem dX0_mend_4 : decode cX0_mend 4 = .ok (.iload_n 1, 1) := by decide +kernel
theorem dX0_mend_5 : decode cX0_mend 5 = .ok (.iconst 0, 1) := by decide +kernel
theorem dX0_mend_6 : decode cX0_mend 6 = .ok (.bastore, 1) := by decide +kernel
theorem dX0_mend_7 : decode cX0_mend 7 = .ok (.aload_n 0, 1) := by decide +kernel
theorem dX0_mend_8 : decode cX0_mend 8 = .ok (.dup, 1) := by decide +kernel
theorem dX0_mend_9 : decode cX0_mend 9 = .ok (.getfield 36, 3) := by decide +kernel
theorem dX0_mend_12 : decode cX0_mend 12 = .ok (.iconst 1, 1) := by decide +kernel
theorem dX0_mend_13 : decode cX0_mend 13 = .ok (.isub, 1) := by decide +kernel
theorem dX0_mend_14 : decode cX0_mend 14 = .ok (.putfield 36, 3) := by decide +kernel
theorem dX0_mend_17 : decode cX0_mend 17 = .ok (.return_, 1) := by decide +kernel
set_option maxRecDepth 20000 in
theorem ggX0_stillBeside_X0_stillAt : GoodIn wsX0_stillBeside wsX0_stillAt := goodIn_r _ [6, 7, 8, 9, 10, 11, 5, 12, 13, 14, 15, 16, 17, 18, 19, 20, 21, 22, 23] (by decide +kernel) (by decide +kernel)
set_option maxRecDepth 20000 in
theorem gX0_stillBeside_X0_stillAt : GoodIn wsX0_stillBeside (wsV RX0 39 RX0 yX0_stillAt wsX0_stillAt) := goodIn_app (goodIn_of _ (by decide +kernel)) ggX0_stillBeside_X0_stillAt
theorem dX0_stillBeside_0 : decode cX0_stillBeside 0 = .ok (.aload_n 0, 1) := by decide +kernel
theorem dX0_stillBeside_1 : decode cX0_stillBeside 1 = .ok (.getfield 15, 3) := by decide +kernel
theorem dX0_stillBeside_4 : decode cX0_stillBeside 4 = .ok (.iload_n 1, 1) := by decide +kernel
theorem dX0_stillBeside_5 : decode cX0_stillBeside 5 = .ok (.iaload, 1) := by decide +kernel
theorem dX0_stillBeside_6 : decode cX0_stillBeside 6 = .ok (.istore_n 2, 1) := by decide +kernel
theorem dX0_stillBeside_7 : decode cX0_stillBeside 7 = .ok (.iload_n 2, 1) := by decide +kernel
theorem dX0_stillBeside_8 : decode cX0_stillBeside 8 = .ok (.bipush 6, 2) := by decide +kernel
theorem dX0_stillBeside_10 : decode cX0_stillBeside 10 = .ok (.irem, 1) := by decide +kernel
theorem dX0_stillBeside_11 : decode cX0_stillBeside 11 = .ok (.istore_n 3, 1) := by decide +kernel
theorem dX0_stillBeside_12 : decode cX0_stillBeside 12 = .ok (.iload_n 2, 1) := by decide +kernel
theorem dX0_stillBeside_13 : decode cX0_stillBeside 13 = .ok (.bipush 6, 2) := by decide +kernel
theorem dX0_stillBeside_15 : decode cX0_stillBeside 15 = .ok (.if_icmp .lt 11, 3) := by decide +kernel
theorem dX0_stillBeside_18 : decode cX0_stillBeside 18 = .ok (.aload_n 0, 1) := by decide +kernel
theorem dX0_stillBeside_19 : decode cX0_stillBeside 19 = .ok (.iload_n 2, 1) := by decide +kernel
theorem dX0_stillBeside_20 : decode cX0_stillBeside 20 = .ok (.bipush 6, 2) := by decide +kernel
theorem dX0_stillBeside_22 : decode cX0_stillBeside 22 = .ok (.isub, 1) := by decide +kernel
theorem dX0_stillBeside_23 : decode cX0_stillBeside 23 = .ok (.invokevirtual 39, 3) := by decide +kernel
theorem dX0_stillBeside_26 : decode cX0_stillBeside 26 = .ok (.iload_n 2, 1) := by decide +kernel
theorem dX0_stillBeside_27 : decode cX0_stillBeside 27 = .ok (.bipush 18, 2) := by decide +kernel
theorem dX0_stillBeside_29 : decode cX0_stillBeside 29 = .ok (.if_icmp .ge 11, 3) := by decide +kernel
theorem dX0_stillBeside_32 : decode cX0_stillBeside 32 = .ok (.aload_n 0, 1) := by decide +kernel
theorem dX0_stillBeside_33 : decode cX0_stillBeside 33 = .ok (.iload_n 2, 1) := by decide +kernel
theorem dX0_stillBeside_34 : decode cX0_stillBeside 34 = .ok (.bipush 6, 2) := by decide +kernel
theorem dX0_stillBeside_36 : decode cX0_stillBeside 36 = .ok (.iadd, 1) := by decide +kernel
theorem dX0_stillBeside_37 : decode cX0_stillBeside 37 = .ok (.invokevirtual 39, 3) := by decide +kernel
theorem dX0_stillBeside_40 : decode cX0_stillBeside 40 = .ok (.iload_n 3, 1) := by decide +kernel
theorem dX0_stillBeside_41 : decode cX0_stillBeside 41 = .ok (.ifCond .le 10, 3) := by decide +kernel
theorem dX0_stillBeside_44 : decode cX0_stillBeside 44 = .ok (.aload_n 0, 1) := by decide +kernel
theorem dX0_stillBeside_45 : decode cX0_stillBeside 45 = .ok (.iload_n 2, 1) := by decide +kernel
theorem dX0_stillBeside_46 : decode cX0_stillBeside 46 = .ok (.iconst 1, 1) := by decide +kernel
theorem dX0_stillBeside_47 : decode cX0_stillBeside 47 = .ok (.isub, 1) := by decide +kernel
theorem dX0_stillBeside_48 : decode cX0_stillBeside 48 = .ok (.invokevirtual 39, 3) := by decide +kernel
theorem dX0_stillBeside_51 : decode cX0_stillBeside 51 = .ok (.iload_n 3, 1) := by decide +kernel
theorem dX0_stillBeside_52 : decode cX0_stillBeside 52 = .ok (.iconst 5, 1) := by decide +kernel
theorem dX0_stillBeside_53 : decode cX0_stillBeside 53 = .ok (.if_icmp .ge 10, 3) := by decide +kernel
theorem dX0_stillBeside_56 : decode cX0_stillBeside 56 = .ok (.aload_n 0, 1) := by decide +kernel
theorem dX0_stillBeside_57 : decode cX0_stillBeside 57 = .ok (.iload_n 2, 1) := by decide +kernel
theorem dX0_stillBeside_58 : decode cX0_stillBeside 58 = .ok (.iconst 1, 1) := by decide +kernel
theorem dX0_stillBeside_59 : decode cX0_stillBeside 59 = .ok (.iadd, 1) := by decide +kernel
theorem dX0_stillBeside_60 : decode cX0_stillBeside 60 = .ok (.invokevirtual 39, 3) := by decide +kernel
theorem dX0_stillBeside_63 : decode cX0_stillBeside 63 = .ok (.return_, 1) := by decide +kernel
set_option maxRecDepth 20000 in
theorem ggX0_stillAt_X0_has : GoodIn wsX0_stillAt wsX0_has := goodIn_r _ [7, 8, 9, 10, 11, 12, 13, 14, 15, 16, 17, 18] (by decide +kernel) (by decide +kernel)
set_option maxRecDepth 20000 in
theorem gX0_stillAt_X0_has : GoodIn wsX0_stillAt (wsV RX0 43 RX0 yX0_has wsX0_has) := goodIn_app (goodIn_of _ (by decide +kernel)) ggX0_stillAt_X0_has
theorem dX0_stillAt_0 : decode cX0_stillAt 0 = .ok (.aload_n 0, 1) := by decide +kernel
theorem dX0_stillAt_1 : decode cX0_stillAt 1 = .ok (.getfield 9, 3) := by decide +kernel
theorem dX0_stillAt_4 : decode cX0_stillAt 4 = .ok (.iload_n 1, 1) := by decide +kernel
theorem dX0_stillAt_5 : decode cX0_stillAt 5 = .ok (.iaload, 1) := by decide +kernel
theorem dX0_stillAt_6 : decode cX0_stillAt 6 = .ok (.istore_n 2, 1) := by decide +kernel
theorem dX0_stillAt_7 : decode cX0_stillAt 7 = .ok (.aload_n 0, 1) := by decide +kernel
theorem dX0_stillAt_8 : decode cX0_stillAt 8 = .ok (.iload_n 2, 1) := by decide +kernel
theorem dX0_stillAt_9 : decode cX0_stillAt 9 = .ok (.invokevirtual 43, 3) := by decide +kernel
theorem dX0_stillAt_12 : decode cX0_stillAt 12 = .ok (.ifCond .eq 10, 3) := by decide +kernel
theorem dX0_stillAt_15 : decode cX0_stillAt 15 = .ok (.aload_n 0, 1) := by decide +kernel
theorem dX0_stillAt_16 : decode cX0_stillAt 16 = .ok (.getfield 22, 3) := by decide +kernel
theorem dX0_stillAt_19 : decode cX0_stillAt 19 = .ok (.iload_n 2, 1) := by decide +kernel
theorem dX0_stillAt_20 : decode cX0_stillAt 20 = .ok (.iconst 1, 1) := by decide +kernel
theorem dX0_stillAt_21 : decode cX0_stillAt 21 = .ok (.bastore, 1) := by decide +kernel
theorem dX0_stillAt_22 : decode cX0_stillAt 22 = .ok (.return_, 1) := by decide +kernel
set_option maxRecDepth 20000 in
theorem ggX0_generate_X0_powerOf : GoodIn wsX0_generate wsX0_powerOf := goodIn_r _ [7, 8, 9, 10, 6, 11, 12, 13, 14, 15, 16, 17, 18, 19, 20, 21, 22, 1, 23, 24, 25, 26, 27, 28, 29, 30, 31, 32, 33, 34, 35, 36, 37, 38, 39, 40, 41, 42, 43, 44, 45, 46, 47, 48] (by decide +kernel) (by decide +kernel)
set_option maxRecDepth 20000 in
theorem gX0_generate_X0_powerOf : GoodIn wsX0_generate (wsV RX0 47 RX0 yX0_powerOf wsX0_powerOf) := goodIn_app (goodIn_of _ (by decide +kernel)) ggX0_generate_X0_powerOf
theorem dX0_generate_0 : decode cX0_generate 0 = .ok (.iconst 0, 1) := by decide +kernel
theorem dX0_generate_1 : decode cX0_generate 1 = .ok (.istore_n 3, 1) := by decide +kernel
theorem dX0_generate_2 : decode cX0_generate 2 = .ok (.iconst 0, 1) := by decide +kernel
theorem dX0_generate_3 : decode cX0_generate 3 = .ok (.istore 4, 2) := by decide +kernel
theorem dX0_generate_5 : decode cX0_generate 5 = .ok (.iload 4, 2) := by decide +kernel
theorem dX0_generate_7 : decode cX0_generate 7 = .ok (.aload_n 0, 1) := by decide +kernel
theorem dX0_generate_8 : decode cX0_generate 8 = .ok (.getfield 28, 3) := by decide +kernel
theorem dX0_generate_11 : decode cX0_generate 11 = .ok (.if_icmp .ge 36, 3) := by decide +kernel
theorem dX0_generate_14 : decode cX0_generate 14 = .ok (.aload_n 0, 1) := by decide +kernel
theorem dX0_generate_15 : decode cX0_generate 15 = .ok (.iload 4, 2) := by decide +kernel
theorem dX0_generate_17 : decode cX0_generate 17 = .ok (.iload_n 1, 1) := by decide +kernel
theorem dX0_generate_18 : decode cX0_generate 18 = .ok (.iload_n 2, 1) := by decide +kernel
theorem dX0_generate_19 : decode cX0_generate 19 = .ok (.invokevirtual 47, 3) := by decide +kernel
theorem dX0_generate_22 : decode cX0_generate 22 = .ok (.istore 5, 2) := by decide +kernel
theorem dX0_generate_24 : decode cX0_generate 24 = .ok (.aload_n 0, 1) := by decide +kernel
theorem dX0_generate_25 : decode cX0_generate 25 = .ok (.getfield 25, 3) := by decide +kernel
theorem dX0_generate_28 : decode cX0_generate 28 = .ok (.iload 4, 2) := by decide +kernel
theorem dX0_generate_30 : decode cX0_generate 30 = .ok (.dup2, 1) := by decide +kernel
theorem dX0_generate_31 : decode cX0_generate 31 = .ok (.iaload, 1) := by decide +kernel
theorem dX0_generate_32 : decode cX0_generate 32 = .ok (.iload 5, 2) := by decide +kernel
theorem dX0_generate_34 : decode cX0_generate 34 = .ok (.iadd, 1) := by decide +kernel
theorem dX0_generate_35 : decode cX0_generate 35 = .ok (.iastore, 1) := by decide +kernel
theorem dX0_generate_36 : decode cX0_generate 36 = .ok (.iload_n 3, 1) := by decide +kernel
theorem dX0_generate_37 : decode cX0_generate 37 = .ok (.iload 5, 2) := by decide +kernel
theorem dX0_generate_39 : decode cX0_generate 39 = .ok (.iadd, 1) := by decide +kernel
theorem dX0_generate_40 : decode cX0_generate 40 = .ok (.istore_n 3, 1) := by decide +kernel
theorem dX0_generate_41 : decode cX0_generate 41 = .ok (.iinc 4 1, 3) := by decide +kernel
theorem dX0_generate_44 : decode cX0_generate 44 = .ok (.goto (-39), 3) := by decide +kernel
theorem dX0_generate_47 : decode cX0_generate 47 = .ok (.iload_n 3, 1) := by decide +kernel
theorem dX0_generate_48 : decode cX0_generate 48 = .ok (.ireturn, 1) := by decide +kernel
theorem dX0_endStillness_0 : decode cX0_endStillness 0 = .ok (.iconst 0, 1) := by decide +kernel
theorem dX0_endStillness_1 : decode cX0_endStillness 1 = .ok (.istore_n 1, 1) := by decide +kernel
theorem dX0_endStillness_2 : decode cX0_endStillness 2 = .ok (.iload_n 1, 1) := by decide +kernel
theorem dX0_endStillness_3 : decode cX0_endStillness 3 = .ok (.aload_n 0, 1) := by decide +kernel
theorem dX0_endStillness_4 : decode cX0_endStillness 4 = .ok (.getfield 28, 3) := by decide +kernel
theorem dX0_endStillness_7 : decode cX0_endStillness 7 = .ok (.if_icmp .ge 16, 3) := by decide +kernel
theorem dX0_endStillness_10 : decode cX0_endStillness 10 = .ok (.aload_n 0, 1) := by decide +kernel
theorem dX0_endStillness_11 : decode cX0_endStillness 11 = .ok (.getfield 22, 3) := by decide +kernel
theorem dX0_endStillness_14 : decode cX0_endStillness 14 = .ok (.iload_n 1, 1) := by decide +kernel
theorem dX0_endStillness_15 : decode cX0_endStillness 15 = .ok (.iconst 0, 1) := by decide +kernel
theorem dX0_endStillness_16 : decode cX0_endStillness 16 = .ok (.bastore, 1) := by decide +kernel
theorem dX0_endStillness_17 : decode cX0_endStillness 17 = .ok (.iinc 1 1, 3) := by decide +kernel
theorem dX0_endStillness_20 : decode cX0_endStillness 20 = .ok (.goto (-18), 3) := by decide +kernel
theorem dX0_endStillness_23 : decode cX0_endStillness 23 = .ok (.return_, 1) := by decide +kernel
set_option maxRecDepth 20000 in
theorem ggX0_powerOfAll_X0_powerOf : GoodIn wsX0_powerOfAll wsX0_powerOf := goodIn_r _ [6, 7, 8, 9, 5, 10, 11, 12, 13, 14, 15, 16, 17, 18, 19, 20, 21, 1, 22, 23, 24, 25, 26, 27, 28, 29, 30, 31, 32, 33, 34, 35, 36, 37, 38, 39, 40, 41, 42, 43, 44, 45, 46, 47] (by decide +kernel) (by decide +kernel)
set_option maxRecDepth 20000 in
theorem gX0_powerOfAll_X0_powerOf : GoodIn wsX0_powerOfAll (wsV RX0 47 RX0 yX0_powerOf wsX0_powerOf) := goodIn_app (goodIn_of _ (by decide +kernel)) ggX0_powerOfAll_X0_powerOf
theorem dX0_powerOfAll_0 : decode cX0_powerOfAll 0 = .ok (.iconst 0, 1) := by decide +kernel
theorem dX0_powerOfAll_1 : decode cX0_powerOfAll 1 = .ok (.istore_n 3, 1) := by decide +kernel
theorem dX0_powerOfAll_2 : decode cX0_powerOfAll 2 = .ok (.iconst 0, 1) := by decide +kernel
theorem dX0_powerOfAll_3 : decode cX0_powerOfAll 3 = .ok (.istore 4, 2) := by decide +kernel
theorem dX0_powerOfAll_5 : decode cX0_powerOfAll 5 = .ok (.iload 4, 2) := by decide +kernel
theorem dX0_powerOfAll_7 : decode cX0_powerOfAll 7 = .ok (.aload_n 0, 1) := by decide +kernel
theorem dX0_powerOfAll_8 : decode cX0_powerOfAll 8 = .ok (.getfield 28, 3) := by decide +kernel
theorem dX0_powerOfAll_11 : decode cX0_powerOfAll 11 = .ok (.if_icmp .ge 20, 3) := by decide +kernel
theorem dX0_powerOfAll_14 : decode cX0_powerOfAll 14 = .ok (.iload_n 3, 1) := by decide +kernel
theorem dX0_powerOfAll_15 : decode cX0_powerOfAll 15 = .ok (.aload_n 0, 1) := by decide +kernel
theorem dX0_powerOfAll_16 : decode cX0_powerOfAll 16 = .ok (.iload 4, 2) := by decide +kernel
theorem dX0_powerOfAll_18 : decode cX0_powerOfAll 18 = .ok (.iload_n 1, 1) := by decide +kernel
theorem dX0_powerOfAll_19 : decode cX0_powerOfAll 19 = .ok (.iload_n 2, 1) := by decide +kernel
theorem dX0_powerOfAll_20 : decode cX0_powerOfAll 20 = .ok (.invokevirtual 47, 3) := by decide +kernel
theorem dX0_powerOfAll_23 : decode cX0_powerOfAll 23 = .ok (.iadd, 1) := by decide +kernel
theorem dX0_powerOfAll_24 : decode cX0_powerOfAll 24 = .ok (.istore_n 3, 1) := by decide +kernel
theorem dX0_powerOfAll_25 : decode cX0_powerOfAll 25 = .ok (.iinc 4 1, 3) := by decide +kernel
theorem dX0_powerOfAll_28 : decode cX0_powerOfAll 28 = .ok (.goto (-23), 3) := by decide +kernel
theorem dX0_powerOfAll_31 : decode cX0_powerOfAll 31 = .ok (.iload_n 3, 1) := by decide +kernel
theorem dX0_powerOfAll_32 : decode cX0_powerOfAll 32 = .ok (.ireturn, 1) := by decide +kernel
set_option maxRecDepth 20000 in
theorem ggX0_powerOfAllAnew_X0_turns : GoodIn wsX0_powerOfAllAnew wsX0_turns := goodIn_r _ [7, 8, 9, 35, 36, 37, 38, 39, 40, 41] (by decide +kernel) (by decide +kernel)
set_option maxRecDepth 20000 in
theorem gX0_powerOfAllAnew_X0_turns : GoodIn wsX0_powerOfAllAnew (wsV RX0 51 RX0 yX0_turns wsX0_turns) := goodIn_app (goodIn_of _ (by decide +kernel)) ggX0_powerOfAllAnew_X0_turns
set_option maxRecDepth 20000 in
theorem ggX0_powerOfAllAnew_X0_windLeftAnew : GoodIn wsX0_powerOfAllAnew wsX0_windLeftAnew := goodIn_r _ [13, 14, 15, 16, 6, 17, 18, 19, 20, 21, 1, 22, 23, 24, 3, 4, 5, 7, 8, 9, 25, 26, 27, 35, 36, 37, 38, 39, 40, 41] (by decide +kernel) (by decide +kernel)
set_option maxRecDepth 20000 in
theorem gX0_powerOfAllAnew_X0_windLeftAnew : GoodIn wsX0_powerOfAllAnew (wsV RX0 54 RX0 yX0_windLeftAnew wsX0_windLeftAnew) := goodIn_app (goodIn_of _ (by decide +kernel)) ggX0_powerOfAllAnew_X0_windLeftAnew
set_option maxRecDepth 20000 in
theorem ggX0_powerOfAllAnew_X0_powerOfWind : GoodIn wsX0_powerOfAllAnew wsX0_powerOfWind := goodIn_r _ [30, 31, 32, 33, 34, 22, 23, 24] (by decide +kernel) (by decide +kernel)
set_option maxRecDepth 20000 in
theorem gX0_powerOfAllAnew_X0_powerOfWind : GoodIn wsX0_powerOfAllAnew (va_wsS RX0 57 yX0_powerOfWind wsX0_powerOfWind) := goodIn_app (goodIn_of _ (by decide +kernel)) ggX0_powerOfAllAnew_X0_powerOfWind
theorem dX0_powerOfAllAnew_0 : decode cX0_powerOfAllAnew 0 = .ok (.iconst 0, 1) := by decide +kernel
theorem dX0_powerOfAllAnew_1 : decode cX0_powerOfAllAnew 1 = .ok (.istore_n 3, 1) := by decide +kernel
theorem dX0_powerOfAllAnew_2 : decode cX0_powerOfAllAnew 2 = .ok (.aload_n 0, 1) := by decide +kernel
theorem dX0_powerOfAllAnew_3 : decode cX0_powerOfAllAnew 3 = .ok (.getfield 28, 3) := by decide +kernel
theorem dX0_powerOfAllAnew_6 : decode cX0_powerOfAllAnew 6 = .ok (.iconst 1, 1) := by decide +kernel
theorem dX0_powerOfAllAnew_7 : decode cX0_powerOfAllAnew 7 = .ok (.isub, 1) := by decide +kernel
theorem dX0_powerOfAllAnew_8 : decode cX0_powerOfAllAnew 8 = .ok (.istore 4, 2) := by decide +kernel
theorem dX0_powerOfAllAnew_10 : decode cX0_powerOfAllAnew 10 = .ok (.iload 4, 2) := by decide +kernel
theorem dX0_powerOfAllAnew_12 : decode cX0_powerOfAllAnew 12 = .ok (.ifCond .lt 37, 3) := by decide +kernel
theorem dX0_powerOfAllAnew_15 : decode cX0_powerOfAllAnew 15 = .ok (.aload_n 0, 1) := by decide +kernel
theorem dX0_powerOfAllAnew_16 : decode cX0_powerOfAllAnew 16 = .ok (.iload 4, 2) := by decide +kernel
theorem dX0_powerOfAllAnew_18 : decode cX0_powerOfAllAnew 18 = .ok (.invokevirtual 51, 3) := by decide +kernel
theorem dX0_powerOfAllAnew_21 : decode cX0_powerOfAllAnew 21 = .ok (.ifCond .eq 22, 3) := by decide +kernel
theorem dX0_powerOfAllAnew_24 : decode cX0_powerOfAllAnew 24 = .ok (.iload_n 3, 1) := by decide +kernel
theorem dX0_powerOfAllAnew_25 : decode cX0_powerOfAllAnew 25 = .ok (.aload_n 0, 1) := by decide +kernel
theorem dX0_powerOfAllAnew_26 : decode cX0_powerOfAllAnew 26 = .ok (.aload_n 0, 1) := by decide +kernel
theorem dX0_powerOfAllAnew_27 : decode cX0_powerOfAllAnew 27 = .ok (.getfield 15, 3) := by decide +kernel
theorem dX0_powerOfAllAnew_30 : decode cX0_powerOfAllAnew 30 = .ok (.iload 4, 2) := by decide +kernel
theorem dX0_powerOfAllAnew_32 : decode cX0_powerOfAllAnew 32 = .ok (.iaload, 1) := by decide +kernel
theorem dX0_powerOfAllAnew_33 : decode cX0_powerOfAllAnew 33 = .ok (.iload_n 1, 1) := by decide +kernel
theorem dX0_powerOfAllAnew_34 : decode cX0_powerOfAllAnew 34 = .ok (.iload_n 2, 1) := by decide +kernel
theorem dX0_powerOfAllAnew_35 : decode cX0_powerOfAllAnew 35 = .ok (.invokevirtual 54, 3) := by decide +kernel
theorem dX0_powerOfAllAnew_38 : decode cX0_powerOfAllAnew 38 = .ok (.invokestatic 57, 3) := by decide +kernel
theorem dX0_powerOfAllAnew_41 : decode cX0_powerOfAllAnew 41 = .ok (.iadd, 1) := by decide +kernel
theorem dX0_powerOfAllAnew_42 : decode cX0_powerOfAllAnew 42 = .ok (.istore_n 3, 1) := by decide +kernel
theorem dX0_powerOfAllAnew_43 : decode cX0_powerOfAllAnew 43 = .ok (.iinc 4 (-1), 3) := by decide +kernel
theorem dX0_powerOfAllAnew_46 : decode cX0_powerOfAllAnew 46 = .ok (.goto (-36), 3) := by decide +kernel
theorem dX0_powerOfAllAnew_49 : decode cX0_powerOfAllAnew 49 = .ok (.iload_n 3, 1) := by decide +kernel
theorem dX0_powerOfAllAnew_50 : decode cX0_powerOfAllAnew 50 = .ok (.ireturn, 1) := by decide +kernel
theorem dX0_turns_0 : decode cX0_turns 0 = .ok (.aload_n 0, 1) := by decide +kernel
theorem dX0_turns_1 : decode cX0_turns 1 = .ok (.getfield 18, 3) := by decide +kernel
theorem dX0_turns_4 : decode cX0_turns 4 = .ok (.iload_n 1, 1) := by decide +kernel
theorem dX0_turns_5 : decode cX0_turns 5 = .ok (.baload, 1) := by decide +kernel
theorem dX0_turns_6 : decode cX0_turns 6 = .ok (.ifCond .ne 16, 3) := by decide +kernel
theorem dX0_turns_9 : decode cX0_turns 9 = .ok (.aload_n 0, 1) := by decide +kernel
theorem dX0_turns_10 : decode cX0_turns 10 = .ok (.getfield 22, 3) := by decide +kernel
theorem dX0_turns_13 : decode cX0_turns 13 = .ok (.iload_n 1, 1) := by decide +kernel
theorem dX0_turns_14 : decode cX0_turns 14 = .ok (.baload, 1) := by decide +kernel
theorem dX0_turns_15 : decode cX0_turns 15 = .ok (.ifCond .ne 7, 3) := by decide +kernel
theorem dX0_turns_18 : decode cX0_turns 18 = .ok (.iconst 1, 1) := by decide +kernel
theorem dX0_turns_19 : decode cX0_turns 19 = .ok (.goto 4, 3) := by decide +kernel
theorem dX0_turns_22 : decode cX0_turns 22 = .ok (.iconst 0, 1) := by decide +kernel
theorem dX0_turns_23 : decode cX0_turns 23 = .ok (.ireturn, 1) := by decide +kernel
set_option maxRecDepth 20000 in
theorem ggX0_powerOf_X0_turns : GoodIn wsX0_powerOf wsX0_turns := goodIn_r _ [5, 6, 7, 37, 38, 39, 40, 41, 42, 43] (by decide +kernel) (by decide +kernel)
set_option maxRecDepth 20000 in
theorem gX0_powerOf_X0_turns : GoodIn wsX0_powerOf (wsV RX0 51 RX0 yX0_turns wsX0_turns) := goodIn_app (goodIn_of _ (by decide +kernel)) ggX0_powerOf_X0_turns
set_option maxRecDepth 20000 in
theorem ggX0_powerOf_X0_windLeft : GoodIn wsX0_powerOf wsX0_windLeft := goodIn_r _ [11, 12, 13, 14, 15, 4, 16, 17, 18, 19, 20, 21, 22, 23, 1, 2, 3, 5, 6, 7, 24, 25, 26, 37, 38, 39, 40, 41, 42, 43] (by decide +kernel) (by decide +kernel)
set_option maxRecDepth 20000 in
theorem gX0_powerOf_X0_windLeft : GoodIn wsX0_powerOf (wsV RX0 61 RX0 yX0_windLeft wsX0_windLeft) := goodIn_app (goodIn_of _ (by decide +kernel)) ggX0_powerOf_X0_windLeft
set_option maxRecDepth 20000 in
theorem ggX0_powerOf_X0_powerOfWind : GoodIn wsX0_powerOf wsX0_powerOfWind := goodIn_r _ [29, 30, 31, 32, 33, 34, 35, 36] (by decide +kernel) (by decide +kernel)
set_option maxRecDepth 20000 in
theorem gX0_powerOf_X0_powerOfWind : GoodIn wsX0_powerOf (va_wsS RX0 57 yX0_powerOfWind wsX0_powerOfWind) := goodIn_app (goodIn_of _ (by decide +kernel)) ggX0_powerOf_X0_powerOfWind
theorem dX0_powerOf_0 : decode cX0_powerOf 0 = .ok (.aload_n 0, 1) := by decide +kernel
theorem dX0_powerOf_1 : decode cX0_powerOf 1 = .ok (.iload_n 1, 1) := by decide +kernel
theorem dX0_powerOf_2 : decode cX0_powerOf 2 = .ok (.invokevirtual 51, 3) := by decide +kernel
theorem dX0_powerOf_5 : decode cX0_powerOf 5 = .ok (.ifCond .eq 16, 3) := by decide +kernel
theorem dX0_powerOf_8 : decode cX0_powerOf 8 = .ok (.aload_n 0, 1) := by decide +kernel
theorem dX0_powerOf_9 : decode cX0_powerOf 9 = .ok (.iload_n 1, 1) := by decide +kernel
theorem dX0_powerOf_10 : decode cX0_powerOf 10 = .ok (.iload_n 2, 1) := by decide +kernel
theorem dX0_powerOf_11 : decode cX0_powerOf 11 = .ok (.iload_n 3, 1) := by decide +kernel
theorem dX0_powerOf_12 : decode cX0_powerOf 12 = .ok (.invokevirtual 61, 3) := by decide +kernel
theorem dX0_powerOf_15 : decode cX0_powerOf 15 = .ok (.invokestatic 57, 3) := by decide +kernel
theorem dX0_powerOf_18 : decode cX0_powerOf 18 = .ok (.goto 4, 3) := by decide +kernel
theorem dX0_powerOf_21 : decode cX0_powerOf 21 = .ok (.iconst 0, 1) := by decide +kernel
theorem dX0_powerOf_22 : decode cX0_powerOf 22 = .ok (.ireturn, 1) := by decide +kernel
set_option maxRecDepth 20000 in
theorem ggX0_windLeft_X0_distancesAhead : GoodIn wsX0_windLeft wsX0_distancesAhead := goodIn_r _ [6, 7, 1, 8, 9, 5, 10, 11, 12, 13, 14, 15, 16, 17, 18, 19, 23, 24, 25, 26, 27, 28, 29] (by decide +kernel) (by decide +kernel)
set_option maxRecDepth 20000 in
theorem gX0_windLeft_X0_distancesAhead : GoodIn wsX0_windLeft (wsV RX0 64 RX0 yX0_distancesAhead wsX0_distancesAhead) := goodIn_app (goodIn_of _ (by decide +kernel)) ggX0_windLeft_X0_distancesAhead
set_option maxRecDepth 20000 in
theorem ggX0_windLeft_X0_takenByWake : GoodIn wsX0_windLeft wsX0_takenByWake := goodIn_r _ [22] (by decide +kernel) (by decide +kernel)
set_option maxRecDepth 20000 in
theorem gX0_windLeft_X0_takenByWake : GoodIn wsX0_windLeft (va_wsS RX0 68 yX0_takenByWake wsX0_takenByWake) := goodIn_app (goodIn_of _ (by decide +kernel)) ggX0_windLeft_X0_takenByWake
theorem dX0_windLeft_0 : decode cX0_windLeft 0 = .ok (.aload_n 0, 1) := by decide +kernel
theorem dX0_windLeft_1 : decode cX0_windLeft 1 = .ok (.aload_n 0, 1) := by decide +kernel
theorem dX0_windLeft_2 : decode cX0_windLeft 2 = .ok (.getfield 15, 3) := by decide +kernel
theorem dX0_windLeft_5 : decode cX0_windLeft 5 = .ok (.iload_n 1, 1) := by decide +kernel
theorem dX0_windLeft_6 : decode cX0_windLeft 6 = .ok (.iaload, 1) := by decide +kernel
theorem dX0_windLeft_7 : decode cX0_windLeft 7 = .ok (.iload_n 3, 1) := by decide +kernel
theorem dX0_windLeft_8 : decode cX0_windLeft 8 = .ok (.invokevirtual 64, 3) := by decide +kernel
theorem dX0_windLeft_11 : decode cX0_windLeft 11 = .ok (.istore 4, 2) := by decide +kernel
theorem dX0_windLeft_13 : decode cX0_windLeft 13 = .ok (.iload_n 2, 1) := by decide +kernel
theorem dX0_windLeft_14 : decode cX0_windLeft 14 = .ok (.istore 5, 2) := by decide +kernel
theorem dX0_windLeft_16 : decode cX0_windLeft 16 = .ok (.iconst 1, 1) := by decide +kernel
theorem dX0_windLeft_17 : decode cX0_windLeft 17 = .ok (.istore 6, 2) := by decide +kernel
theorem dX0_windLeft_19 : decode cX0_windLeft 19 = .ok (.iload 6, 2) := by decide +kernel
theorem dX0_windLeft_21 : decode cX0_windLeft 21 = .ok (.bipush 6, 2) := by decide +kernel
theorem dX0_windLeft_23 : decode cX0_windLeft 23 = .ok (.if_icmp .ge 31, 3) := by decide +kernel
theorem dX0_windLeft_26 : decode cX0_windLeft 26 = .ok (.iload 4, 2) := by decide +kernel
theorem dX0_windLeft_28 : decode cX0_windLeft 28 = .ok (.iconst 1, 1) := by decide +kernel
theorem dX0_windLeft_29 : decode cX0_windLeft 29 = .ok (.iload 6, 2) := by decide +kernel
theorem dX0_windLeft_31 : decode cX0_windLeft 31 = .ok (.ishl, 1) := by decide +kernel
theorem dX0_windLeft_32 : decode cX0_windLeft 32 = .ok (.iand, 1) := by decide +kernel
theorem dX0_windLeft_33 : decode cX0_windLeft 33 = .ok (.ifCond .eq 15, 3) := by decide +kernel
theorem dX0_windLeft_36 : decode cX0_windLeft 36 = .ok (.iload 5, 2) := by decide +kernel
theorem dX0_windLeft_38 : decode cX0_windLeft 38 = .ok (.iload 5, 2) := by decide +kernel
theorem dX0_windLeft_40 : decode cX0_windLeft 40 = .ok (.iload 6, 2) := by decide +kernel
theorem dX0_windLeft_42 : decode cX0_windLeft 42 = .ok (.invokestatic 68, 3) := by decide +kernel
theorem dX0_windLeft_45 : decode cX0_windLeft 45 = .ok (.isub, 1) := by decide +kernel
theorem dX0_windLeft_46 : decode cX0_windLeft 46 = .ok (.istore 5, 2) := by decide +kernel
theorem dX0_windLeft_48 : decode cX0_windLeft 48 = .ok (.iinc 6 1, 3) := by decide +kernel
theorem dX0_windLeft_51 : decode cX0_windLeft 51 = .ok (.goto (-32), 3) := by decide +kernel
theorem dX0_windLeft_54 : decode cX0_windLeft 54 = .ok (.iload 5, 2) := by decide +kernel
theorem dX0_windLeft_56 : decode cX0_windLeft 56 = .ok (.ireturn, 1) := by decide +kernel
set_option maxRecDepth 20000 in
theorem ggX0_distancesAhead_X0_placesAhead : GoodIn wsX0_distancesAhead wsX0_placesAhead := goodIn_r _ [6] (by decide +kernel) (by decide +kernel)
set_option maxRecDepth 20000 in
theorem gX0_distancesAhead_X0_placesAhead : GoodIn wsX0_distancesAhead (va_wsS RX0 72 yX0_placesAhead wsX0_placesAhead) := goodIn_app (goodIn_of _ (by decide +kernel)) ggX0_distancesAhead_X0_placesAhead
set_option maxRecDepth 20000 in
theorem ggX0_distancesAhead_X0_lane : GoodIn wsX0_distancesAhead wsX0_lane := goodIn_r _ [9] (by decide +kernel) (by decide +kernel)
set_option maxRecDepth 20000 in
theorem gX0_distancesAhead_X0_lane : GoodIn wsX0_distancesAhead (va_wsS RX0 75 yX0_lane wsX0_lane) := goodIn_app (goodIn_of _ (by decide +kernel)) ggX0_distancesAhead_X0_lane
set_option maxRecDepth 20000 in
theorem ggX0_distancesAhead_X0_turns : GoodIn wsX0_distancesAhead wsX0_turns := goodIn_r _ [13, 14, 15, 16, 17, 18, 19, 20, 21, 22] (by decide +kernel) (by decide +kernel)
set_option maxRecDepth 20000 in
theorem gX0_distancesAhead_X0_turns : GoodIn wsX0_distancesAhead (wsV RX0 51 RX0 yX0_turns wsX0_turns) := goodIn_app (goodIn_of _ (by decide +kernel)) ggX0_distancesAhead_X0_turns
theorem dX0_distancesAhead_0 : decode cX0_distancesAhead 0 = .ok (.iconst 0, 1) := by decide +kernel
theorem dX0_distancesAhead_1 : decode cX0_distancesAhead 1 = .ok (.istore_n 3, 1) := by decide +kernel
theorem dX0_distancesAhead_2 : decode cX0_distancesAhead 2 = .ok (.iconst 0, 1) := by decide +kernel
theorem dX0_distancesAhead_3 : decode cX0_distancesAhead 3 = .ok (.istore 4, 2) := by decide +kernel
theorem dX0_distancesAhead_5 : decode cX0_distancesAhead 5 = .ok (.iload 4, 2) := by decide +kernel
theorem dX0_distancesAhead_7 : decode cX0_distancesAhead 7 = .ok (.aload_n 0, 1) := by decide +kernel
theorem dX0_distancesAhead_8 : decode cX0_distancesAhead 8 = .ok (.getfield 28, 3) := by decide +kernel
theorem dX0_distancesAhead_11 : decode cX0_distancesAhead 11 = .ok (.if_icmp .ge 68, 3) := by decide +kernel
theorem dX0_distancesAhead_14 : decode cX0_distancesAhead 14 = .ok (.iload_n 1, 1) := by decide +kernel
theorem dX0_distancesAhead_15 : decode cX0_distancesAhead 15 = .ok (.iload_n 2, 1) := by decide +kernel
theorem dX0_distancesAhead_16 : decode cX0_distancesAhead 16 = .ok (.invokestatic 72, 3) := by decide +kernel
theorem dX0_distancesAhead_19 : decode cX0_distancesAhead 19 = .ok (.aload_n 0, 1) := by decide +kernel
theorem dX0_distancesAhead_20 : decode cX0_distancesAhead 20 = .ok (.getfield 15, 3) := by decide +kernel
theorem dX0_distancesAhead_23 : decode cX0_distancesAhead 23 = .ok (.iload 4, 2) := by decide +kernel
theorem dX0_distancesAhead_25 : decode cX0_distancesAhead 25 = .ok (.iaload, 1) := by decide +kernel
theorem dX0_distancesAhead_26 : decode cX0_distancesAhead 26 = .ok (.iload_n 2, 1) := by decide +kernel
theorem dX0_distancesAhead_27 : decode cX0_distancesAhead 27 = .ok (.invokestatic 72, 3) := by decide +kernel
theorem dX0_distancesAhead_30 : decode cX0_distancesAhead 30 = .ok (.isub, 1) := by decide +kernel
theorem dX0_distancesAhead_31 : decode cX0_distancesAhead 31 = .ok (.istore 5, 2) := by decide +kernel
theorem dX0_distancesAhead_33 : decode cX0_distancesAhead 33 = .ok (.iload 5, 2) := by decide +kernel
theorem dX0_distancesAhead_35 : decode cX0_distancesAhead 35 = .ok (.ifCond .le 38, 3) := by decide +kernel
theorem dX0_distancesAhead_38 : decode cX0_distancesAhead 38 = .ok (.aload_n 0, 1) := by decide +kernel
theorem dX0_distancesAhead_39 : decode cX0_distancesAhead 39 = .ok (.getfield 15, 3) := by decide +kernel
theorem dX0_distancesAhead_42 : decode cX0_distancesAhead 42 = .ok (.iload 4, 2) := by decide +kernel
theorem dX0_distancesAhead_44 : decode cX0_distancesAhead 44 = .ok (.iaload, 1) := by decide +kernel
theorem dX0_distancesAhead_45 : decode cX0_distancesAhead 45 = .ok (.iload_n 2, 1) := by decide +kernel
theorem dX0_distancesAhead_46 : decode cX0_distancesAhead 46 = .ok (.invokestatic 75, 3) := by decide +kernel
theorem dX0_distancesAhead_49 : decode cX0_distancesAhead 49 = .ok (.iload_n 1, 1) := by decide +kernel
theorem dX0_distancesAhead_50 : decode cX0_distancesAhead 50 = .ok (.iload_n 2, 1) := by decide +kernel
theorem dX0_distancesAhead_51 : decode cX0_distancesAhead 51 = .ok (.invokestatic 75, 3) := by decide +kernel
theorem dX0_distancesAhead_54 : decode cX0_distancesAhead 54 = .ok (.if_icmp .ne 19, 3) := by decide +kernel
theorem dX0_distancesAhead_57 : decode cX0_distancesAhead 57 = .ok (.aload_n 0, 1) := by decide +kernel
theorem dX0_distancesAhead_58 : decode cX0_distancesAhead 58 = .ok (.iload 4, 2) := by decide +kernel
theorem dX0_distancesAhead_60 : decode cX0_distancesAhead 60 = .ok (.invokevirtual 51, 3) := by decide +kernel
theorem dX0_distancesAhead_63 : decode cX0_distancesAhead 63 = .ok (.ifCond .eq 10, 3) := by decide +kernel
theorem dX0_distancesAhead_66 : decode cX0_distancesAhead 66 = .ok (.iload_n 3, 1) := by decide +kernel
theorem dX0_distancesAhead_67 : decode cX0_distancesAhead 67 = .ok (.iconst 1, 1) := by decide +kernel
theorem dX0_distancesAhead_68 : decode cX0_distancesAhead 68 = .ok (.iload 5, 2) := by decide +kernel
theorem dX0_distancesAhead_70 : decode cX0_distancesAhead 70 = .ok (.ishl, 1) := by decide +kernel
theorem dX0_distancesAhead_71 : decode cX0_distancesAhead 71 = .ok (.ior, 1) := by decide +kernel
theorem dX0_distancesAhead_72 : decode cX0_distancesAhead 72 = .ok (.istore_n 3, 1) := by decide +kernel
theorem dX0_distancesAhead_73 : decode cX0_distancesAhead 73 = .ok (.iinc 4 1, 3) := by decide +kernel
theorem dX0_distancesAhead_76 : decode cX0_distancesAhead 76 = .ok (.goto (-71), 3) := by decide +kernel
theorem dX0_distancesAhead_79 : decode cX0_distancesAhead 79 = .ok (.iload_n 3, 1) := by decide +kernel
theorem dX0_distancesAhead_80 : decode cX0_distancesAhead 80 = .ok (.ireturn, 1) := by decide +kernel
set_option maxRecDepth 20000 in
theorem ggX0_windLeftAnew_X0_placesAhead : GoodIn wsX0_windLeftAnew wsX0_placesAhead := goodIn_r _ [5] (by decide +kernel) (by decide +kernel)
set_option maxRecDepth 20000 in
theorem gX0_windLeftAnew_X0_placesAhead : GoodIn wsX0_windLeftAnew (va_wsS RX0 72 yX0_placesAhead wsX0_placesAhead) := goodIn_app (goodIn_of _ (by decide +kernel)) ggX0_windLeftAnew_X0_placesAhead
set_option maxRecDepth 20000 in
theorem ggX0_windLeftAnew_X0_has : GoodIn wsX0_windLeftAnew wsX0_has := goodIn_r _ [9, 10, 11, 12, 13, 23, 24, 25, 26, 27, 28, 29] (by decide +kernel) (by decide +kernel)
set_option maxRecDepth 20000 in
theorem gX0_windLeftAnew_X0_has : GoodIn wsX0_windLeftAnew (wsV RX0 43 RX0 yX0_has wsX0_has) := goodIn_app (goodIn_of _ (by decide +kernel)) ggX0_windLeftAnew_X0_has
set_option maxRecDepth 20000 in
theorem ggX0_windLeftAnew_X0_turns : GoodIn wsX0_windLeftAnew wsX0_turns := goodIn_r _ [17, 18, 19, 23, 24, 25, 26, 27, 28, 29] (by decide +kernel) (by decide +kernel)
set_option maxRecDepth 20000 in
theorem gX0_windLeftAnew_X0_turns : GoodIn wsX0_windLeftAnew (wsV RX0 51 RX0 yX0_turns wsX0_turns) := goodIn_app (goodIn_of _ (by decide +kernel)) ggX0_windLeftAnew_X0_turns
set_option maxRecDepth 20000 in
theorem ggX0_windLeftAnew_X0_takenByWake : GoodIn wsX0_windLeftAnew wsX0_takenByWake := goodIn_r _ [22] (by decide +kernel) (by decide +kernel)
set_option maxRecDepth 20000 in
theorem gX0_windLeftAnew_X0_takenByWake : GoodIn wsX0_windLeftAnew (va_wsS RX0 68 yX0_takenByWake wsX0_takenByWake) := goodIn_app (goodIn_of _ (by decide +kernel)) ggX0_windLeftAnew_X0_takenByWake
theorem dX0_windLeftAnew_0 : decode cX0_windLeftAnew 0 = .ok (.iload_n 3, 1) := by decide +kernel
theorem dX0_windLeftAnew_1 : decode cX0_windLeftAnew 1 = .ok (.ifCond .eq 7, 3) := by decide +kernel
theorem dX0_windLeftAnew_4 : decode cX0_windLeftAnew 4 = .ok (.iconst 1, 1) := by decide +kernel
theorem dX0_windLeftAnew_5 : decode cX0_windLeftAnew 5 = .ok (.goto 5, 3) := by decide +kernel
theorem dX0_windLeftAnew_8 : decode cX0_windLeftAnew 8 = .ok (.bipush 6, 2) := by decide +kernel
theorem dX0_windLeftAnew_10 : decode cX0_windLeftAnew 10 = .ok (.istore 4, 2) := by decide +kernel
theorem dX0_windLeftAnew_12 : decode cX0_windLeftAnew 12 = .ok (.iload_n 1, 1) := by decide +kernel
theorem dX0_windLeftAnew_13 : decode cX0_windLeftAnew 13 = .ok (.iload_n 3, 1) := by decide +kernel
theorem dX0_windLeftAnew_14 : decode cX0_windLeftAnew 14 = .ok (.invokestatic 72, 3) := by decide +kernel
theorem dX0_windLeftAnew_17 : decode cX0_windLeftAnew 17 = .ok (.istore 5, 2) := by decide +kernel
theorem dX0_windLeftAnew_19 : decode cX0_windLeftAnew 19 = .ok (.iload_n 2, 1) := by decide +kernel
theorem dX0_windLeftAnew_20 : decode cX0_windLeftAnew 20 = .ok (.istore 6, 2) := by decide +kernel
theorem dX0_windLeftAnew_22 : decode cX0_windLeftAnew 22 = .ok (.iconst 1, 1) := by decide +kernel
theorem dX0_windLeftAnew_23 : decode cX0_windLeftAnew 23 = .ok (.istore 7, 2) := by decide +kernel
theorem dX0_windLeftAnew_25 : decode cX0_windLeftAnew 25 = .ok (.iload 7, 2) := by decide +kernel
theorem dX0_windLeftAnew_27 : decode cX0_windLeftAnew 27 = .ok (.iload 5, 2) := by decide +kernel
theorem dX0_windLeftAnew_29 : decode cX0_windLeftAnew 29 = .ok (.if_icmp .gt 53, 3) := by decide +kernel
theorem dX0_windLeftAnew_32 : decode cX0_windLeftAnew 32 = .ok (.aload_n 0, 1) := by decide +kernel
theorem dX0_windLeftAnew_33 : decode cX0_windLeftAnew 33 = .ok (.getfield 9, 3) := by decide +kernel
theorem dX0_windLeftAnew_36 : decode cX0_windLeftAnew 36 = .ok (.iload_n 1, 1) := by decide +kernel
theorem dX0_windLeftAnew_37 : decode cX0_windLeftAnew 37 = .ok (.iload 7, 2) := by decide +kernel
theorem dX0_windLeftAnew_39 : decode cX0_windLeftAnew 39 = .ok (.iload 4, 2) := by decide +kernel
theorem dX0_windLeftAnew_41 : decode cX0_windLeftAnew 41 = .ok (.imul, 1) := by decide +kernel
theorem dX0_windLeftAnew_42 : decode cX0_windLeftAnew 42 = .ok (.isub, 1) := by decide +kernel
theorem dX0_windLeftAnew_43 : decode cX0_windLeftAnew 43 = .ok (.iaload, 1) := by decide +kernel
theorem dX0_windLeftAnew_44 : decode cX0_windLeftAnew 44 = .ok (.istore 8, 2) := by decide +kernel
theorem dX0_windLeftAnew_46 : decode cX0_windLeftAnew 46 = .ok (.aload_n 0, 1) := by decide +kernel
theorem dX0_windLeftAnew_47 : decode cX0_windLeftAnew 47 = .ok (.iload 8, 2) := by decide +kernel
theorem dX0_windLeftAnew_49 : decode cX0_windLeftAnew 49 = .ok (.invokevirtual 43, 3) := by decide +kernel
theorem dX0_windLeftAnew_52 : decode cX0_windLeftAnew 52 = .ok (.ifCond .eq 24, 3) := by decide +kernel
theorem dX0_windLeftAnew_55 : decode cX0_windLeftAnew 55 = .ok (.aload_n 0, 1) := by decide +kernel
theorem dX0_windLeftAnew_56 : decode cX0_windLeftAnew 56 = .ok (.iload 8, 2) := by decide +kernel
theorem dX0_windLeftAnew_58 : decode cX0_windLeftAnew 58 = .ok (.invokevirtual 51, 3) := by decide +kernel
theorem dX0_windLeftAnew_61 : decode cX0_windLeftAnew 61 = .ok (.ifCond .eq 15, 3) := by decide +kernel
theorem dX0_windLeftAnew_64 : decode cX0_windLeftAnew 64 = .ok (.iload 6, 2) := by decide +kernel
theorem dX0_windLeftAnew_66 : decode cX0_windLeftAnew 66 = .ok (.iload 6, 2) := by decide +kernel
theorem dX0_windLeftAnew_68 : decode cX0_windLeftAnew 68 = .ok (.iload 7, 2) := by decide +kernel
theorem dX0_windLeftAnew_70 : decode cX0_windLeftAnew 70 = .ok (.invokestatic 68, 3) := by decide +kernel
theorem dX0_windLeftAnew_73 : decode cX0_windLeftAnew 73 = .ok (.isub, 1) := by decide +kernel
theorem dX0_windLeftAnew_74 : decode cX0_windLeftAnew 74 = .ok (.istore 6, 2) := by decide +kernel
theorem dX0_windLeftAnew_76 : decode cX0_windLeftAnew 76 = .ok (.iinc 7 1, 3) := by decide +kernel
theorem dX0_windLeftAnew_79 : decode cX0_windLeftAnew 79 = .ok (.goto (-54), 3) := by decide +kernel
theorem dX0_windLeftAnew_82 : decode cX0_windLeftAnew 82 = .ok (.iload 6, 2) := by decide +kernel
theorem dX0_windLeftAnew_84 : decode cX0_windLeftAnew 84 = .ok (.ireturn, 1) := by decide +kernel
theorem dX0_lane_0 : decode cX0_lane 0 = .ok (.iload_n 1, 1) := by decide +kernel
theorem dX0_lane_1 : decode cX0_lane 1 = .ok (.ifCond .eq 10, 3) := by decide +kernel
theorem dX0_lane_4 : decode cX0_lane 4 = .ok (.iload_n 0, 1) := by decide +kernel
theorem dX0_lane_5 : decode cX0_lane 5 = .ok (.bipush 6, 2) := by decide +kernel
theorem dX0_lane_7 : decode cX0_lane 7 = .ok (.idiv, 1) := by decide +kernel
theorem dX0_lane_8 : decode cX0_lane 8 = .ok (.goto 7, 3) := by decide +kernel
theorem dX0_lane_11 : decode cX0_lane 11 = .ok (.iload_n 0, 1) := by decide +kernel
theorem dX0_lane_12 : decode cX0_lane 12 = .ok (.bipush 6, 2) := by decide +kernel
theorem dX0_lane_14 : decode cX0_lane 14 = .ok (.irem, 1) := by decide +kernel
theorem dX0_lane_15 : decode cX0_lane 15 = .ok (.ireturn, 1) := by decide +kernel
theorem dX0_placesAhead_0 : decode cX0_placesAhead 0 = .ok (.iload_n 1, 1) := by decide +kernel
theorem dX0_placesAhead_1 : decode cX0_placesAhead 1 = .ok (.ifCond .eq 10, 3) := by decide +kernel
theorem dX0_placesAhead_4 : decode cX0_placesAhead 4 = .ok (.iload_n 0, 1) := by decide +kernel
theorem dX0_placesAhead_5 : decode cX0_placesAhead 5 = .ok (.bipush 6, 2) := by decide +kernel
theorem dX0_placesAhead_7 : decode cX0_placesAhead 7 = .ok (.irem, 1) := by decide +kernel
theorem dX0_placesAhead_8 : decode cX0_placesAhead 8 = .ok (.goto 7, 3) := by decide +kernel
theorem dX0_placesAhead_11 : decode cX0_placesAhead 11 = .ok (.iload_n 0, 1) := by decide +kernel
theorem dX0_placesAhead_12 : decode cX0_placesAhead 12 = .ok (.bipush 6, 2) := by decide +kernel
theorem dX0_placesAhead_14 : decode cX0_placesAhead 14 = .ok (.idiv, 1) := by decide +kernel
theorem dX0_placesAhead_15 : decode cX0_placesAhead 15 = .ok (.ireturn, 1) := by decide +kernel
theorem dX0_takenByWake_0 : decode cX0_takenByWake 0 = .ok (.bipush 10, 2) := by decide +kernel
theorem dX0_takenByWake_2 : decode cX0_takenByWake 2 = .ok (.istore_n 2, 1) := by decide +kernel
theorem dX0_takenByWake_3 : decode cX0_takenByWake 3 = .ok (.iload_n 1, 1) := by decide +kernel
theorem dX0_takenByWake_4 : decode cX0_takenByWake 4 = .ok (.iconst 1, 1) := by decide +kernel
theorem dX0_takenByWake_5 : decode cX0_takenByWake 5 = .ok (.if_icmp .ne 9, 3) := by decide +kernel
theorem dX0_takenByWake_8 : decode cX0_takenByWake 8 = .ok (.bipush 30, 2) := by decide +kernel
theorem dX0_takenByWake_10 : decode cX0_takenByWake 10 = .ok (.istore_n 2, 1) := by decide +kernel
theorem dX0_takenByWake_11 : decode cX0_takenByWake 11 = .ok (.goto 11, 3) := by decide +kernel
theorem dX0_takenByWake_14 : decode cX0_takenByWake 14 = .ok (.iload_n 1, 1) := by decide +kernel
theorem dX0_takenByWake_15 : decode cX0_takenByWake 15 = .ok (.iconst 2, 1) := by decide +kernel
theorem dX0_takenByWake_16 : decode cX0_takenByWake 16 = .ok (.if_icmp .ne 6, 3) := by decide +kernel
theorem dX0_takenByWake_19 : decode cX0_takenByWake 19 = .ok (.bipush 20, 2) := by decide +kernel
theorem dX0_takenByWake_21 : decode cX0_takenByWake 21 = .ok (.istore_n 2, 1) := by decide +kernel
theorem dX0_takenByWake_22 : decode cX0_takenByWake 22 = .ok (.iload_n 0, 1) := by decide +kernel
theorem dX0_takenByWake_23 : decode cX0_takenByWake 23 = .ok (.iload_n 2, 1) := by decide +kernel
theorem dX0_takenByWake_24 : decode cX0_takenByWake 24 = .ok (.imul, 1) := by decide +kernel
theorem dX0_takenByWake_25 : decode cX0_takenByWake 25 = .ok (.bipush 100, 2) := by decide +kernel
theorem dX0_takenByWake_27 : decode cX0_takenByWake 27 = .ok (.idiv, 1) := by decide +kernel
theorem dX0_takenByWake_28 : decode cX0_takenByWake 28 = .ok (.ireturn, 1) := by decide +kernel
set_option maxRecDepth 20000 in
theorem ggX0_powerOfWind_X4_isWithin : GoodIn wsX0_powerOfWind wsX4_isWithin := goodIn_r _ [7] (by decide +kernel) (by decide +kernel)
set_option maxRecDepth 20000 in
theorem gX0_powerOfWind_X4_isWithin_n32 : GoodIn wsX0_powerOfWind (wsX4_isWithin) := ggX0_powerOfWind_X4_isWithin
theorem dX0_powerOfWind_0 : decode cX0_powerOfWind 0 = .ok (.iload_n 0, 1) := by decide +kernel
theorem dX0_powerOfWind_1 : decode cX0_powerOfWind 1 = .ok (.iconst 4, 1) := by decide +kernel
theorem dX0_powerOfWind_2 : decode cX0_powerOfWind 2 = .ok (.bipush 25, 2) := by decide +kernel
theorem dX0_powerOfWind_4 : decode cX0_powerOfWind 4 = .ok (.invokestatic 32, 3) := by decide +kernel
theorem dX0_powerOfWind_7 : decode cX0_powerOfWind 7 = .ok (.ifCond .ne 5, 3) := by decide +kernel
theorem dX0_powerOfWind_10 : decode cX0_powerOfWind 10 = .ok (.iconst 0, 1) := by decide +kernel
theorem dX0_powerOfWind_11 : decode cX0_powerOfWind 11 = .ok (.ireturn, 1) := by decide +kernel
theorem dX0_powerOfWind_12 : decode cX0_powerOfWind 12 = .ok (.iload_n 0, 1) := by decide +kernel
theorem dX0_powerOfWind_13 : decode cX0_powerOfWind 13 = .ok (.iload_n 0, 1) := by decide +kernel
theorem dX0_powerOfWind_14 : decode cX0_powerOfWind 14 = .ok (.imul, 1) := by decide +kernel
theorem dX0_powerOfWind_15 : decode cX0_powerOfWind 15 = .ok (.iload_n 0, 1) := by decide +kernel
theorem dX0_powerOfWind_16 : decode cX0_powerOfWind 16 = .ok (.imul, 1) := by decide +kernel
theorem dX0_powerOfWind_17 : decode cX0_powerOfWind 17 = .ok (.sipush 2000, 3) := by decide +kernel
theorem dX0_powerOfWind_20 : decode cX0_powerOfWind 20 = .ok (.invokestatic 78, 3) := by decide +kernel
theorem dX0_powerOfWind_23 : decode cX0_powerOfWind 23 = .ok (.ireturn, 1) := by decide +kernel
