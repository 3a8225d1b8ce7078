/-! printed: names, fields, word lists, decode rows (out of claim/NAMES.whole.lean.txt) -/
theorem dX4_init_0 : decode cX4_init 0 = .ok (.aload_n 0, 1) := by decide +kernel
theorem dX4_init_1 : decode cX4_init 1 = .ok (.invokespecial 3, 3) := by decide +kernel
theorem dX4_init_4 : decode cX4_init 4 = .ok (.aload_n 0, 1) := by decide +kernel
theorem dX4_init_5 : decode cX4_init 5 = .ok (.new 9, 3) := by decide +kernel
theorem dX4_init_8 : decode cX4_init 8 = .ok (.dup, 1) := by decide +kernel
theorem dX4_init_9 : decode cX4_init 9 = .ok (.invokespecial 11, 3) := by decide +kernel
theorem dX4_init_12 : decode cX4_init 12 = .ok (.putfield 12, 3) := by decide +kernel
theorem dX4_init_15 : decode cX4_init 15 = .ok (.aload_n 0, 1) := by decide +kernel
theorem dX4_init_16 : decode cX4_init 16 = .ok (.new 16, 3) := by decide +kernel
theorem dX4_init_19 : decode cX4_init 19 = .ok (.dup, 1) := by decide +kernel
theorem dX4_init_20 : decode cX4_init 20 = .ok (.invokespecial 18, 3) := by decide +kernel
theorem dX4_init_23 : decode cX4_init 23 = .ok (.putfield 19, 3) := by decide +kernel
theorem dX4_init_26 : decode cX4_init 26 = .ok (.aload_n 0, 1) := by decide +kernel
theorem dX4_init_27 : decode cX4_init 27 = .ok (.new 23, 3) := by decide +kernel
theorem dX4_init_30 : decode cX4_init 30 = .ok (.dup, 1) := by decide +kernel
theorem dX4_init_31 : decode cX4_init 31 = .ok (.invokespecial 25, 3) := by decide +kernel
theorem dX4_init_34 : decode cX4_init 34 = .ok (.putfield 26, 3) := by decide +kernel
theorem dX4_init_37 : decode cX4_init 37 = .ok (.aload_n 0, 1) := by decide +kernel
theorem dX4_init_38 : decode cX4_init 38 = .ok (.new 30, 3) := by decide +kernel
theorem dX4_init_41 : decode cX4_init 41 = .ok (.dup, 1) := by decide +kernel
theorem dX4_init_42 : decode cX4_init 42 = .ok (.invokespecial 32, 3) := by decide +kernel
theorem dX4_init_45 : decode cX4_init 45 = .ok (.putfield 33, 3) := by decide +kernel
theorem dX4_init_48 : decode cX4_init 48 = .ok (.aload_n 0, 1) := by decide +kernel
theorem dX4_init_49 : decode cX4_init 49 = .ok (.iconst 0, 1) := by decide +kernel
theorem dX4_init_50 : decode cX4_init 50 = .ok (.putfield 37, 3) := by decide +kernel
theorem dX4_init_53 : decode cX4_init 53 = .ok (.return_, 1) := by decide +kernel
set_option maxRecDepth 20000 in
theorem ggX4_turbine_X4_isWithin : GoodIn wsX4_turbine wsX4_isWithin := goodIn_r _ [9] (by decide +kernel) (by decide +kernel)
set_option maxRecDepth 20000 in
theorem gX4_turbine_X4_isWithin : GoodIn wsX4_turbine (va_wsS RX4 41 yX4_isWithin wsX4_isWithin) := goodIn_app (goodIn_of _ (by decide +kernel)) ggX4_turbine_X4_isWithin
set_option maxRecDepth 20000 in
theorem ggX4_turbine_X0_hasRoomAt : GoodIn wsX4_turbine wsX0_hasRoomAt := goodIn_r _ [14, 15, 16, 27, 28, 29, 30, 31, 32, 33] (by decide +kernel) (by decide +kernel)
set_option maxRecDepth 20000 in
theorem gX4_turbine_X0_hasRoomAt : GoodIn wsX4_turbine (wsV RX4 52 RX0 yX0_hasRoomAt wsX0_hasRoomAt) := goodIn_app (goodIn_of _ (by decide +kernel)) ggX4_turbine_X0_hasRoomAt
set_option maxRecDepth 20000 in
theorem ggX4_turbine_X0_build : GoodIn wsX4_turbine wsX0_build := goodIn_r _ [20, 16, 15, 21, 27, 28, 29, 30, 31, 32, 33] (by decide +kernel) (by decide +kernel)
set_option maxRecDepth 20000 in
theorem gX4_turbine_X0_build : GoodIn wsX4_turbine (wsV RX4 61 RX0 yX0_build wsX0_build) := goodIn_app (goodIn_of _ (by decide +kernel)) ggX4_turbine_X0_build
theorem dX4_turbine_0 : decode cX4_turbine 0 = .ok (.iload_n 1, 1) := by decide +kernel
theorem dX4_turbine_1 : decode cX4_turbine 1 = .ok (.iconst 0, 1) := by decide +kernel
theorem dX4_turbine_2 : decode cX4_turbine 2 = .ok (.bipush 23, 2) := by decide +kernel
theorem dX4_turbine_4 : decode cX4_turbine 4 = .ok (.invokestatic 41, 3) := by decide +kernel
theorem dX4_turbine_7 : decode cX4_turbine 7 = .ok (.ifCond .ne 13, 3) := by decide +kernel
theorem dX4_turbine_10 : decode cX4_turbine 10 = .ok (.new 45, 3) := by decide +kernel
theorem dX4_turbine_13 : decode cX4_turbine 13 = .ok (.dup, 1) := by decide +kernel
theorem dX4_turbine_14 : decode cX4_turbine 14 = .ok (.ldc 47, 2) := by decide +kernel
theorem dX4_turbine_16 : decode cX4_turbine 16 = .ok (.invokespecial 49, 3) := by decide +kernel
theorem dX4_turbine_19 : decode cX4_turbine 19 = .ok (.athrow, 1) := by decide +kernel
theorem dX4_turbine_20 : decode cX4_turbine 20 = .ok (.aload_n 0, 1) := by decide +kernel
theorem dX4_turbine_21 : decode cX4_turbine 21 = .ok (.getfield 19, 3) := by decide +kernel
theorem dX4_turbine_24 : decode cX4_turbine 24 = .ok (.iload_n 1, 1) := by decide +kernel
theorem dX4_turbine_25 : decode cX4_turbine 25 = .ok (.invokevirtual 52, 3) := by decide +kernel
theorem dX4_turbine_28 : decode cX4_turbine 28 = .ok (.ifCond .ne 13, 3) := by decide +kernel
theorem dX4_turbine_31 : decode cX4_turbine 31 = .ok (.new 56, 3) := by decide +kernel
theorem dX4_turbine_34 : decode cX4_turbine 34 = .ok (.dup, 1) := by decide +kernel
theorem dX4_turbine_35 : decode cX4_turbine 35 = .ok (.ldc 58, 2) := by decide +kernel
theorem dX4_turbine_37 : decode cX4_turbine 37 = .ok (.invokespecial 60, 3) := by decide +kernel
theorem dX4_turbine_40 : decode cX4_turbine 40 = .ok (.athrow, 1) := by decide +kernel
theorem dX4_turbine_41 : decode cX4_turbine 41 = .ok (.aload_n 0, 1) := by decide +kernel
theorem dX4_turbine_42 : decode cX4_turbine 42 = .ok (.getfield 19, 3) := by decide +kernel
theorem dX4_turbine_45 : decode cX4_turbine 45 = .ok (.iload_n 1, 1) := by decide +kernel
theorem dX4_turbine_46 : decode cX4_turbine 46 = .ok (.invokevirtual 61, 3) := by decide +kernel
theorem dX4_turbine_49 : decode cX4_turbine 49 = .ok (.ireturn, 1) := by decide +kernel
set_option maxRecDepth 20000 in
theorem ggX4_wind_X4_isToCome : GoodIn wsX4_wind wsX4_isToCome := goodIn_r _ [8, 9, 10, 11, 7, 12, 20, 21, 22, 23, 24] (by decide +kernel) (by decide +kernel)
set_option maxRecDepth 20000 in
theorem gX4_wind_X4_isToCome : GoodIn wsX4_wind (wsV RX4 65 RX4 yX4_isToCome wsX4_isToCome) := goodIn_app (goodIn_of _ (by decide +kernel)) ggX4_wind_X4_isToCome
set_option maxRecDepth 20000 in
theorem ggX4_wind_X4_isWithin : GoodIn wsX4_wind wsX4_isWithin := goodIn_r _ [12] (by decide +kernel) (by decide +kernel)
set_option maxRecDepth 20000 in
theorem gX4_wind_X4_isWithin : GoodIn wsX4_wind (va_wsS RX4 41 yX4_isWithin wsX4_isWithin) := goodIn_app (goodIn_of _ (by decide +kernel)) ggX4_wind_X4_isWithin
set_option maxRecDepth 20000 in
theorem ggX4_wind_X3_tellWind : GoodIn wsX4_wind wsX3_tellWind := goodIn_r _ [17, 18, 19, 25, 26, 27] (by decide +kernel) (by decide +kernel)
set_option maxRecDepth 20000 in
theorem gX4_wind_X3_tellWind : GoodIn wsX4_wind (wsV RX4 73 RX3 yX3_tellWind wsX3_tellWind) := goodIn_app (goodIn_of _ (by decide +kernel)) ggX4_wind_X3_tellWind
theorem dX4_wind_0 : decode cX4_wind 0 = .ok (.aload_n 0, 1) := by decide +kernel
theorem dX4_wind_1 : decode cX4_wind 1 = .ok (.iload_n 1, 1) := by decide +kernel
theorem dX4_wind_2 : decode cX4_wind 2 = .ok (.invokevirtual 65, 3) := by decide +kernel
theorem dX4_wind_5 : decode cX4_wind 5 = .ok (.ifCond .eq 24, 3) := by decide +kernel
theorem dX4_wind_8 : decode cX4_wind 8 = .ok (.iload_n 2, 1) := by decide +kernel
theorem dX4_wind_9 : decode cX4_wind 9 = .ok (.iload_n 1, 1) := by decide +kernel
theorem dX4_wind_10 : decode cX4_wind 10 = .ok (.sipush 479, 3) := by decide +kernel
theorem dX4_wind_13 : decode cX4_wind 13 = .ok (.invokestatic 41, 3) := by decide +kernel
theorem dX4_wind_16 : decode cX4_wind 16 = .ok (.ifCond .eq 13, 3) := by decide +kernel
theorem dX4_wind_19 : decode cX4_wind 19 = .ok (.iload_n 3, 1) := by decide +kernel
theorem dX4_wind_20 : decode cX4_wind 20 = .ok (.iconst 0, 1) := by decide +kernel
theorem dX4_wind_21 : decode cX4_wind 21 = .ok (.bipush 40, 2) := by decide +kernel
theorem dX4_wind_23 : decode cX4_wind 23 = .ok (.invokestatic 41, 3) := by decide +kernel
theorem dX4_wind_26 : decode cX4_wind 26 = .ok (.ifCond .ne 13, 3) := by decide +kernel
theorem dX4_wind_29 : decode cX4_wind 29 = .ok (.new 68, 3) := by decide +kernel
theorem dX4_wind_32 : decode cX4_wind 32 = .ok (.dup, 1) := by decide +kernel
theorem dX4_wind_33 : decode cX4_wind 33 = .ok (.ldc 70, 2) := by decide +kernel
theorem dX4_wind_35 : decode cX4_wind 35 = .ok (.invokespecial 72, 3) := by decide +kernel
theorem dX4_wind_38 : decode cX4_wind 38 = .ok (.athrow, 1) := by decide +kernel
theorem dX4_wind_39 : decode cX4_wind 39 = .ok (.aload_n 0, 1) := by decide +kernel
theorem dX4_wind_40 : decode cX4_wind 40 = .ok (.getfield 12, 3) := by decide +kernel
theorem dX4_wind_43 : decode cX4_wind 43 = .ok (.iload_n 1, 1) := by decide +kernel
theorem dX4_wind_44 : decode cX4_wind 44 = .ok (.iload_n 2, 1) := by decide +kernel
theorem dX4_wind_45 : decode cX4_wind 45 = .ok (.iload_n 3, 1) := by decide +kernel
theorem dX4_wind_46 : decode cX4_wind 46 = .ok (.iload 4, 2) := by decide +kernel
theorem dX4_wind_48 : decode cX4_wind 48 = .ok (.invokevirtual 73, 3) := by decide +kernel
theorem dX4_wind_51 : decode cX4_wind 51 = .ok (.iload_n 2, 1) := by decide +kernel
theorem dX4_wind_52 : decode cX4_wind 52 = .ok (.iload_n 1, 1) := by decide +kernel
theorem dX4_wind_53 : decode cX4_wind 53 = .ok (.isub, 1) := by decide +kernel
theorem dX4_wind_54 : decode cX4_wind 54 = .ok (.iconst 1, 1) := by decide +kernel
theorem dX4_wind_55 : decode cX4_wind 55 = .ok (.iadd, 1) := by decide +kernel
theorem dX4_wind_56 : decode cX4_wind 56 = .ok (.ireturn, 1) := by decide +kernel
set_option maxRecDepth 20000 in
theorem ggX4_waves_X4_isToCome : GoodIn wsX4_waves wsX4_isToCome := goodIn_r _ [8, 9, 10, 11, 7, 12, 24, 25, 26, 27, 28] (by decide +kernel) (by decide +kernel)
set_option maxRecDepth 20000 in
theorem gX4_waves_X4_isToCome : GoodIn wsX4_waves (wsV RX4 65 RX4 yX4_isToCome wsX4_isToCome) := goodIn_app (goodIn_of _ (by decide +kernel)) ggX4_waves_X4_isToCome
set_option maxRecDepth 20000 in
theorem ggX4_waves_X4_isWithin : GoodIn wsX4_waves wsX4_isWithin := goodIn_r _ [12] (by decide +kernel) (by decide +kernel)
set_option maxRecDepth 20000 in
theorem gX4_waves_X4_isWithin : GoodIn wsX4_waves (va_wsS RX4 41 yX4_isWithin wsX4_isWithin) := goodIn_app (goodIn_of _ (by decide +kernel)) ggX4_waves_X4_isWithin
set_option maxRecDepth 20000 in
theorem ggX4_waves_X3_wavesIn : GoodIn wsX4_waves wsX3_wavesIn := goodIn_r _ [17, 18, 19, 29, 30, 31] (by decide +kernel) (by decide +kernel)
set_option maxRecDepth 20000 in
theorem gX4_waves_X3_wavesIn : GoodIn wsX4_waves (wsV RX4 79 RX3 yX3_wavesIn wsX3_wavesIn) := goodIn_app (goodIn_of _ (by decide +kernel)) ggX4_waves_X3_wavesIn
set_option maxRecDepth 20000 in
theorem ggX4_waves_X3_tellWaves : GoodIn wsX4_waves wsX3_tellWaves := goodIn_r _ [23, 18, 29, 30, 31] (by decide +kernel) (by decide +kernel)
set_option maxRecDepth 20000 in
theorem gX4_waves_X3_tellWaves : GoodIn wsX4_waves (wsV RX4 82 RX3 yX3_tellWaves wsX3_tellWaves) := goodIn_app (goodIn_of _ (by decide +kernel)) ggX4_waves_X3_tellWaves
theorem dX4_waves_0 : decode cX4_waves 0 = .ok (.aload_n 0, 1) := by decide +kernel
theorem dX4_waves_1 : decode cX4_waves 1 = .ok (.iload_n 1, 1) := by decide +kernel
theorem dX4_waves_2 : decode cX4_waves 2 = .ok (.invokevirtual 65, 3) := by decide +kernel
theorem dX4_waves_5 : decode cX4_waves 5 = .ok (.ifCond .eq 13, 3) := by decide +kernel
theorem dX4_waves_8 : decode cX4_waves 8 = .ok (.iload_n 2, 1) := by decide +kernel
theorem dX4_waves_9 : decode cX4_waves 9 = .ok (.iconst 0, 1) := by decide +kernel
theorem dX4_waves_10 : decode cX4_waves 10 = .ok (.bipush 20, 2) := by decide +kernel
theorem dX4_waves_12 : decode cX4_waves 12 = .ok (.invokestatic 41, 3) := by decide +kernel
theorem dX4_waves_15 : decode cX4_waves 15 = .ok (.ifCond .ne 13, 3) := by decide +kernel
theorem dX4_waves_18 : decode cX4_waves 18 = .ok (.new 68, 3) := by decide +kernel
theorem dX4_waves_21 : decode cX4_waves 21 = .ok (.dup, 1) := by decide +kernel
theorem dX4_waves_22 : decode cX4_waves 22 = .ok (.ldc 77, 2) := by decide +kernel
theorem dX4_waves_24 : decode cX4_waves 24 = .ok (.invokespecial 72, 3) := by decide +kernel
theorem dX4_waves_27 : decode cX4_waves 27 = .ok (.athrow, 1) := by decide +kernel
theorem dX4_waves_28 : decode cX4_waves 28 = .ok (.aload_n 0, 1) := by decide +kernel
theorem dX4_waves_29 : decode cX4_waves 29 = .ok (.getfield 12, 3) := by decide +kernel
theorem dX4_waves_32 : decode cX4_waves 32 = .ok (.iload_n 1, 1) := by decide +kernel
theorem dX4_waves_33 : decode cX4_waves 33 = .ok (.invokevirtual 79, 3) := by decide +kernel
theorem dX4_waves_36 : decode cX4_waves 36 = .ok (.istore_n 3, 1) := by decide +kernel
theorem dX4_waves_37 : decode cX4_waves 37 = .ok (.aload_n 0, 1) := by decide +kernel
theorem dX4_waves_38 : decode cX4_waves 38 = .ok (.getfield 12, 3) := by decide +kernel
theorem dX4_waves_41 : decode cX4_waves 41 = .ok (.iload_n 1, 1) := by decide +kernel
theorem dX4_waves_42 : decode cX4_waves 42 = .ok (.iload_n 2, 1) := by decide +kernel
theorem dX4_waves_43 : decode cX4_waves 43 = .ok (.invokevirtual 82, 3) := by decide +kernel
theorem dX4_waves_46 : decode cX4_waves 46 = .ok (.iload_n 3, 1) := by decide +kernel
theorem dX4_waves_47 : decode cX4_waves 47 = .ok (.ireturn, 1) := by decide +kernel
set_option maxRecDepth 20000 in
theorem ggX4_breaks_X0_has : GoodIn wsX4_breaks wsX0_has := goodIn_r _ [10, 11, 12, 13, 14, 34, 35, 36, 37, 38, 39, 40] (by decide +kernel) (by decide +kernel)
set_option maxRecDepth 20000 in
theorem gX4_breaks_X0_has : GoodIn wsX4_breaks (wsV RX4 86 RX0 yX0_has wsX0_has) := goodIn_app (goodIn_of _ (by decide +kernel)) ggX4_breaks_X0_has
set_option maxRecDepth 20000 in
theorem ggX4_breaks_X0_isBroken : GoodIn wsX4_breaks wsX0_isBroken := goodIn_r _ [18, 19, 34, 35, 36, 37, 38, 39, 40] (by decide +kernel) (by decide +kernel)
set_option maxRecDepth 20000 in
theorem gX4_breaks_X0_isBroken : GoodIn wsX4_breaks (wsV RX4 91 RX0 yX0_isBroken wsX0_isBroken) := goodIn_app (goodIn_of _ (by decide +kernel)) ggX4_breaks_X0_isBroken
set_option maxRecDepth 20000 in
theorem ggX4_breaks_X0_breakDown : GoodIn wsX4_breaks wsX0_breakDown := goodIn_r _ [23, 19, 24, 34, 35, 36, 37, 38, 39, 40] (by decide +kernel) (by decide +kernel)
set_option maxRecDepth 20000 in
theorem gX4_breaks_X0_breakDown : GoodIn wsX4_breaks (wsV RX4 96 RX0 yX0_breakDown wsX0_breakDown) := goodIn_app (goodIn_of _ (by decide +kernel)) ggX4_breaks_X0_breakDown
set_option maxRecDepth 20000 in
theorem ggX4_breaks_X0_countBroken : GoodIn wsX4_breaks wsX0_countBroken := goodIn_r _ [28, 24, 34, 35, 36, 37, 38, 39, 40] (by decide +kernel) (by decide +kernel)
set_option maxRecDepth 20000 in
theorem gX4_breaks_X0_countBroken : GoodIn wsX4_breaks (wsV RX4 100 RX0 yX0_countBroken wsX0_countBroken) := goodIn_app (goodIn_of _ (by decide +kernel)) ggX4_breaks_X0_countBroken
theorem dX4_breaks_0 : decode cX4_breaks 0 = .ok (.aload_n 0, 1) := by decide +kernel
theorem dX4_breaks_1 : decode cX4_breaks 1 = .ok (.getfield 19, 3) := by decide +kernel
theorem dX4_breaks_4 : decode cX4_breaks 4 = .ok (.iload_n 1, 1) := by decide +kernel
theorem dX4_breaks_5 : decode cX4_breaks 5 = .ok (.invokevirtual 86, 3) := by decide +kernel
theorem dX4_breaks_8 : decode cX4_breaks 8 = .ok (.ifCond .ne 13, 3) := by decide +kernel
theorem dX4_breaks_11 : decode cX4_breaks 11 = .ok (.new 45, 3) := by decide +kernel
theorem dX4_breaks_14 : decode cX4_breaks 14 = .ok (.dup, 1) := by decide +kernel
theorem dX4_breaks_15 : decode cX4_breaks 15 = .ok (.ldc 89, 2) := by decide +kernel
theorem dX4_breaks_17 : decode cX4_breaks 17 = .ok (.invokespecial 49, 3) := by decide +kernel
theorem dX4_breaks_20 : decode cX4_breaks 20 = .ok (.athrow, 1) := by decide +kernel
theorem dX4_breaks_21 : decode cX4_breaks 21 = .ok (.aload_n 0, 1) := by decide +kernel
theorem dX4_breaks_22 : decode cX4_breaks 22 = .ok (.getfield 19, 3) := by decide +kernel
theorem dX4_breaks_25 : decode cX4_breaks 25 = .ok (.iload_n 1, 1) := by decide +kernel
theorem dX4_breaks_26 : decode cX4_breaks 26 = .ok (.invokevirtual 91, 3) := by decide +kernel
theorem dX4_breaks_29 : decode cX4_breaks 29 = .ok (.ifCond .eq 13, 3) := by decide +kernel
theorem dX4_breaks_32 : decode cX4_breaks 32 = .ok (.new 56, 3) := by decide +kernel
theorem dX4_breaks_35 : decode cX4_breaks 35 = .ok (.dup, 1) := by decide +kernel
theorem dX4_breaks_36 : decode cX4_breaks 36 = .ok (.ldc 94, 2) := by decide +kernel
theorem dX4_breaks_38 : decode cX4_breaks 38 = .ok (.invokespecial 60, 3) := by decide +kernel
theorem dX4_breaks_41 : decode cX4_breaks 41 = .ok (.athrow, 1) := by decide +kernel
theorem dX4_breaks_42 : decode cX4_breaks 42 = .ok (.aload_n 0, 1) := by decide +kernel
theorem dX4_breaks_43 : decode cX4_breaks 43 = .ok (.getfield 19, 3) := by decide +kernel
theorem dX4_breaks_46 : decode cX4_breaks 46 = .ok (.iload_n 1, 1) := by decide +kernel
theorem dX4_breaks_47 : decode cX4_breaks 47 = .ok (.invokevirtual 96, 3) := by decide +kernel
theorem dX4_breaks_50 : decode cX4_breaks 50 = .ok (.aload_n 0, 1) := by decide +kernel
theorem dX4_breaks_51 : decode cX4_breaks 51 = .ok (.getfield 19, 3) := by decide +kernel
theorem dX4_breaks_54 : decode cX4_breaks 54 = .ok (.invokevirtual 100, 3) := by decide +kernel
theorem dX4_breaks_57 : decode cX4_breaks 57 = .ok (.ireturn, 1) := by decide +kernel
set_option maxRecDepth 20000 in
theorem ggX4_crew_X4_isBoat : GoodIn wsX4_crew wsX4_isBoat := goodIn_r _ [9, 10, 11, 8, 12] (by decide +kernel) (by decide +kernel)
set_option maxRecDepth 20000 in
theorem gX4_crew_X4_isBoat : GoodIn wsX4_crew (va_wsS RX4 104 yX4_isBoat wsX4_isBoat) := goodIn_app (goodIn_of _ (by decide +kernel)) ggX4_crew_X4_isBoat
set_option maxRecDepth 20000 in
theorem ggX4_crew_X4_isWithin : GoodIn wsX4_crew wsX4_isWithin := goodIn_r _ [12] (by decide +kernel) (by decide +kernel)
set_option maxRecDepth 20000 in
theorem gX4_crew_X4_isWithin : GoodIn wsX4_crew (va_wsS RX4 41 yX4_isWithin wsX4_isWithin) := goodIn_app (goodIn_of _ (by decide +kernel)) ggX4_crew_X4_isWithin
set_option maxRecDepth 20000 in
theorem ggX4_crew_X1_crewHours : GoodIn wsX4_crew wsX1_crewHours := goodIn_r _ [17, 18, 28, 29, 30, 31, 32] (by decide +kernel) (by decide +kernel)
set_option maxRecDepth 20000 in
theorem gX4_crew_X1_crewHours : GoodIn wsX4_crew (wsV RX4 111 RX1 yX1_crewHours wsX1_crewHours) := goodIn_app (goodIn_of _ (by decide +kernel)) ggX4_crew_X1_crewHours
set_option maxRecDepth 20000 in
theorem ggX4_crew_X1_setCrewHours : GoodIn wsX4_crew wsX1_setCrewHours := goodIn_r _ [22, 18, 28, 29, 30, 31, 32] (by decide +kernel) (by decide +kernel)
set_option maxRecDepth 20000 in
theorem gX4_crew_X1_setCrewHours : GoodIn wsX4_crew (wsV RX4 114 RX1 yX1_setCrewHours wsX1_setCrewHours) := goodIn_app (goodIn_of _ (by decide +kernel)) ggX4_crew_X1_setCrewHours
theorem dX4_crew_0 : decode cX4_crew 0 = .ok (.iload_n 1, 1) := by decide +kernel
theorem dX4_crew_1 : decode cX4_crew 1 = .ok (.invokestatic 104, 3) := by decide +kernel
theorem dX4_crew_4 : decode cX4_crew 4 = .ok (.ifCond .ne 13, 3) := by decide +kernel
theorem dX4_crew_7 : decode cX4_crew 7 = .ok (.new 45, 3) := by decide +kernel
theorem dX4_crew_10 : decode cX4_crew 10 = .ok (.dup, 1) := by decide +kernel
theorem dX4_crew_11 : decode cX4_crew 11 = .ok (.ldc 107, 2) := by decide +kernel
theorem dX4_crew_13 : decode cX4_crew 13 = .ok (.invokespecial 49, 3) := by decide +kernel
theorem dX4_crew_16 : decode cX4_crew 16 = .ok (.athrow, 1) := by decide +kernel
theorem dX4_crew_17 : decode cX4_crew 17 = .ok (.iload_n 2, 1) := by decide +kernel
theorem dX4_crew_18 : decode cX4_crew 18 = .ok (.iconst 0, 1) := by decide +kernel
theorem dX4_crew_19 : decode cX4_crew 19 = .ok (.bipush 24, 2) := by decide +kernel
theorem dX4_crew_21 : decode cX4_crew 21 = .ok (.invokestatic 41, 3) := by decide +kernel
theorem dX4_crew_24 : decode cX4_crew 24 = .ok (.ifCond .ne 13, 3) := by decide +kernel
theorem dX4_crew_27 : decode cX4_crew 27 = .ok (.new 68, 3) := by decide +kernel
theorem dX4_crew_30 : decode cX4_crew 30 = .ok (.dup, 1) := by decide +kernel
theorem dX4_crew_31 : decode cX4_crew 31 = .ok (.ldc 109, 2) := by decide +kernel
theorem dX4_crew_33 : decode cX4_crew 33 = .ok (.invokespecial 72, 3) := by decide +kernel
theorem dX4_crew_36 : decode cX4_crew 36 = .ok (.athrow, 1) := by decide +kernel
theorem dX4_crew_37 : decode cX4_crew 37 = .ok (.aload_n 0, 1) := by decide +kernel
theorem dX4_crew_38 : decode cX4_crew 38 = .ok (.getfield 26, 3) := by decide +kernel
theorem dX4_crew_41 : decode cX4_crew 41 = .ok (.iload_n 1, 1) := by decide +kernel
theorem dX4_crew_42 : decode cX4_crew 42 = .ok (.invokevirtual 111, 3) := by decide +kernel
theorem dX4_crew_45 : decode cX4_crew 45 = .ok (.istore_n 3, 1) := by decide +kernel
theorem dX4_crew_46 : decode cX4_crew 46 = .ok (.aload_n 0, 1) := by decide +kernel
theorem dX4_crew_47 : decode cX4_crew 47 = .ok (.getfield 26, 3) := by decide +kernel
theorem dX4_crew_50 : decode cX4_crew 50 = .ok (.iload_n 1, 1) := by decide +kernel
theorem dX4_crew_51 : decode cX4_crew 51 = .ok (.iload_n 2, 1) := by decide +kernel
theorem dX4_crew_52 : decode cX4_crew 52 = .ok (.invokevirtual 114, 3) := by decide +kernel
theorem dX4_crew_55 : decode cX4_crew 55 = .ok (.iload_n 3, 1) := by decide +kernel
theorem dX4_crew_56 : decode cX4_crew 56 = .ok (.ireturn, 1) := by decide +kernel
set_option maxRecDepth 20000 in
theorem ggX4_repair_X4_isBoat : GoodIn wsX4_repair wsX4_isBoat := goodIn_r _ [12, 13, 14, 11, 15] (by decide +kernel) (by decide +kernel)
set_option maxRecDepth 20000 in
theorem gX4_repair_X4_isBoat : GoodIn wsX4_repair (va_wsS RX4 104 yX4_isBoat wsX4_isBoat) := goodIn_app (goodIn_of _ (by decide +kernel)) ggX4_repair_X4_isBoat
set_option maxRecDepth 20000 in
theorem ggX4_repair_X0_has : GoodIn wsX4_repair wsX0_has := goodIn_r _ [20, 21, 14, 11, 15, 47, 48, 49, 50, 51, 52, 53] (by decide +kernel) (by decide +kernel)
set_option maxRecDepth 20000 in
theorem gX4_repair_X0_has : GoodIn wsX4_repair (wsV RX4 86 RX0 yX0_has wsX0_has) := goodIn_app (goodIn_of _ (by decide +kernel)) ggX4_repair_X0_has
set_option maxRecDepth 20000 in
theorem ggX4_repair_X4_isWithin : GoodIn wsX4_repair wsX4_isWithin := goodIn_r _ [15] (by decide +kernel) (by decide +kernel)
set_option maxRecDepth 20000 in
theorem gX4_repair_X4_isWithin : GoodIn wsX4_repair (va_wsS RX4 41 yX4_isWithin wsX4_isWithin) := goodIn_app (goodIn_of _ (by decide +kernel)) ggX4_repair_X4_isWithin
set_option maxRecDepth 20000 in
theorem ggX4_repair_X1_isFree : GoodIn wsX4_repair wsX1_isFree := goodIn_r _ [26, 27, 54, 55, 56, 57, 58] (by decide +kernel) (by decide +kernel)
set_option maxRecDepth 20000 in
theorem gX4_repair_X1_isFree : GoodIn wsX4_repair (wsV RX4 119 RX1 yX1_isFree wsX1_isFree) := goodIn_app (goodIn_of _ (by decide +kernel)) ggX4_repair_X1_isFree
set_option maxRecDepth 20000 in
theorem ggX4_repair_X0_isBroken : GoodIn wsX4_repair wsX0_isBroken := goodIn_r _ [31, 32, 47, 48, 49, 50, 51, 52, 53] (by decide +kernel) (by decide +kernel)
set_option maxRecDepth 20000 in
theorem gX4_repair_X0_isBroken : GoodIn wsX4_repair (wsV RX4 91 RX0 yX0_isBroken wsX0_isBroken) := goodIn_app (goodIn_of _ (by decide +kernel)) ggX4_repair_X0_isBroken
set_option maxRecDepth 20000 in
theorem ggX4_repair_X1_isAtWorkOn : GoodIn wsX4_repair wsX1_isAtWorkOn := goodIn_r _ [36, 27, 54, 55, 56, 57, 58] (by decide +kernel) (by decide +kernel)
set_option maxRecDepth 20000 in
theorem gX4_repair_X1_isAtWorkOn : GoodIn wsX4_repair (wsV RX4 122 RX1 yX1_isAtWorkOn wsX1_isAtWorkOn) := goodIn_app (goodIn_of _ (by decide +kernel)) ggX4_repair_X1_isAtWorkOn
set_option maxRecDepth 20000 in
theorem ggX4_repair_X1_send : GoodIn wsX4_repair wsX1_send := goodIn_r _ [40, 27, 41, 54, 55, 56, 57, 58] (by decide +kernel) (by decide +kernel)
set_option maxRecDepth 20000 in
theorem gX4_repair_X1_send : GoodIn wsX4_repair (wsV RX4 127 RX1 yX1_send wsX1_send) := goodIn_app (goodIn_of _ (by decide +kernel)) ggX4_repair_X1_send
theorem dX4_repair_0 : decode cX4_repair 0 = .ok (.iload_n 1, 1) := by decide +kernel
theorem dX4_repair_1 : decode cX4_repair 1 = .ok (.invokestatic 104, 3) := by decide +kernel
theorem dX4_repair_4 : decode cX4_repair 4 = .ok (.ifCond .eq 14, 3) := by decide +kernel
theorem dX4_repair_7 : decode cX4_repair 7 = .ok (.aload_n 0, 1) := by decide +kernel
theorem dX4_repair_8 : decode cX4_repair 8 = .ok (.getfield 19, 3) := by decide +kernel
theorem dX4_repair_11 : decode cX4_repair 11 = .ok (.iload_n 2, 1) := by decide +kernel
theorem dX4_repair_12 : decode cX4_repair 12 = .ok (.invokevirtual 86, 3) := by decide +kernel
theorem dX4_repair_15 : decode cX4_repair 15 = .ok (.ifCond .ne 13, 3) := by decide +kernel
theorem dX4_repair_18 : decode cX4_repair 18 = .ok (.new 45, 3) := by decide +kernel
theorem dX4_repair_21 : decode cX4_repair 21 = .ok (.dup, 1) := by decide +kernel
theorem dX4_repair_22 : decode cX4_repair 22 = .ok (.ldc 117, 2) := by decide +kernel
theorem dX4_repair_24 : decode cX4_repair 24 = .ok (.invokespecial 49, 3) := by decide +kernel
theorem dX4_repair_27 : decode cX4_repair 27 = .ok (.athrow, 1) := by decide +kernel
theorem dX4_repair_28 : decode cX4_repair 28 = .ok (.iload_n 3, 1) := by decide +kernel
theorem dX4_repair_29 : decode cX4_repair 29 = .ok (.iconst 1, 1) := by decide +kernel
theorem dX4_repair_30 : decode cX4_repair 30 = .ok (.bipush 40, 2) := by decide +kernel
theorem dX4_repair_32 : decode cX4_repair 32 = .ok (.invokestatic 41, 3) := by decide +kernel
theorem dX4_repair_35 : decode cX4_repair 35 = .ok (.ifCond .ne 13, 3) := by decide +kernel
theorem dX4_repair_38 : decode cX4_repair 38 = .ok (.new 68, 3) := by decide +kernel
theorem dX4_repair_41 : decode cX4_repair 41 = .ok (.dup, 1) := by decide +kernel
theorem dX4_repair_42 : decode cX4_repair 42 = .ok (.ldc 109, 2) := by decide +kernel
theorem dX4_repair_44 : decode cX4_repair 44 = .ok (.invokespecial 72, 3) := by decide +kernel
theorem dX4_repair_47 : decode cX4_repair 47 = .ok (.athrow, 1) := by decide +kernel
theorem dX4_repair_48 : decode cX4_repair 48 = .ok (.aload_n 0, 1) := by decide +kernel
theorem dX4_repair_49 : decode cX4_repair 49 = .ok (.getfield 26, 3) := by decide +kernel
theorem dX4_repair_52 : decode cX4_repair 52 = .ok (.iload_n 1, 1) := by decide +kernel
theorem dX4_repair_53 : decode cX4_repair 53 = .ok (.invokevirtual 119, 3) := by decide +kernel
theorem dX4_repair_56 : decode cX4_repair 56 = .ok (.ifCond .eq 25, 3) := by decide +kernel
theorem dX4_repair_59 : decode cX4_repair 59 = .ok (.aload_n 0, 1) := by decide +kernel
theorem dX4_repair_60 : decode cX4_repair 60 = .ok (.getfield 19, 3) := by decide +kernel
theorem dX4_repair_63 : decode cX4_repair 63 = .ok (.iload_n 2, 1) := by decide +kernel
theorem dX4_repair_64 : decode cX4_repair 64 = .ok (.invokevirtual 91, 3) := by decide +kernel
theorem dX4_repair_67 : decode cX4_repair 67 = .ok (.ifCond .eq 14, 3) := by decide +kernel
theorem dX4_repair_70 : decode cX4_repair 70 = .ok (.aload_n 0, 1) := by decide +kernel
theorem dX4_repair_71 : decode cX4_repair 71 = .ok (.getfield 26, 3) := by decide +kernel
theorem dX4_repair_74 : decode cX4_repair 74 = .ok (.iload_n 2, 1) := by decide +kernel
theorem dX4_repair_75 : decode cX4_repair 75 = .ok (.invokevirtual 122, 3) := by decide +kernel
theorem dX4_repair_78 : decode cX4_repair 78 = .ok (.ifCond .eq 13, 3) := by decide +kernel
theorem dX4_repair_81 : decode cX4_repair 81 = .ok (.new 56, 3) := by decide +kernel
theorem dX4_repair_84 : decode cX4_repair 84 = .ok (.dup, 1) := by decide +kernel
theorem dX4_repair_85 : decode cX4_repair 85 = .ok (.ldc 125, 2) := by decide +kernel
theorem dX4_repair_87 : decode cX4_repair 87 = .ok (.invokespecial 60, 3) := by decide +kernel
theorem dX4_repair_90 : decode cX4_repair 90 = .ok (.athrow, 1) := by decide +kernel
theorem dX4_repair_91 : decode cX4_repair 91 = .ok (.aload_n 0, 1) := by decide +kernel
theorem dX4_repair_92 : decode cX4_repair 92 = .ok (.getfield 26, 3) := by decide +kernel
theorem dX4_repair_95 : decode cX4_repair 95 = .ok (.iload_n 1, 1) := by decide +kernel
theorem dX4_repair_96 : decode cX4_repair 96 = .ok (.iload_n 2, 1) := by decide +kernel
theorem dX4_repair_97 : decode cX4_repair 97 = .ok (.iload_n 3, 1) := by decide +kernel
theorem dX4_repair_98 : decode cX4_repair 98 = .ok (.invokevirtual 127, 3) := by decide +kernel
theorem dX4_repair_101 : decode cX4_repair 101 = .ok (.return_, 1) := by decide +kernel
set_option maxRecDepth 20000 in
theorem ggX4_sell_X4_isWithin : GoodIn wsX4_sell wsX4_isWithin := goodIn_r _ [10] (by decide +kernel) (by decide +kernel)
set_option maxRecDepth 20000 in
theorem gX4_sell_X4_isWithin : GoodIn wsX4_sell (va_wsS RX4 41 yX4_isWithin wsX4_isWithin) := goodIn_app (goodIn_of _ (by decide +kernel)) ggX4_sell_X4_isWithin
set_option maxRecDepth 20000 in
theorem ggX4_sell_X2_slotUnits : GoodIn wsX4_sell wsX2_slotUnits := goodIn_r _ [15, 16, 27, 28, 29, 30] (by decide +kernel) (by decide +kernel)
set_option maxRecDepth 20000 in
theorem gX4_sell_X2_slotUnits : GoodIn wsX4_sell (wsV RX4 135 RX2 yX2_slotUnits wsX2_slotUnits) := goodIn_app (goodIn_of _ (by decide +kernel)) ggX4_sell_X2_slotUnits
set_option maxRecDepth 20000 in
theorem ggX4_sell_X2_setSlot : GoodIn wsX4_sell wsX2_setSlot := goodIn_r _ [20, 16, 21, 27, 28, 29, 30] (by decide +kernel) (by decide +kernel)
set_option maxRecDepth 20000 in
theorem gX4_sell_X2_setSlot : GoodIn wsX4_sell (wsV RX4 138 RX2 yX2_setSlot wsX2_setSlot) := goodIn_app (goodIn_of _ (by decide +kernel)) ggX4_sell_X2_setSlot
theorem dX4_sell_0 : decode cX4_sell 0 = .ok (.iload_n 1, 1) := by decide +kernel
theorem dX4_sell_1 : decode cX4_sell 1 = .ok (.iconst 0, 1) := by decide +kernel
theorem dX4_sell_2 : decode cX4_sell 2 = .ok (.sipush 479, 3) := by decide +kernel
theorem dX4_sell_5 : decode cX4_sell 5 = .ok (.invokestatic 41, 3) := by decide +kernel
theorem dX4_sell_8 : decode cX4_sell 8 = .ok (.ifCond .eq 24, 3) := by decide +kernel
theorem dX4_sell_11 : decode cX4_sell 11 = .ok (.iload_n 2, 1) := by decide +kernel
theorem dX4_sell_12 : decode cX4_sell 12 = .ok (.iconst 0, 1) := by decide +kernel
theorem dX4_sell_13 : decode cX4_sell 13 = .ok (.sipush 30000, 3) := by decide +kernel
theorem dX4_sell_16 : decode cX4_sell 16 = .ok (.invokestatic 41, 3) := by decide +kernel
theorem dX4_sell_19 : decode cX4_sell 19 = .ok (.ifCond .eq 13, 3) := by decide +kernel
theorem dX4_sell_22 : decode cX4_sell 22 = .ok (.iload_n 3, 1) := by decide +kernel
theorem dX4_sell_23 : decode cX4_sell 23 = .ok (.iconst 1, 1) := by decide +kernel
theorem dX4_sell_24 : decode cX4_sell 24 = .ok (.bipush 100, 2) := by decide +kernel
theorem dX4_sell_26 : decode cX4_sell 26 = .ok (.invokestatic 41, 3) := by decide +kernel
theorem dX4_sell_29 : decode cX4_sell 29 = .ok (.ifCond .ne 13, 3) := by decide +kernel
theorem dX4_sell_32 : decode cX4_sell 32 = .ok (.new 68, 3) := by decide +kernel
theorem dX4_sell_35 : decode cX4_sell 35 = .ok (.dup, 1) := by decide +kernel
theorem dX4_sell_36 : decode cX4_sell 36 = .ok (.ldc 131, 2) := by decide +kernel
theorem dX4_sell_38 : decode cX4_sell 38 = .ok (.invokespecial 72, 3) := by decide +kernel
theorem dX4_sell_41 : decode cX4_sell 41 = .ok (.athrow, 1) := by decide +kernel
theorem dX4_sell_42 : decode cX4_sell 42 = .ok (.aload_n 0, 1) := by decide +kernel
theorem dX4_sell_43 : decode cX4_sell 43 = .ok (.getfield 37, 3) := by decide +kernel
theorem dX4_sell_46 : decode cX4_sell 46 = .ok (.bipush 24, 2) := by decide +kernel
theorem dX4_sell_48 : decode cX4_sell 48 = .ok (.idiv, 1) := by decide +kernel
theorem dX4_sell_49 : decode cX4_sell 49 = .ok (.iload_n 1, 1) := by decide +kernel
theorem dX4_sell_50 : decode cX4_sell 50 = .ok (.bipush 24, 2) := by decide +kernel
theorem dX4_sell_52 : decode cX4_sell 52 = .ok (.idiv, 1) := by decide +kernel
theorem dX4_sell_53 : decode cX4_sell 53 = .ok (.if_icmp .lt 13, 3) := by decide +kernel
theorem dX4_sell_56 : decode cX4_sell 56 = .ok (.new 56, 3) := by decide +kernel
theorem dX4_sell_59 : decode cX4_sell 59 = .ok (.dup, 1) := by decide +kernel
theorem dX4_sell_60 : decode cX4_sell 60 = .ok (.ldc 133, 2) := by decide +kernel
theorem dX4_sell_62 : decode cX4_sell 62 = .ok (.invokespecial 60, 3) := by decide +kernel
theorem dX4_sell_65 : decode cX4_sell 65 = .ok (.athrow, 1) := by decide +kernel
theorem dX4_sell_66 : decode cX4_sell 66 = .ok (.aload_n 0, 1) := by decide +kernel
theorem dX4_sell_67 : decode cX4_sell 67 = .ok (.getfield 33, 3) := by decide +kernel
theorem dX4_sell_70 : decode cX4_sell 70 = .ok (.iload_n 1, 1) := by decide +kernel
theorem dX4_sell_71 : decode cX4_sell 71 = .ok (.invokevirtual 135, 3) := by decide +kernel
theorem dX4_sell_74 : decode cX4_sell 74 = .ok (.istore 4, 2) := by decide +kernel
theorem dX4_sell_76 : decode cX4_sell 76 = .ok (.aload_n 0, 1) := by decide +kernel
theorem dX4_sell_77 : decode cX4_sell 77 = .ok (.getfield 33, 3) := by decide +kernel
theorem dX4_sell_80 : decode cX4_sell 80 = .ok (.iload_n 1, 1) := by decide +kernel
theorem dX4_sell_81 : decode cX4_sell 81 = .ok (.iload_n 2, 1) := by decide +kernel
theorem dX4_sell_82 : decode cX4_sell 82 = .ok (.iload_n 3, 1) := by decide +kernel
theorem dX4_sell_83 : decode cX4_sell 83 = .ok (.invokevirtual 138, 3) := by decide +kernel
theorem dX4_sell_86 : decode cX4_sell 86 = .ok (.iload 4, 2) := by decide +kernel
theorem dX4_sell_88 : decode cX4_sell 88 = .ok (.ireturn, 1) := by decide +kernel
set_option maxRecDepth 20000 in
theorem ggX4_pass_X4_isWithin : GoodIn wsX4_pass wsX4_isWithin := goodIn_r _ [9] (by decide +kernel) (by decide +kernel)
set_option maxRecDepth 20000 in
theorem gX4_pass_X4_isWithin : GoodIn wsX4_pass (va_wsS RX4 41 yX4_isWithin wsX4_isWithin) := goodIn_app (goodIn_of _ (by decide +kernel)) ggX4_pass_X4_isWithin
set_option maxRecDepth 20000 in
theorem ggX4_pass_X4_liveHour : GoodIn wsX4_pass wsX4_liveHour := goodIn_r _ [13, 14, 5, 15, 16, 17, 18, 19, 20, 8, 21, 22, 23, 24, 25, 26, 27, 28, 29, 30, 31, 32, 33, 34, 35, 36, 37, 38, 39, 40, 41, 42, 43, 44, 45, 46, 47, 48, 49, 50, 51, 52, 53, 54, 55, 56, 57, 58, 59, 60, 61, 62, 63, 64, 65, 66, 67, 7, 9, 68, 69, 70, 71, 72, 73, 74, 75, 76, 77, 78, 79, 80, 81, 82, 83, 84, 85, 86, 87, 88, 89, 90, 91, 92, 93, 94, 95, 96, 97, 98, 99, 100, 101, 102, 103, 104, 105, 106, 107, 108, 109, 110, 111, 112, 113, 114, 115, 116, 117, 118, 119, 120, 121, 122, 123, 124, 125, 126, 127, 128, 129, 130, 131, 132, 133, 134, 135, 136, 137, 138, 139, 140, 141, 142, 143, 144, 145, 146, 147, 148, 149, 150, 151, 152, 153, 154, 155, 156, 157, 158, 159, 160, 161, 162, 163, 164, 165, 166, 167, 168, 169, 170, 171, 172, 173, 174, 175, 176, 177, 178, 179, 180, 181, 182, 183, 184] (by decide +kernel) (by decide +kernel)
set_option maxRecDepth 20000 in
theorem gX4_pass_X4_liveHour : GoodIn wsX4_pass (wsV RX4 143 RX4 yX4_liveHour wsX4_liveHour) := goodIn_app (goodIn_of _ (by decide +kernel)) ggX4_pass_X4_liveHour
theorem dX4_pass_0 : decode cX4_pass 0 = .ok (.iload_n 1, 1) := by decide +kernel
theorem dX4_pass_1 : decode cX4_pass 1 = .ok (.iconst 1, 1) := by decide +kernel
theorem dX4_pass_2 : decode cX4_pass 2 = .ok (.bipush 48, 2) := by decide +kernel
theorem dX4_pass_4 : decode cX4_pass 4 = .ok (.invokestatic 41, 3) := by decide +kernel
theorem dX4_pass_7 : decode cX4_pass 7 = .ok (.ifCond .ne 13, 3) := by decide +kernel
theorem dX4_pass_10 : decode cX4_pass 10 = .ok (.new 68, 3) := by decide +kernel
theorem dX4_pass_13 : decode cX4_pass 13 = .ok (.dup, 1) := by decide +kernel
theorem dX4_pass_14 : decode cX4_pass 14 = .ok (.ldc 109, 2) := by decide +kernel
theorem dX4_pass_16 : decode cX4_pass 16 = .ok (.invokespecial 72, 3) := by decide +kernel
theorem dX4_pass_19 : decode cX4_pass 19 = .ok (.athrow, 1) := by decide +kernel
theorem dX4_pass_20 : decode cX4_pass 20 = .ok (.aload_n 0, 1) := by decide +kernel
theorem dX4_pass_21 : decode cX4_pass 21 = .ok (.getfield 37, 3) := by decide +kernel
theorem dX4_pass_24 : decode cX4_pass 24 = .ok (.iload_n 1, 1) := by decide +kernel
theorem dX4_pass_25 : decode cX4_pass 25 = .ok (.iadd, 1) := by decide +kernel
theorem dX4_pass_26 : decode cX4_pass 26 = .ok (.sipush 479, 3) := by decide +kernel
theorem dX4_pass_29 : decode cX4_pass 29 = .ok (.if_icmp .le 13, 3) := by decide +kernel
theorem dX4_pass_32 : decode cX4_pass 32 = .ok (.new 56, 3) := by decide +kernel
theorem dX4_pass_35 : decode cX4_pass 35 = .ok (.dup, 1) := by decide +kernel
theorem dX4_pass_36 : decode cX4_pass 36 = .ok (.ldc 141, 2) := by decide +kernel
theorem dX4_pass_38 : decode cX4_pass 38 = .ok (.invokespecial 60, 3) := by decide +kernel
theorem dX4_pass_41 : decode cX4_pass 41 = .ok (.athrow, 1) := by decide +kernel
theorem dX4_pass_42 : decode cX4_pass 42 = .ok (.iconst 0, 1) := by decide +kernel
theorem dX4_pass_43 : decode cX4_pass 43 = .ok (.istore_n 2, 1) := by decide +kernel
theorem dX4_pass_44 : decode cX4_pass 44 = .ok (.iload_n 2, 1) := by decide +kernel
theorem dX4_pass_45 : decode cX4_pass 45 = .ok (.iload_n 1, 1) := by decide +kernel
theorem dX4_pass_46 : decode cX4_pass 46 = .ok (.if_icmp .ge 13, 3) := by decide +kernel
theorem dX4_pass_49 : decode cX4_pass 49 = .ok (.aload_n 0, 1) := by decide +kernel
theorem dX4_pass_50 : decode cX4_pass 50 = .ok (.invokevirtual 143, 3) := by decide +kernel
theorem dX4_pass_53 : decode cX4_pass 53 = .ok (.iinc 2 1, 3) := by decide +kernel
theorem dX4_pass_56 : decode cX4_pass 56 = .ok (.goto (-12), 3) := by decide +kernel
theorem dX4_pass_59 : decode cX4_pass 59 = .ok (.aload_n 0, 1) := by decide +kernel
theorem dX4_pass_60 : decode cX4_pass 60 = .ok (.getfield 37, 3) := by decide +kernel
theorem dX4_pass_63 : decode cX4_pass 63 = .ok (.ireturn, 1) := by decide +kernel
set_option maxRecDepth 20000 in
theorem ggX4_windAt_X0_has : GoodIn wsX4_windAt wsX0_has := goodIn_r _ [10, 11, 12, 13, 14, 55, 56, 57, 58, 59, 60, 61] (by decide +kernel) (by decide +kernel)
set_option maxRecDepth 20000 in
theorem gX4_windAt_X0_has : GoodIn wsX4_windAt (wsV RX4 86 RX0 yX0_has wsX0_has) := goodIn_app (goodIn_of _ (by decide +kernel)) ggX4_windAt_X0_has
set_option maxRecDepth 20000 in
theorem ggX4_windAt_X3_speedIn : GoodIn wsX4_windAt wsX3_speedIn := goodIn_r _ [19, 20, 62, 63, 64] (by decide +kernel) (by decide +kernel)
set_option maxRecDepth 20000 in
theorem gX4_windAt_X3_speedIn : GoodIn wsX4_windAt (wsV RX4 146 RX3 yX3_speedIn wsX3_speedIn) := goodIn_app (goodIn_of _ (by decide +kernel)) ggX4_windAt_X3_speedIn
set_option maxRecDepth 20000 in
theorem ggX4_windAt_X3_isWestIn : GoodIn wsX4_windAt wsX3_isWestIn := goodIn_r _ [24, 25, 62, 63, 64] (by decide +kernel) (by decide +kernel)
set_option maxRecDepth 20000 in
theorem gX4_windAt_X3_isWestIn : GoodIn wsX4_windAt (wsV RX4 149 RX3 yX3_isWestIn wsX3_isWestIn) := goodIn_app (goodIn_of _ (by decide +kernel)) ggX4_windAt_X3_isWestIn
set_option maxRecDepth 20000 in
theorem ggX4_windAt_X0_windLeft : GoodIn wsX4_windAt wsX0_windLeft := goodIn_r _ [29, 30, 31, 32, 33, 9, 34, 11, 35, 36, 37, 38, 39, 40, 41, 42, 43, 44, 45, 46, 47, 48, 49, 55, 56, 57, 58, 59, 60, 61] (by decide +kernel) (by decide +kernel)
set_option maxRecDepth 20000 in
theorem gX4_windAt_X0_windLeft : GoodIn wsX4_windAt (wsV RX4 152 RX0 yX0_windLeft wsX0_windLeft) := goodIn_app (goodIn_of _ (by decide +kernel)) ggX4_windAt_X0_windLeft
theorem dX4_windAt_0 : decode cX4_windAt 0 = .ok (.aload_n 0, 1) := by decide +kernel
theorem dX4_windAt_1 : decode cX4_windAt 1 = .ok (.getfield 19, 3) := by decide +kernel
theorem dX4_windAt_4 : decode cX4_windAt 4 = .ok (.iload_n 1, 1) := by decide +kernel
theorem dX4_windAt_5 : decode cX4_windAt 5 = .ok (.invokevirtual 86, 3) := by decide +kernel
theorem dX4_windAt_8 : decode cX4_windAt 8 = .ok (.ifCond .ne 13, 3) := by decide +kernel
theorem dX4_windAt_11 : decode cX4_windAt 11 = .ok (.new 45, 3) := by decide +kernel
theorem dX4_windAt_14 : decode cX4_windAt 14 = .ok (.dup, 1) := by decide +kernel
theorem dX4_windAt_15 : decode cX4_windAt 15 = .ok (.ldc 89, 2) := by decide +kernel
theorem dX4_windAt_17 : decode cX4_windAt 17 = .ok (.invokespecial 49, 3) := by decide +kernel
theorem dX4_windAt_20 : decode cX4_windAt 20 = .ok (.athrow, 1) := by decide +kernel
theorem dX4_windAt_21 : decode cX4_windAt 21 = .ok (.aload_n 0, 1) := by decide +kernel
theorem dX4_windAt_22 : decode cX4_windAt 22 = .ok (.getfield 19, 3) := by decide +kernel
theorem dX4_windAt_25 : decode cX4_windAt 25 = .ok (.iload_n 1, 1) := by decide +kernel
theorem dX4_windAt_26 : decode cX4_windAt 26 = .ok (.aload_n 0, 1) := by decide +kernel
theorem dX4_windAt_27 : decode cX4_windAt 27 = .ok (.getfield 12, 3) := by decide +kernel
theorem dX4_windAt_30 : decode cX4_windAt 30 = .ok (.aload_n 0, 1) := by decide +kernel
theorem dX4_windAt_31 : decode cX4_windAt 31 = .ok (.getfield 37, 3) := by decide +kernel
theorem dX4_windAt_34 : decode cX4_windAt 34 = .ok (.invokevirtual 146, 3) := by decide +kernel
theorem dX4_windAt_37 : decode cX4_windAt 37 = .ok (.aload_n 0, 1) := by decide +kernel
theorem dX4_windAt_38 : decode cX4_windAt 38 = .ok (.getfield 12, 3) := by decide +kernel
theorem dX4_windAt_41 : decode cX4_windAt 41 = .ok (.aload_n 0, 1) := by decide +kernel
theorem dX4_windAt_42 : decode cX4_windAt 42 = .ok (.getfield 37, 3) := by decide +kernel
theorem dX4_windAt_45 : decode cX4_windAt 45 = .ok (.invokevirtual 149, 3) := by decide +kernel
theorem dX4_windAt_48 : decode cX4_windAt 48 = .ok (.invokevirtual 152, 3) := by decide +kernel
theorem dX4_windAt_51 : decode cX4_windAt 51 = .ok (.ireturn, 1) := by decide +kernel
set_option maxRecDepth 20000 in
theorem ggX4_foretold_X4_isToCome : GoodIn wsX4_foretold wsX4_isToCome := goodIn_r _ [9, 10, 11, 12, 8, 13, 66, 67, 68, 69, 70] (by decide +kernel) (by decide +kernel)
set_option maxRecDepth 20000 in
theorem gX4_foretold_X4_isToCome : GoodIn wsX4_foretold (wsV RX4 65 RX4 yX4_isToCome wsX4_isToCome) := goodIn_app (goodIn_of _ (by decide +kernel)) ggX4_foretold_X4_isToCome
set_option maxRecDepth 20000 in
theorem ggX4_foretold_X3_speedIn : GoodIn wsX4_foretold wsX3_speedIn := goodIn_r _ [18, 19, 71, 72, 73] (by decide +kernel) (by decide +kernel)
set_option maxRecDepth 20000 in
theorem gX4_foretold_X3_speedIn : GoodIn wsX4_foretold (wsV RX4 146 RX3 yX3_speedIn wsX3_speedIn) := goodIn_app (goodIn_of _ (by decide +kernel)) ggX4_foretold_X3_speedIn
set_option maxRecDepth 20000 in
theorem ggX4_foretold_X3_isWestIn : GoodIn wsX4_foretold wsX3_isWestIn := goodIn_r _ [23, 24, 71, 72, 73] (by decide +kernel) (by decide +kernel)
set_option maxRecDepth 20000 in
theorem gX4_foretold_X3_isWestIn : GoodIn wsX4_foretold (wsV RX4 149 RX3 yX3_isWestIn wsX3_isWestIn) := goodIn_app (goodIn_of _ (by decide +kernel)) ggX4_foretold_X3_isWestIn
set_option maxRecDepth 20000 in
theorem ggX4_foretold_X0_powerOfAll : GoodIn wsX4_foretold wsX0_powerOfAll := goodIn_r _ [29, 30, 31, 32, 33, 28, 34, 35, 36, 37, 38, 39, 40, 41, 42, 43, 44, 45, 46, 47, 48, 49, 50, 51, 52, 53, 54, 55, 56, 57, 58, 59, 60, 61, 62, 63, 64, 65, 12, 8, 13, 74, 75, 76, 77, 78, 79, 80] (by decide +kernel) (by decide +kernel)
set_option maxRecDepth 20000 in
theorem gX4_foretold_X0_powerOfAll : GoodIn wsX4_foretold (wsV RX4 158 RX0 yX0_powerOfAll wsX0_powerOfAll) := goodIn_app (goodIn_of _ (by decide +kernel)) ggX4_foretold_X0_powerOfAll
theorem dX4_foretold_0 : decode cX4_foretold 0 = .ok (.aload_n 0, 1) := by decide +kernel
theorem dX4_foretold_1 : decode cX4_foretold 1 = .ok (.iload_n 1, 1) := by decide +kernel
theorem dX4_foretold_2 : decode cX4_foretold 2 = .ok (.invokevirtual 65, 3) := by decide +kernel
theorem dX4_foretold_5 : decode cX4_foretold 5 = .ok (.ifCond .ne 13, 3) := by decide +kernel
theorem dX4_foretold_8 : decode cX4_foretold 8 = .ok (.new 68, 3) := by decide +kernel
theorem dX4_foretold_11 : decode cX4_foretold 11 = .ok (.dup, 1) := by decide +kernel
theorem dX4_foretold_12 : decode cX4_foretold 12 = .ok (.ldc 156, 2) := by decide +kernel
theorem dX4_foretold_14 : decode cX4_foretold 14 = .ok (.invokespecial 72, 3) := by decide +kernel
theorem dX4_foretold_17 : decode cX4_foretold 17 = .ok (.athrow, 1) := by decide +kernel
theorem dX4_foretold_18 : decode cX4_foretold 18 = .ok (.aload_n 0, 1) := by decide +kernel
theorem dX4_foretold_19 : decode cX4_foretold 19 = .ok (.getfield 19, 3) := by decide +kernel
theorem dX4_foretold_22 : decode cX4_foretold 22 = .ok (.aload_n 0, 1) := by decide +kernel
theorem dX4_foretold_23 : decode cX4_foretold 23 = .ok (.getfield 12, 3) := by decide +kernel
theorem dX4_foretold_26 : decode cX4_foretold 26 = .ok (.iload_n 1, 1) := by decide +kernel
theorem dX4_foretold_27 : decode cX4_foretold 27 = .ok (.invokevirtual 146, 3) := by decide +kernel
theorem dX4_foretold_30 : decode cX4_foretold 30 = .ok (.aload_n 0, 1) := by decide +kernel
theorem dX4_foretold_31 : decode cX4_foretold 31 = .ok (.getfield 12, 3) := by decide +kernel
theorem dX4_foretold_34 : decode cX4_foretold 34 = .ok (.iload_n 1, 1) := by decide +kernel
theorem dX4_foretold_35 : decode cX4_foretold 35 = .ok (.invokevirtual 149, 3) := by decide +kernel
theorem dX4_foretold_38 : decode cX4_foretold 38 = .ok (.invokevirtual 158, 3) := by decide +kernel
theorem dX4_foretold_41 : decode cX4_foretold 41 = .ok (.ireturn, 1) := by decide +kernel
set_option maxRecDepth 20000 in
theorem ggX4_foretoldAnew_X4_isToCome : GoodIn wsX4_foretoldAnew wsX4_isToCome := goodIn_r _ [9, 10, 11, 12, 8, 13, 60, 61, 62, 63, 64] (by decide +kernel) (by decide +kernel)
set_option maxRecDepth 20000 in
theorem gX4_foretoldAnew_X4_isToCome : GoodIn wsX4_foretoldAnew (wsV RX4 65 RX4 yX4_isToCome wsX4_isToCome) := goodIn_app (goodIn_of _ (by decide +kernel)) ggX4_foretoldAnew_X4_isToCome
set_option maxRecDepth 20000 in
theorem ggX4_foretoldAnew_X3_speedIn : GoodIn wsX4_foretoldAnew wsX3_speedIn := goodIn_r _ [18, 19, 65, 66, 67] (by decide +kernel) (by decide +kernel)
set_option maxRecDepth 20000 in
theorem gX4_foretoldAnew_X3_speedIn : GoodIn wsX4_foretoldAnew (wsV RX4 146 RX3 yX3_speedIn wsX3_speedIn) := goodIn_app (goodIn_of _ (by decide +kernel)) ggX4_foretoldAnew_X3_speedIn
set_option maxRecDepth 20000 in
theorem ggX4_foretoldAnew_X3_isWestIn : GoodIn wsX4_foretoldAnew wsX3_isWestIn := goodIn_r _ [23, 24, 65, 66, 67] (by decide +kernel) (by decide +kernel)
set_option maxRecDepth 20000 in
theorem gX4_foretoldAnew_X3_isWestIn : GoodIn wsX4_foretoldAnew (wsV RX4 149 RX3 yX3_isWestIn wsX3_isWestIn) := goodIn_app (goodIn_of _ (by decide +kernel)) ggX4_foretoldAnew_X3_isWestIn
set_option maxRecDepth 20000 in
theorem ggX4_foretoldAnew_X0_powerOfAllAnew : GoodIn wsX4_foretoldAnew wsX0_powerOfAllAnew := goodIn_r _ [29, 30, 31, 32, 33, 34, 28, 35, 36, 37, 38, 39, 40, 41, 42, 43, 44, 45, 46, 47, 48, 49, 12, 8, 13, 50, 51, 52, 53, 54, 55, 56, 57, 58, 59, 68, 69, 70, 71, 72, 73, 74] (by decide +kernel) (by decide +kernel)
set_option maxRecDepth 20000 in
theorem gX4_foretoldAnew_X0_powerOfAllAnew : GoodIn wsX4_foretoldAnew (wsV RX4 162 RX0 yX0_powerOfAllAnew wsX0_powerOfAllAnew) := goodIn_app (goodIn_of _ (by decide +kernel)) ggX4_foretoldAnew_X0_powerOfAllAnew
theorem dX4_foretoldAnew_0 : decode cX4_foretoldAnew 0 = .ok (.aload_n 0, 1) := by decide +kernel
theorem dX4_foretoldAnew_1 : decode cX4_foretoldAnew 1 = .ok (.iload_n 1, 1) := by decide +kernel
theorem dX4_foretoldAnew_2 : decode cX4_foretoldAnew 2 = .ok (.invokevirtual 65, 3) := by decide +kernel
theorem dX4_foretoldAnew_5 : decode cX4_foretoldAnew 5 = .ok (.ifCond .ne 13, 3) := by decide +kernel
theorem dX4_foretoldAnew_8 : decode cX4_foretoldAnew 8 = .ok (.new 68, 3) := by decide +kernel
theorem dX4_foretoldAnew_11 : decode cX4_foretoldAnew 11 = .ok (.dup, 1) := by decide +kernel
theorem dX4_foretoldAnew_12 : decode cX4_foretoldAnew 12 = .ok (.ldc 156, 2) := by decide +kernel
theorem dX4_foretoldAnew_14 : decode cX4_foretoldAnew 14 = .ok (.invokespecial 72, 3) := by decide +kernel
theorem dX4_foretoldAnew_17 : decode cX4_foretoldAnew 17 = .ok (.athrow, 1) := by decide +kernel
theorem dX4_foretoldAnew_18 : decode cX4_foretoldAnew 18 = .ok (.aload_n 0, 1) := by decide +kernel
theorem dX4_foretoldAnew_19 : decode cX4_foretoldAnew 19 = .ok (.getfield 19, 3) := by decide +kernel
theorem dX4_foretoldAnew_22 : decode cX4_foretoldAnew 22 = .ok (.aload_n 0, 1) := by decide +kernel
theorem dX4_foretoldAnew_23 : decode cX4_foretoldAnew 23 = .ok (.getfield 12, 3) := by decide +kernel
theorem dX4_foretoldAnew_26 : decode cX4_foretoldAnew 26 = .ok (.iload_n 1, 1) := by decide +kernel
theorem dX4_foretoldAnew_27 : decode cX4_foretoldAnew 27 = .ok (.invokevirtual 146, 3) := by decide +kernel
theorem dX4_foretoldAnew_30 : decode cX4_foretoldAnew 30 = .ok (.aload_n 0, 1) := by decide +kernel
theorem dX4_foretoldAnew_31 : decode cX4_foretoldAnew 31 = .ok (.getfield 12, 3) := by decide +kernel
theorem dX4_foretoldAnew_34 : decode cX4_foretoldAnew 34 = .ok (.iload_n 1, 1) := by decide +kernel
theorem dX4_foretoldAnew_35 : decode cX4_foretoldAnew 35 = .ok (.invokevirtual 149, 3) := by decide +kernel
theorem dX4_foretoldAnew_38 : decode cX4_foretoldAnew 38 = .ok (.invokevirtual 162, 3) := by decide +kernel
theorem dX4_foretoldAnew_41 : decode cX4_foretoldAnew 41 = .ok (.ireturn, 1) := by decide +kernel
set_option maxRecDepth 20000 in
theorem ggX4_ofHour_X4_isOver : GoodIn wsX4_ofHour wsX4_isOver := goodIn_r _ [8, 9, 10, 11, 7, 12, 35, 36, 37, 38, 39] (by decide +kernel) (by decide +kernel)
set_option maxRecDepth 20000 in
theorem gX4_ofHour_X4_isOver : GoodIn wsX4_ofHour (wsV RX4 165 RX4 yX4_isOver wsX4_isOver) := goodIn_app (goodIn_of _ (by decide +kernel)) ggX4_ofHour_X4_isOver
set_option maxRecDepth 20000 in
theorem ggX4_ofHour_X4_isWithin : GoodIn wsX4_ofHour wsX4_isWithin := goodIn_r _ [12] (by decide +kernel) (by decide +kernel)
set_option maxRecDepth 20000 in
theorem gX4_ofHour_X4_isWithin : GoodIn wsX4_ofHour (va_wsS RX4 41 yX4_isWithin wsX4_isWithin) := goodIn_app (goodIn_of _ (by decide +kernel)) ggX4_ofHour_X4_isWithin
set_option maxRecDepth 20000 in
theorem ggX4_ofHour_X2_madeIn : GoodIn wsX4_ofHour wsX2_madeIn := goodIn_r _ [17, 18, 40, 41, 42, 43] (by decide +kernel) (by decide +kernel)
set_option maxRecDepth 20000 in
theorem gX4_ofHour_X2_madeIn : GoodIn wsX4_ofHour (wsV RX4 170 RX2 yX2_madeIn wsX2_madeIn) := goodIn_app (goodIn_of _ (by decide +kernel)) ggX4_ofHour_X2_madeIn
set_option maxRecDepth 20000 in
theorem ggX4_ofHour_X2_soldFor : GoodIn wsX4_ofHour wsX2_soldFor := goodIn_r _ [22, 23, 40, 41, 42, 43] (by decide +kernel) (by decide +kernel)
set_option maxRecDepth 20000 in
theorem gX4_ofHour_X2_soldFor : GoodIn wsX4_ofHour (wsV RX4 173 RX2 yX2_soldFor wsX2_soldFor) := goodIn_app (goodIn_of _ (by decide +kernel)) ggX4_ofHour_X2_soldFor
set_option maxRecDepth 20000 in
theorem ggX4_ofHour_X2_imbalanceOf : GoodIn wsX4_ofHour wsX2_imbalanceOf := goodIn_r _ [27, 18, 28, 20, 21, 16, 22, 23, 40, 41, 42, 43] (by decide +kernel) (by decide +kernel)
set_option maxRecDepth 20000 in
theorem gX4_ofHour_X2_imbalanceOf : GoodIn wsX4_ofHour (wsV RX4 176 RX2 yX2_imbalanceOf wsX2_imbalanceOf) := goodIn_app (goodIn_of _ (by decide +kernel)) ggX4_ofHour_X2_imbalanceOf
set_option maxRecDepth 20000 in
theorem ggX4_ofHour_X2_proceedsOf : GoodIn wsX4_ofHour wsX2_proceedsOf := goodIn_r _ [32, 33, 34, 25, 26, 16, 27, 18, 28, 20, 21, 22, 23, 40, 41, 42, 43] (by decide +kernel) (by decide +kernel)
set_option maxRecDepth 20000 in
theorem gX4_ofHour_X2_proceedsOf : GoodIn wsX4_ofHour (wsV RX4 179 RX2 yX2_proceedsOf wsX2_proceedsOf) := goodIn_app (goodIn_of _ (by decide +kernel)) ggX4_ofHour_X2_proceedsOf
theorem dX4_ofHour_0 : decode cX4_ofHour 0 = .ok (.aload_n 0, 1) := by decide +kernel
theorem dX4_ofHour_1 : decode cX4_ofHour 1 = .ok (.iload_n 1, 1) := by decide +kernel
theorem dX4_ofHour_2 : decode cX4_ofHour 2 = .ok (.invokevirtual 165, 3) := by decide +kernel
theorem dX4_ofHour_5 : decode cX4_ofHour 5 = .ok (.ifCond .eq 12, 3) := by decide +kernel
theorem dX4_ofHour_8 : decode cX4_ofHour 8 = .ok (.iload_n 2, 1) := by decide +kernel
theorem dX4_ofHour_9 : decode cX4_ofHour 9 = .ok (.iconst 0, 1) := by decide +kernel
theorem dX4_ofHour_10 : decode cX4_ofHour 10 = .ok (.iconst 3, 1) := by decide +kernel
theorem dX4_ofHour_11 : decode cX4_ofHour 11 = .ok (.invokestatic 41, 3) := by decide +kernel
theorem dX4_ofHour_14 : decode cX4_ofHour 14 = .ok (.ifCond .ne 13, 3) := by decide +kernel
theorem dX4_ofHour_17 : decode cX4_ofHour 17 = .ok (.new 68, 3) := by decide +kernel
theorem dX4_ofHour_20 : decode cX4_ofHour 20 = .ok (.dup, 1) := by decide +kernel
theorem dX4_ofHour_21 : decode cX4_ofHour 21 = .ok (.ldc 168, 2) := by decide +kernel
theorem dX4_ofHour_23 : decode cX4_ofHour 23 = .ok (.invokespecial 72, 3) := by decide +kernel
theorem dX4_ofHour_26 : decode cX4_ofHour 26 = .ok (.athrow, 1) := by decide +kernel
theorem dX4_ofHour_27 : decode cX4_ofHour 27 = .ok (.iload_n 2, 1) := by decide +kernel
theorem dX4_ofHour_28 : decode cX4_ofHour 28 = .ok (.tableswitch 55 0 2 #[28, 37, 46], 28) := by decide +kernel
theorem dX4_ofHour_56 : decode cX4_ofHour 56 = .ok (.aload_n 0, 1) := by decide +kernel
theorem dX4_ofHour_57 : decode cX4_ofHour 57 = .ok (.getfield 33, 3) := by decide +kernel
theorem dX4_ofHour_60 : decode cX4_ofHour 60 = .ok (.iload_n 1, 1) := by decide +kernel
theorem dX4_ofHour_61 : decode cX4_ofHour 61 = .ok (.invokevirtual 170, 3) := by decide +kernel
theorem dX4_ofHour_64 : decode cX4_ofHour 64 = .ok (.ireturn, 1) := by decide +kernel
theorem dX4_ofHour_65 : decode cX4_ofHour 65 = .ok (.aload_n 0, 1) := by decide +kernel
theorem dX4_ofHour_66 : decode cX4_ofHour 66 = .ok (.getfield 33, 3) := by decide +kernel
theorem dX4_ofHour_69 : decode cX4_ofHour 69 = .ok (.iload_n 1, 1) := by decide +kernel
theorem dX4_ofHour_70 : decode cX4_ofHour 70 = .ok (.invokevirtual 173, 3) := by decide +kernel
theorem dX4_ofHour_73 : decode cX4_ofHour 73 = .ok (.ireturn, 1) := by decide +kernel
theorem dX4_ofHour_74 : decode cX4_ofHour 74 = .ok (.aload_n 0, 1) := by decide +kernel
theorem dX4_ofHour_75 : decode cX4_ofHour 75 = .ok (.getfield 33, 3) := by decide +kernel
theorem dX4_ofHour_78 : decode cX4_ofHour 78 = .ok (.iload_n 1, 1) := by decide +kernel
theorem dX4_ofHour_79 : decode cX4_ofHour 79 = .ok (.invokevirtual 176, 3) := by decide +kernel
theorem dX4_ofHour_82 : decode cX4_ofHour 82 = .ok (.ireturn, 1) := by decide +kernel
theorem dX4_ofHour_83 : decode cX4_ofHour 83 = .ok (.aload_n 0, 1) := by decide +kernel
theorem dX4_ofHour_84 : decode cX4_ofHour 84 = .ok (.getfield 33, 3) := by decide +kernel
theorem dX4_ofHour_87 : decode cX4_ofHour 87 = .ok (.iload_n 1, 1) := by decide +kernel
theorem dX4_ofHour_88 : decode cX4_ofHour 88 = .ok (.invokevirtual 179, 3) := by decide +kernel
theorem dX4_ofHour_91 : decode cX4_ofHour 91 = .ok (.ireturn, 1) := by decide +kernel
set_option maxRecDepth 20000 in
theorem ggX4_ratio_X4_isOver : GoodIn wsX4_ratio wsX4_isOver := goodIn_r _ [8, 9, 10, 11, 7, 12, 24, 25, 26, 27, 28] (by decide +kernel) (by decide +kernel)
set_option maxRecDepth 20000 in
theorem gX4_ratio_X4_isOver : GoodIn wsX4_ratio (wsV RX4 165 RX4 yX4_isOver wsX4_isOver) := goodIn_app (goodIn_of _ (by decide +kernel)) ggX4_ratio_X4_isOver
set_option maxRecDepth 20000 in
theorem ggX4_ratio_X2_madeToSold : GoodIn wsX4_ratio wsX2_madeToSold := goodIn_r _ [17, 18, 19, 20, 21, 16, 22, 23, 29, 30, 31, 32] (by decide +kernel) (by decide +kernel)
set_option maxRecDepth 20000 in
theorem gX4_ratio_X2_madeToSold : GoodIn wsX4_ratio (wsV RX4 182 RX2 yX2_madeToSold wsX2_madeToSold) := goodIn_app (goodIn_of _ (by decide +kernel)) ggX4_ratio_X2_madeToSold
theorem dX4_ratio_0 : decode cX4_ratio 0 = .ok (.aload_n 0, 1) := by decide +kernel
theorem dX4_ratio_1 : decode cX4_ratio 1 = .ok (.iload_n 1, 1) := by decide +kernel
theorem dX4_ratio_2 : decode cX4_ratio 2 = .ok (.invokevirtual 165, 3) := by decide +kernel
theorem dX4_ratio_5 : decode cX4_ratio 5 = .ok (.ifCond .ne 13, 3) := by decide +kernel
theorem dX4_ratio_8 : decode cX4_ratio 8 = .ok (.new 68, 3) := by decide +kernel
theorem dX4_ratio_11 : decode cX4_ratio 11 = .ok (.dup, 1) := by decide +kernel
theorem dX4_ratio_12 : decode cX4_ratio 12 = .ok (.ldc 156, 2) := by decide +kernel
theorem dX4_ratio_14 : decode cX4_ratio 14 = .ok (.invokespecial 72, 3) := by decide +kernel
theorem dX4_ratio_17 : decode cX4_ratio 17 = .ok (.athrow, 1) := by decide +kernel
theorem dX4_ratio_18 : decode cX4_ratio 18 = .ok (.aload_n 0, 1) := by decide +kernel
theorem dX4_ratio_19 : decode cX4_ratio 19 = .ok (.getfield 33, 3) := by decide +kernel
theorem dX4_ratio_22 : decode cX4_ratio 22 = .ok (.iload_n 1, 1) := by decide +kernel
theorem dX4_ratio_23 : decode cX4_ratio 23 = .ok (.invokevirtual 182, 3) := by decide +kernel
theorem dX4_ratio_26 : decode cX4_ratio 26 = .ok (.freturn, 1) := by decide +kernel
set_option maxRecDepth 20000 in
theorem ggX4_ofBoat_X4_isBoat : GoodIn wsX4_ofBoat wsX4_isBoat := goodIn_r _ [9, 10, 11, 8, 12] (by decide +kernel) (by decide +kernel)
set_option maxRecDepth 20000 in
theorem gX4_ofBoat_X4_isBoat : GoodIn wsX4_ofBoat (va_wsS RX4 104 yX4_isBoat wsX4_isBoat) := goodIn_app (goodIn_of _ (by decide +kernel)) ggX4_ofBoat_X4_isBoat
set_option maxRecDepth 20000 in
theorem ggX4_ofBoat_X4_isWithin : GoodIn wsX4_ofBoat wsX4_isWithin := goodIn_r _ [12] (by decide +kernel) (by decide +kernel)
set_option maxRecDepth 20000 in
theorem gX4_ofBoat_X4_isWithin : GoodIn wsX4_ofBoat (va_wsS RX4 41 yX4_isWithin wsX4_isWithin) := goodIn_app (goodIn_of _ (by decide +kernel)) ggX4_ofBoat_X4_isWithin
set_option maxRecDepth 20000 in
theorem ggX4_ofBoat_X1_turbineOf : GoodIn wsX4_ofBoat wsX1_turbineOf := goodIn_r _ [17, 18, 39, 40, 41, 42, 43] (by decide +kernel) (by decide +kernel)
set_option maxRecDepth 20000 in
theorem gX4_ofBoat_X1_turbineOf : GoodIn wsX4_ofBoat (wsV RX4 188 RX1 yX1_turbineOf wsX1_turbineOf) := goodIn_app (goodIn_of _ (by decide +kernel)) ggX4_ofBoat_X1_turbineOf
set_option maxRecDepth 20000 in
theorem ggX4_ofBoat_X1_hoursLeft : GoodIn wsX4_ofBoat wsX1_hoursLeft := goodIn_r _ [22, 23, 39, 40, 41, 42, 43] (by decide +kernel) (by decide +kernel)
set_option maxRecDepth 20000 in
theorem gX4_ofBoat_X1_hoursLeft : GoodIn wsX4_ofBoat (wsV RX4 191 RX1 yX1_hoursLeft wsX1_hoursLeft) := goodIn_app (goodIn_of _ (by decide +kernel)) ggX4_ofBoat_X1_hoursLeft
set_option maxRecDepth 20000 in
theorem ggX4_ofBoat_X1_workedToday : GoodIn wsX4_ofBoat wsX1_workedToday := goodIn_r _ [27, 28, 39, 40, 41, 42, 43] (by decide +kernel) (by decide +kernel)
set_option maxRecDepth 20000 in
theorem gX4_ofBoat_X1_workedToday : GoodIn wsX4_ofBoat (wsV RX4 194 RX1 yX1_workedToday wsX1_workedToday) := goodIn_app (goodIn_of _ (by decide +kernel)) ggX4_ofBoat_X1_workedToday
set_option maxRecDepth 20000 in
theorem ggX4_ofBoat_X1_workedInAll : GoodIn wsX4_ofBoat wsX1_workedInAll := goodIn_r _ [32, 33, 39, 40, 41, 42, 43] (by decide +kernel) (by decide +kernel)
set_option maxRecDepth 20000 in
theorem gX4_ofBoat_X1_workedInAll : GoodIn wsX4_ofBoat (wsV RX4 197 RX1 yX1_workedInAll wsX1_workedInAll) := goodIn_app (goodIn_of _ (by decide +kernel)) ggX4_ofBoat_X1_workedInAll
theorem dX4_ofBoat_0 : decode cX4_ofBoat 0 = .ok (.iload_n 1, 1) := by decide +kernel
theorem dX4_ofBoat_1 : decode cX4_ofBoat 1 = .ok (.invokestatic 104, 3) := by decide +kernel
theorem dX4_ofBoat_4 : decode cX4_ofBoat 4 = .ok (.ifCond .ne 13, 3) := by decide +kernel
theorem dX4_ofBoat_7 : decode cX4_ofBoat 7 = .ok (.new 45, 3) := by decide +kernel
theorem dX4_ofBoat_10 : decode cX4_ofBoat 10 = .ok (.dup, 1) := by decide +kernel
theorem dX4_ofBoat_11 : decode cX4_ofBoat 11 = .ok (.ldc 107, 2) := by decide +kernel
theorem dX4_ofBoat_13 : decode cX4_ofBoat 13 = .ok (.invokespecial 49, 3) := by decide +kernel
theorem dX4_ofBoat_16 : decode cX4_ofBoat 16 = .ok (.athrow, 1) := by decide +kernel
theorem dX4_ofBoat_17 : decode cX4_ofBoat 17 = .ok (.iload_n 2, 1) := by decide +kernel
theorem dX4_ofBoat_18 : decode cX4_ofBoat 18 = .ok (.iconst 0, 1) := by decide +kernel
theorem dX4_ofBoat_19 : decode cX4_ofBoat 19 = .ok (.iconst 3, 1) := by decide +kernel
theorem dX4_ofBoat_20 : decode cX4_ofBoat 20 = .ok (.invokestatic 41, 3) := by decide +kernel
theorem dX4_ofBoat_23 : decode cX4_ofBoat 23 = .ok (.ifCond .ne 13, 3) := by decide +kernel
theorem dX4_ofBoat_26 : decode cX4_ofBoat 26 = .ok (.new 68, 3) := by decide +kernel
theorem dX4_ofBoat_29 : decode cX4_ofBoat 29 = .ok (.dup, 1) := by decide +kernel
theorem dX4_ofBoat_30 : decode cX4_ofBoat 30 = .ok (.ldc 186, 2) := by decide +kernel
theorem dX4_ofBoat_32 : decode cX4_ofBoat 32 = .ok (.invokespecial 72, 3) := by decide +kernel
theorem dX4_ofBoat_35 : decode cX4_ofBoat 35 = .ok (.athrow, 1) := by decide +kernel
theorem dX4_ofBoat_36 : decode cX4_ofBoat 36 = .ok (.iload_n 2, 1) := by decide +kernel
theorem dX4_ofBoat_37 : decode cX4_ofBoat 37 = .ok (.tableswitch 54 0 2 #[27, 36, 45], 27) := by decide +kernel
theorem dX4_ofBoat_64 : decode cX4_ofBoat 64 = .ok (.aload_n 0, 1) := by decide +kernel
theorem dX4_ofBoat_65 : decode cX4_ofBoat 65 = .ok (.getfield 26, 3) := by decide +kernel
theorem dX4_ofBoat_68 : decode cX4_ofBoat 68 = .ok (.iload_n 1, 1) := by decide +kernel
theorem dX4_ofBoat_69 : decode cX4_ofBoat 69 = .ok (.invokevirtual 188, 3) := by decide +kernel
theorem dX4_ofBoat_72 : decode cX4_ofBoat 72 = .ok (.ireturn, 1) := by decide +kernel
theorem dX4_ofBoat_73 : decode cX4_ofBoat 73 = .ok (.aload_n 0, 1) := by decide +kernel
theorem dX4_ofBoat_74 : decode cX4_ofBoat 74 = .ok (.getfield 26, 3) := by decide +kernel
theorem dX4_ofBoat_77 : decode cX4_ofBoat 77 = .ok (.iload_n 1, 1) := by decide +kernel
theorem dX4_ofBoat_78 : decode cX4_ofBoat 78 = .ok (.invokevirtual 191, 3) := by decide +kernel
theorem dX4_ofBoat_81 : decode cX4_ofBoat 81 = .ok (.ireturn, 1) := by decide +kernel
theorem dX4_ofBoat_82 : decode cX4_ofBoat 82 = .ok (.aload_n 0, 1) := by decide +kernel
theorem dX4_ofBoat_83 : decode cX4_ofBoat 83 = .ok (.getfield 26, 3) := by decide +kernel
theorem dX4_ofBoat_86 : decode cX4_ofBoat 86 = .ok (.iload_n 1, 1) := by decide +kernel
theorem dX4_ofBoat_87 : decode cX4_ofBoat 87 = .ok (.invokevirtual 194, 3) := by decide +kernel
theorem dX4_ofBoat_90 : decode cX4_ofBoat 90 = .ok (.ireturn, 1) := by decide +kernel
theorem dX4_ofBoat_91 : decode cX4_ofBoat 91 = .ok (.aload_n 0, 1) := by decide +kernel
theorem dX4_ofBoat_92 : decode cX4_ofBoat 92 = .ok (.getfield 26, 3) := by decide +kernel
theorem dX4_ofBoat_95 : decode cX4_ofBoat 95 = .ok (.iload_n 1, 1) := by decide +kernel
theorem dX4_ofBoat_96 : decode cX4_ofBoat 96 = .ok (.invokevirtual 197, 3) := by decide +kernel
theorem dX4_ofBoat_99 : decode cX4_ofBoat 99 = .ok (.ireturn, 1) := by decide +kernel
set_option maxRecDepth 20000 in
theorem ggX4_ofTurbine_X0_has : GoodIn wsX4_ofTurbine wsX0_has := goodIn_r _ [10, 11, 12, 13, 14, 36, 37, 38, 39, 40, 41, 42] (by decide +kernel) (by decide +kernel)
set_option maxRecDepth 20000 in
theorem gX4_ofTurbine_X0_has : GoodIn wsX4_ofTurbine (wsV RX4 86 RX0 yX0_has wsX0_has) := goodIn_app (goodIn_of _ (by decide +kernel)) ggX4_ofTurbine_X0_has
set_option maxRecDepth 20000 in
theorem ggX4_ofTurbine_X4_isWithin : GoodIn wsX4_ofTurbine wsX4_isWithin := goodIn_r _ [14] (by decide +kernel) (by decide +kernel)
set_option maxRecDepth 20000 in
theorem gX4_ofTurbine_X4_isWithin : GoodIn wsX4_ofTurbine (va_wsS RX4 41 yX4_isWithin wsX4_isWithin) := goodIn_app (goodIn_of _ (by decide +kernel)) ggX4_ofTurbine_X4_isWithin
set_option maxRecDepth 20000 in
theorem ggX4_ofTurbine_X0_placeOf : GoodIn wsX4_ofTurbine wsX0_placeOf := goodIn_r _ [19, 20, 36, 37, 38, 39, 40, 41, 42] (by decide +kernel) (by decide +kernel)
set_option maxRecDepth 20000 in
theorem gX4_ofTurbine_X0_placeOf : GoodIn wsX4_ofTurbine (wsV RX4 200 RX0 yX0_placeOf wsX0_placeOf) := goodIn_app (goodIn_of _ (by decide +kernel)) ggX4_ofTurbine_X0_placeOf
set_option maxRecDepth 20000 in
theorem ggX4_ofTurbine_X0_isBroken : GoodIn wsX4_ofTurbine wsX0_isBroken := goodIn_r _ [24, 25, 36, 37, 38, 39, 40, 41, 42] (by decide +kernel) (by decide +kernel)
set_option maxRecDepth 20000 in
theorem gX4_ofTurbine_X0_isBroken : GoodIn wsX4_ofTurbine (wsV RX4 91 RX0 yX0_isBroken wsX0_isBroken) := goodIn_app (goodIn_of _ (by decide +kernel)) ggX4_ofTurbine_X0_isBroken
set_option maxRecDepth 20000 in
theorem ggX4_ofTurbine_X0_madeInAllBy : GoodIn wsX4_ofTurbine wsX0_madeInAllBy := goodIn_r _ [29, 30, 36, 37, 38, 39, 40, 41, 42] (by decide +kernel) (by decide +kernel)
set_option maxRecDepth 20000 in
theorem gX4_ofTurbine_X0_madeInAllBy : GoodIn wsX4_ofTurbine (wsV RX4 203 RX0 yX0_madeInAllBy wsX0_madeInAllBy) := goodIn_app (goodIn_of _ (by decide +kernel)) ggX4_ofTurbine_X0_madeInAllBy
theorem dX4_ofTurbine_0 : decode cX4_ofTurbine 0 = .ok (.aload_n 0, 1) := by decide +kernel
theorem dX4_ofTurbine_1 : decode cX4_ofTurbine 1 = .ok (.getfield 19, 3) := by decide +kernel
theorem dX4_ofTurbine_4 : decode cX4_ofTurbine 4 = .ok (.iload_n 1, 1) := by decide +kernel
theorem dX4_ofTurbine_5 : decode cX4_ofTurbine 5 = .ok (.invokevirtual 86, 3) := by decide +kernel
theorem dX4_ofTurbine_8 : decode cX4_ofTurbine 8 = .ok (.ifCond .ne 13, 3) := by decide +kernel
theorem dX4_ofTurbine_11 : decode cX4_ofTurbine 11 = .ok (.new 45, 3) := by decide +kernel
theorem dX4_ofTurbine_14 : decode cX4_ofTurbine 14 = .ok (.dup, 1) := by decide +kernel
theorem dX4_ofTurbine_15 : decode cX4_ofTurbine 15 = .ok (.ldc 89, 2) := by decide +kernel
theorem dX4_ofTurbine_17 : decode cX4_ofTurbine 17 = .ok (.invokespecial 49, 3) := by decide +kernel
theorem dX4_ofTurbine_20 : decode cX4_ofTurbine 20 = .ok (.athrow, 1) := by decide +kernel
theorem dX4_ofTurbine_21 : decode cX4_ofTurbine 21 = .ok (.iload_n 2, 1) := by decide +kernel
theorem dX4_ofTurbine_22 : decode cX4_ofTurbine 22 = .ok (.iconst 0, 1) := by decide +kernel
theorem dX4_ofTurbine_23 : decode cX4_ofTurbine 23 = .ok (.iconst 2, 1) := by decide +kernel
theorem dX4_ofTurbine_24 : decode cX4_ofTurbine 24 = .ok (.invokestatic 41, 3) := by decide +kernel
theorem dX4_ofTurbine_27 : decode cX4_ofTurbine 27 = .ok (.ifCond .ne 13, 3) := by decide +kernel
theorem dX4_ofTurbine_30 : decode cX4_ofTurbine 30 = .ok (.new 68, 3) := by decide +kernel
theorem dX4_ofTurbine_33 : decode cX4_ofTurbine 33 = .ok (.dup, 1) := by decide +kernel
theorem dX4_ofTurbine_34 : decode cX4_ofTurbine 34 = .ok (.ldc 186, 2) := by decide +kernel
theorem dX4_ofTurbine_36 : decode cX4_ofTurbine 36 = .ok (.invokespecial 72, 3) := by decide +kernel
theorem dX4_ofTurbine_39 : decode cX4_ofTurbine 39 = .ok (.athrow, 1) := by decide +kernel
theorem dX4_ofTurbine_40 : decode cX4_ofTurbine 40 = .ok (.iload_n 2, 1) := by decide +kernel
theorem dX4_ofTurbine_41 : decode cX4_ofTurbine 41 = .ok (.lookupswitch 53 #[(0, 27), (1, 36)], 27) := by decide +kernel
theorem dX4_ofTurbine_68 : decode cX4_ofTurbine 68 = .ok (.aload_n 0, 1) := by decide +kernel
theorem dX4_ofTurbine_69 : decode cX4_ofTurbine 69 = .ok (.getfield 19, 3) := by decide +kernel
theorem dX4_ofTurbine_72 : decode cX4_ofTurbine 72 = .ok (.iload_n 1, 1) := by decide +kernel
theorem dX4_ofTurbine_73 : decode cX4_ofTurbine 73 = .ok (.invokevirtual 200, 3) := by decide +kernel
theorem dX4_ofTurbine_76 : decode cX4_ofTurbine 76 = .ok (.ireturn, 1) := by decide +kernel
theorem dX4_ofTurbine_77 : decode cX4_ofTurbine 77 = .ok (.aload_n 0, 1) := by decide +kernel
theorem dX4_ofTurbine_78 : decode cX4_ofTurbine 78 = .ok (.getfield 19, 3) := by decide +kernel
theorem dX4_ofTurbine_81 : decode cX4_ofTurbine 81 = .ok (.iload_n 1, 1) := by decide +kernel
theorem dX4_ofTurbine_82 : decode cX4_ofTurbine 82 = .ok (.invokevirtual 91, 3) := by decide +kernel
theorem dX4_ofTurbine_85 : decode cX4_ofTurbine 85 = .ok (.ifCond .eq 7, 3) := by decide +kernel
theorem dX4_ofTurbine_88 : decode cX4_ofTurbine 88 = .ok (.iconst 1, 1) := by decide +kernel
theorem dX4_ofTurbine_89 : decode cX4_ofTurbine 89 = .ok (.goto 4, 3) := by decide +kernel
theorem dX4_ofTurbine_92 : decode cX4_ofTurbine 92 = .ok (.iconst 0, 1) := by decide +kernel
theorem dX4_ofTurbine_93 : decode cX4_ofTurbine 93 = .ok (.ireturn, 1) := by decide +kernel
theorem dX4_ofTurbine_94 : decode cX4_ofTurbine 94 = .ok (.aload_n 0, 1) := by decide +kernel
theorem dX4_ofTurbine_95 : decode cX4_ofTurbine 95 = .ok (.getfield 19, 3) := by decide +kernel
theorem dX4_ofTurbine_98 : decode cX4_ofTurbine 98 = .ok (.iload_n 1, 1) := by decide +kernel
theorem dX4_ofTurbine_99 : decode cX4_ofTurbine 99 = .ok (.invokevirtual 203, 3) := by decide +kernel
theorem dX4_ofTurbine_102 : decode cX4_ofTurbine 102 = .ok (.ireturn, 1) := by decide +kernel
set_option maxRecDepth 20000 in
theorem ggX4_brought_X2_proceedsInAll : GoodIn wsX4_brought wsX2_proceedsInAll := goodIn_r _ [6, 7, 13, 14, 15, 16] (by decide +kernel) (by decide +kernel)
set_option maxRecDepth 20000 in
theorem gX4_brought_X2_proceedsInAll : GoodIn wsX4_brought (wsV RX4 206 RX2 yX2_proceedsInAll wsX2_proceedsInAll) := goodIn_app (goodIn_of _ (by decide +kernel)) ggX4_brought_X2_proceedsInAll
theorem dX4_brought_0 : decode cX4_brought 0 = .ok (.aload_n 0, 1) := by decide +kernel
theorem dX4_brought_1 : decode cX4_brought 1 = .ok (.getfield 33, 3) := by decide +kernel
theorem dX4_brought_4 : decode cX4_brought 4 = .ok (.invokevirtual 206, 3) := by decide +kernel
theorem dX4_brought_7 : decode cX4_brought 7 = .ok (.lreturn, 1) := by decide +kernel
theorem dX4_isWithin_0 : decode cX4_isWithin 0 = .ok (.iload_n 0, 1) := by decide +kernel
theorem dX4_isWithin_1 : decode cX4_isWithin 1 = .ok (.iload_n 1, 1) := by decide +kernel
theorem dX4_isWithin_2 : decode cX4_isWithin 2 = .ok (.if_icmp .lt 12, 3) := by decide +kernel
theorem dX4_isWithin_5 : decode cX4_isWithin 5 = .ok (.iload_n 0, 1) := by decide +kernel
theorem dX4_isWithin_6 : decode cX4_isWithin 6 = .ok (.iload_n 2, 1) := by decide +kernel
theorem dX4_isWithin_7 : decode cX4_isWithin 7 = .ok (.if_icmp .gt 7, 3) := by decide +kernel
theorem dX4_isWithin_10 : decode cX4_isWithin 10 = .ok (.iconst 1, 1) := by decide +kernel
theorem dX4_isWithin_11 : decode cX4_isWithin 11 = .ok (.goto 4, 3) := by decide +kernel
theorem dX4_isWithin_14 : decode cX4_isWithin 14 = .ok (.iconst 0, 1) := by decide +kernel
theorem dX4_isWithin_15 : decode cX4_isWithin 15 = .ok (.ireturn, 1) := by decide +kernel
set_option maxRecDepth 20000 in
theorem ggX4_isBoat_X4_isWithin : GoodIn wsX4_isBoat wsX4_isWithin := goodIn_r _ [4] (by decide +kernel) (by decide +kernel)
set_option maxRecDepth 20000 in
theorem gX4_isBoat_X4_isWithin : GoodIn wsX4_isBoat (va_wsS RX4 41 yX4_isWithin wsX4_isWithin) := goodIn_app (goodIn_of _ (by decide +kernel)) ggX4_isBoat_X4_isWithin
theorem dX4_isBoat_0 : decode cX4_isBoat 0 = .ok (.iload_n 0, 1) := by decide +kernel
theorem dX4_isBoat_1 : decode cX4_isBoat 1 = .ok (.iconst 0, 1) := by decide +kernel
theorem dX4_isBoat_2 : decode cX4_isBoat 2 = .ok (.iconst 2, 1) := by decide +kernel
theorem dX4_isBoat_3 : decode cX4_isBoat 3 = .ok (.invokestatic 41, 3) := by decide +kernel
theorem dX4_isBoat_6 : decode cX4_isBoat 6 = .ok (.ireturn, 1) := by decide +kernel
set_option maxRecDepth 20000 in
theorem ggX4_isToCome_X4_isWithin : GoodIn wsX4_isToCome wsX4_isWithin := goodIn_r _ [5] (by decide +kernel) (by decide +kernel)
set_option maxRecDepth 20000 in
theorem gX4_isToCome_X4_isWithin : GoodIn wsX4_isToCome (va_wsS RX4 41 yX4_isWithin wsX4_isWithin) := goodIn_app (goodIn_of _ (by decide +kernel)) ggX4_isToCome_X4_isWithin
theorem dX4_isToCome_0 : decode cX4_isToCome 0 = .ok (.iload_n 1, 1) := by decide +kernel
theorem dX4_isToCome_1 : decode cX4_isToCome 1 = .ok (.aload_n 0, 1) := by decide +kernel
theorem dX4_isToCome_2 : decode cX4_isToCome 2 = .ok (.getfield 37, 3) := by decide +kernel
theorem dX4_isToCome_5 : decode cX4_isToCome 5 = .ok (.sipush 479, 3) := by decide +kernel
theorem dX4_isToCome_8 : decode cX4_isToCome 8 = .ok (.invokestatic 41, 3) := by decide +kernel
theorem dX4_isToCome_11 : decode cX4_isToCome 11 = .ok (.ireturn, 1) := by decide +kernel
set_option maxRecDepth 20000 in
theorem ggX4_isOver_X4_isWithin : GoodIn wsX4_isOver wsX4_isWithin := goodIn_r _ [5] (by decide +kernel) (by decide +kernel)
set_option maxRecDepth 20000 in
theorem gX4_isOver_X4_isWithin : GoodIn wsX4_isOver (va_wsS RX4 41 yX4_isWithin wsX4_isWithin) := goodIn_app (goodIn_of _ (by decide +kernel)) ggX4_isOver_X4_isWithin
theorem dX4_isOver_0 : decode cX4_isOver 0 = .ok (.iload_n 1, 1) := by decide +kernel
theorem dX4_isOver_1 : decode cX4_isOver 1 = .ok (.iconst 0, 1) := by decide +kernel
theorem dX4_isOver_2 : decode cX4_isOver 2 = .ok (.aload_n 0, 1) := by decide +kernel
theorem dX4_isOver_3 : decode cX4_isOver 3 = .ok (.getfield 37, 3) := by decide +kernel
theorem dX4_isOver_6 : decode cX4_isOver 6 = .ok (.iconst 1, 1) := by decide +kernel
theorem dX4_isOver_7 : decode cX4_isOver 7 = .ok (.isub, 1) := by decide +kernel
theorem dX4_isOver_8 : decode cX4_isOver 8 = .ok (.invokestatic 41, 3) := by decide +kernel
theorem dX4_isOver_11 : decode cX4_isOver 11 = .ok (.ireturn, 1) := by decide +kernel
set_option maxRecDepth 20000 in
theorem ggX4_liveHour_X4_workOnRepairs : GoodIn wsX4_liveHour wsX4_workOnRepairs := goodIn_r _ [10, 4, 2, 5, 3, 11, 12, 13, 14, 15, 16, 17, 18, 19, 20, 21, 22, 23, 24, 25, 26, 27, 28, 29, 30, 31, 32, 33, 34, 35, 36, 37, 38, 39, 40, 41, 42, 43, 44, 45, 46, 47, 48, 49, 50, 51, 52, 53, 54, 55, 56, 57, 9, 58, 152, 153, 154, 155, 156, 157, 158, 159, 160, 161, 162, 163, 164, 165, 166, 167, 168, 169, 170, 171] (by decide +kernel) (by decide +kernel)
set_option maxRecDepth 20000 in
theorem gX4_liveHour_X4_workOnRepairs : GoodIn wsX4_liveHour (wsV RX4 210 RX4 yX4_workOnRepairs wsX4_workOnRepairs) := goodIn_app (goodIn_of _ (by decide +kernel)) ggX4_liveHour_X4_workOnRepairs
set_option maxRecDepth 20000 in
theorem ggX4_liveHour_X3_speedIn : GoodIn wsX4_liveHour wsX3_speedIn := goodIn_r _ [62, 17, 157, 158, 159] (by decide +kernel) (by decide +kernel)
set_option maxRecDepth 20000 in
theorem gX4_liveHour_X3_speedIn : GoodIn wsX4_liveHour (wsV RX4 146 RX3 yX3_speedIn wsX3_speedIn) := goodIn_app (goodIn_of _ (by decide +kernel)) ggX4_liveHour_X3_speedIn
set_option maxRecDepth 20000 in
theorem ggX4_liveHour_X3_isWestIn : GoodIn wsX4_liveHour wsX3_isWestIn := goodIn_r _ [66, 67, 157, 158, 159] (by decide +kernel) (by decide +kernel)
set_option maxRecDepth 20000 in
theorem gX4_liveHour_X3_isWestIn : GoodIn wsX4_liveHour (wsV RX4 149 RX3 yX3_isWestIn wsX3_isWestIn) := goodIn_app (goodIn_of _ (by decide +kernel)) ggX4_liveHour_X3_isWestIn
set_option maxRecDepth 20000 in
theorem ggX4_liveHour_X0_generate : GoodIn wsX4_liveHour wsX0_generate := goodIn_r _ [71, 56, 72, 73, 74, 75, 43, 76, 77, 78, 79, 80, 81, 51, 82, 83, 84, 85, 45, 86, 87, 88, 89, 90, 91, 92, 93, 94, 95, 96, 97, 98, 99, 100, 101, 102, 103, 104, 105, 57, 9, 58, 165, 166, 167, 168, 169, 170, 171] (by decide +kernel) (by decide +kernel)
set_option maxRecDepth 20000 in
theorem gX4_liveHour_X0_generate : GoodIn wsX4_liveHour (wsV RX4 213 RX0 yX0_generate wsX0_generate) := goodIn_app (goodIn_of _ (by decide +kernel)) ggX4_liveHour_X0_generate
set_option maxRecDepth 20000 in
theorem ggX4_liveHour_X2_endHour : GoodIn wsX4_liveHour wsX2_endHour := goodIn_r _ [110, 111, 112, 113, 114, 115, 109, 116, 117, 118, 119, 120, 121, 122, 123, 124, 125, 126, 172, 173, 174, 175] (by decide +kernel) (by decide +kernel)
set_option maxRecDepth 20000 in
theorem gX4_liveHour_X2_endHour : GoodIn wsX4_liveHour (wsV RX4 216 RX2 yX2_endHour wsX2_endHour) := goodIn_app (goodIn_of _ (by decide +kernel)) ggX4_liveHour_X2_endHour
set_option maxRecDepth 20000 in
theorem ggX4_liveHour_X0_endStillness : GoodIn wsX4_liveHour wsX0_endStillness := goodIn_r _ [130, 56, 51, 165, 166, 167, 168, 169, 170, 171] (by decide +kernel) (by decide +kernel)
set_option maxRecDepth 20000 in
theorem gX4_liveHour_X0_endStillness : GoodIn wsX4_liveHour (wsV RX4 219 RX0 yX0_endStillness wsX0_endStillness) := goodIn_app (goodIn_of _ (by decide +kernel)) ggX4_liveHour_X0_endStillness
set_option maxRecDepth 20000 in
theorem ggX4_liveHour_X4_endRepairs : GoodIn wsX4_liveHour wsX4_endRepairs := goodIn_r _ [134, 5, 3, 135, 136, 137, 21, 138, 34, 25, 26, 27, 28, 29, 36, 37, 38, 39, 139, 140, 141, 43, 142, 81, 143, 144, 145, 146, 147, 152, 153, 154, 155, 156, 160, 161, 162, 163, 164, 165, 166, 167, 168, 169, 170, 171] (by decide +kernel) (by decide +kernel)
set_option maxRecDepth 20000 in
theorem gX4_liveHour_X4_endRepairs : GoodIn wsX4_liveHour (wsV RX4 222 RX4 yX4_endRepairs wsX4_endRepairs) := goodIn_app (goodIn_of _ (by decide +kernel)) ggX4_liveHour_X4_endRepairs
set_option maxRecDepth 20000 in
theorem ggX4_liveHour_X1_beginDay : GoodIn wsX4_liveHour wsX1_beginDay := goodIn_r _ [151, 23, 160, 161, 162, 163, 164] (by decide +kernel) (by decide +kernel)
set_option maxRecDepth 20000 in
theorem gX4_liveHour_X1_beginDay : GoodIn wsX4_liveHour (wsV RX4 225 RX1 yX1_beginDay wsX1_beginDay) := goodIn_app (goodIn_of _ (by decide +kernel)) ggX4_liveHour_X1_beginDay
theorem dX4_liveHour_0 : decode cX4_liveHour 0 = .ok (.aload_n 0, 1) := by decide +kernel
theorem dX4_liveHour_1 : decode cX4_liveHour 1 = .ok (.invokevirtual 210, 3) := by decide +kernel
theorem dX4_liveHour_4 : decode cX4_liveHour 4 = .ok (.aload_n 0, 1) := by decide +kernel
theorem dX4_liveHour_5 : decode cX4_liveHour 5 = .ok (.getfield 33, 3) := by decide +kernel
theorem dX4_liveHour_8 : decode cX4_liveHour 8 = .ok (.aload_n 0, 1) := by decide +kernel
theorem dX4_liveHour_9 : decode cX4_liveHour 9 = .ok (.getfield 37, 3) := by decide +kernel
theorem dX4_liveHour_12 : decode cX4_liveHour 12 = .ok (.aload_n 0, 1) := by decide +kernel
theorem dX4_liveHour_13 : decode cX4_liveHour 13 = .ok (.getfield 19, 3) := by decide +kernel
theorem dX4_liveHour_16 : decode cX4_liveHour 16 = .ok (.aload_n 0, 1) := by decide +kernel
theorem dX4_liveHour_17 : decode cX4_liveHour 17 = .ok (.getfield 12, 3) := by decide +kernel
theorem dX4_liveHour_20 : decode cX4_liveHour 20 = .ok (.aload_n 0, 1) := by decide +kernel
theorem dX4_liveHour_21 : decode cX4_liveHour 21 = .ok (.getfield 37, 3) := by decide +kernel
theorem dX4_liveHour_24 : decode cX4_liveHour 24 = .ok (.invokevirtual 146, 3) := by decide +kernel
theorem dX4_liveHour_27 : decode cX4_liveHour 27 = .ok (.aload_n 0, 1) := by decide +kernel
theorem dX4_liveHour_28 : decode cX4_liveHour 28 = .ok (.getfield 12, 3) := by decide +kernel
theorem dX4_liveHour_31 : decode cX4_liveHour 31 = .ok (.aload_n 0, 1) := by decide +kernel
theorem dX4_liveHour_32 : decode cX4_liveHour 32 = .ok (.getfield 37, 3) := by decide +kernel
theorem dX4_liveHour_35 : decode cX4_liveHour 35 = .ok (.invokevirtual 149, 3) := by decide +kernel
theorem dX4_liveHour_38 : decode cX4_liveHour 38 = .ok (.invokevirtual 213, 3) := by decide +kernel
theorem dX4_liveHour_41 : decode cX4_liveHour 41 = .ok (.invokevirtual 216, 3) := by decide +kernel
theorem dX4_liveHour_44 : decode cX4_liveHour 44 = .ok (.aload_n 0, 1) := by decide +kernel
theorem dX4_liveHour_45 : decode cX4_liveHour 45 = .ok (.getfield 19, 3) := by decide +kernel
theorem dX4_liveHour_48 : decode cX4_liveHour 48 = .ok (.invokevirtual 219, 3) := by decide +kernel
theorem dX4_liveHour_51 : decode cX4_liveHour 51 = .ok (.aload_n 0, 1) := by decide +kernel
theorem dX4_liveHour_52 : decode cX4_liveHour 52 = .ok (.invokevirtual 222, 3) := by decide +kernel
theorem dX4_liveHour_55 : decode cX4_liveHour 55 = .ok (.aload_n 0, 1) := by decide +kernel
theorem dX4_liveHour_56 : decode cX4_liveHour 56 = .ok (.dup, 1) := by decide +kernel
theorem dX4_liveHour_57 : decode cX4_liveHour 57 = .ok (.getfield 37, 3) := by decide +kernel
theorem dX4_liveHour_60 : decode cX4_liveHour 60 = .ok (.iconst 1, 1) := by decide +kernel
theorem dX4_liveHour_61 : decode cX4_liveHour 61 = .ok (.iadd, 1) := by decide +kernel
theorem dX4_liveHour_62 : decode cX4_liveHour 62 = .ok (.putfield 37, 3) := by decide +kernel
theorem dX4_liveHour_65 : decode cX4_liveHour 65 = .ok (.aload_n 0, 1) := by decide +kernel
theorem dX4_liveHour_66 : decode cX4_liveHour 66 = .ok (.getfield 37, 3) := by decide +kernel
theorem dX4_liveHour_69 : decode cX4_liveHour 69 = .ok (.bipush 24, 2) := by decide +kernel
theorem dX4_liveHour_71 : decode cX4_liveHour 71 = .ok (.irem, 1) := by decide +kernel
theorem dX4_liveHour_72 : decode cX4_liveHour 72 = .ok (.ifCond .ne 10, 3) := by decide +kernel
theorem dX4_liveHour_75 : decode cX4_liveHour 75 = .ok (.aload_n 0, 1) := by decide +kernel
theorem dX4_liveHour_76 : decode cX4_liveHour 76 = .ok (.getfield 26, 3) := by decide +kernel
theorem dX4_liveHour_79 : decode cX4_liveHour 79 = .ok (.invokevirtual 225, 3) := by decide +kernel
theorem dX4_liveHour_82 : decode cX4_liveHour 82 = .ok (.return_, 1) := by decide +kernel
set_option maxRecDepth 20000 in
theorem ggX4_workOnRepairs_X3_wavesIn : GoodIn wsX4_workOnRepairs wsX3_wavesIn := goodIn_r _ [9, 10, 11, 59, 60, 61] (by decide +kernel) (by decide +kernel)
set_option maxRecDepth 20000 in
theorem gX4_workOnRepairs_X3_wavesIn : GoodIn wsX4_workOnRepairs (wsV RX4 79 RX3 yX3_wavesIn wsX3_wavesIn) := goodIn_app (goodIn_of _ (by decide +kernel)) ggX4_workOnRepairs_X3_wavesIn
set_option maxRecDepth 20000 in
theorem ggX4_workOnRepairs_X1_canWork : GoodIn wsX4_workOnRepairs wsX1_canWork := goodIn_r _ [16, 17, 18, 19, 20, 21, 15, 22, 23, 62, 63, 64, 65, 66] (by decide +kernel) (by decide +kernel)
set_option maxRecDepth 20000 in
theorem gX4_workOnRepairs_X1_canWork : GoodIn wsX4_workOnRepairs (wsV RX4 228 RX1 yX1_canWork wsX1_canWork) := goodIn_app (goodIn_of _ (by decide +kernel)) ggX4_workOnRepairs_X1_canWork
set_option maxRecDepth 20000 in
theorem ggX4_workOnRepairs_X1_workAnHour : GoodIn wsX4_workOnRepairs wsX1_workAnHour := goodIn_r _ [27, 28, 17, 29, 62, 63, 64, 65, 66] (by decide +kernel) (by decide +kernel)
set_option maxRecDepth 20000 in
theorem gX4_workOnRepairs_X1_workAnHour : GoodIn wsX4_workOnRepairs (wsV RX4 231 RX1 yX1_workAnHour wsX1_workAnHour) := goodIn_app (goodIn_of _ (by decide +kernel)) ggX4_workOnRepairs_X1_workAnHour
set_option maxRecDepth 20000 in
theorem ggX4_workOnRepairs_X1_turbineOf : GoodIn wsX4_workOnRepairs wsX1_turbineOf := goodIn_r _ [33, 23, 62, 63, 64, 65, 66] (by decide +kernel) (by decide +kernel)
set_option maxRecDepth 20000 in
theorem gX4_workOnRepairs_X1_turbineOf : GoodIn wsX4_workOnRepairs (wsV RX4 188 RX1 yX1_turbineOf wsX1_turbineOf) := goodIn_app (goodIn_of _ (by decide +kernel)) ggX4_workOnRepairs_X1_turbineOf
set_option maxRecDepth 20000 in
theorem ggX4_workOnRepairs_X0_stillBeside : GoodIn wsX4_workOnRepairs wsX0_stillBeside := goodIn_r _ [38, 39, 40, 41, 42, 37, 43, 44, 45, 46, 47, 48, 49, 50, 51, 52, 53, 67, 68, 69, 70, 71, 72, 73] (by decide +kernel) (by decide +kernel)
set_option maxRecDepth 20000 in
theorem gX4_workOnRepairs_X0_stillBeside : GoodIn wsX4_workOnRepairs (wsV RX4 234 RX0 yX0_stillBeside wsX0_stillBeside) := goodIn_app (goodIn_of _ (by decide +kernel)) ggX4_workOnRepairs_X0_stillBeside
theorem dX4_workOnRepairs_0 : decode cX4_workOnRepairs 0 = .ok (.aload_n 0, 1) := by decide +kernel
theorem dX4_workOnRepairs_1 : decode cX4_workOnRepairs 1 = .ok (.getfield 12, 3) := by decide +kernel
theorem dX4_workOnRepairs_4 : decode cX4_workOnRepairs 4 = .ok (.aload_n 0, 1) := by decide +kernel
theorem dX4_workOnRepairs_5 : decode cX4_workOnRepairs 5 = .ok (.getfield 37, 3) := by decide +kernel
theorem dX4_workOnRepairs_8 : decode cX4_workOnRepairs 8 = .ok (.invokevirtual 79, 3) := by decide +kernel
theorem dX4_workOnRepairs_11 : decode cX4_workOnRepairs 11 = .ok (.iconst 4, 1) := by decide +kernel
theorem dX4_workOnRepairs_12 : decode cX4_workOnRepairs 12 = .ok (.if_icmp .le 4, 3) := by decide +kernel
theorem dX4_workOnRepairs_15 : decode cX4_workOnRepairs 15 = .ok (.return_, 1) := by decide +kernel
theorem dX4_workOnRepairs_16 : decode cX4_workOnRepairs 16 = .ok (.iconst 0, 1) := by decide +kernel
theorem dX4_workOnRepairs_17 : decode cX4_workOnRepairs 17 = .ok (.istore_n 1, 1) := by decide +kernel
theorem dX4_workOnRepairs_18 : decode cX4_workOnRepairs 18 = .ok (.iload_n 1, 1) := by decide +kernel
theorem dX4_workOnRepairs_19 : decode cX4_workOnRepairs 19 = .ok (.iconst 3, 1) := by decide +kernel
theorem dX4_workOnRepairs_20 : decode cX4_workOnRepairs 20 = .ok (.if_icmp .ge 43, 3) := by decide +kernel
theorem dX4_workOnRepairs_23 : decode cX4_workOnRepairs 23 = .ok (.aload_n 0, 1) := by decide +kernel
theorem dX4_workOnRepairs_24 : decode cX4_workOnRepairs 24 = .ok (.getfield 26, 3) := by decide +kernel
theorem dX4_workOnRepairs_27 : decode cX4_workOnRepairs 27 = .ok (.iload_n 1, 1) := by decide +kernel
theorem dX4_workOnRepairs_28 : decode cX4_workOnRepairs 28 = .ok (.invokevirtual 228, 3) := by decide +kernel
theorem dX4_workOnRepairs_31 : decode cX4_workOnRepairs 31 = .ok (.ifCond .eq 26, 3) := by decide +kernel
theorem dX4_workOnRepairs_34 : decode cX4_workOnRepairs 34 = .ok (.aload_n 0, 1) := by decide +kernel
theorem dX4_workOnRepairs_35 : decode cX4_workOnRepairs 35 = .ok (.getfield 26, 3) := by decide +kernel
theorem dX4_workOnRepairs_38 : decode cX4_workOnRepairs 38 = .ok (.iload_n 1, 1) := by decide +kernel
theorem dX4_workOnRepairs_39 : decode cX4_workOnRepairs 39 = .ok (.invokevirtual 231, 3) := by decide +kernel
theorem dX4_workOnRepairs_42 : decode cX4_workOnRepairs 42 = .ok (.aload_n 0, 1) := by decide +kernel
theorem dX4_workOnRepairs_43 : decode cX4_workOnRepairs 43 = .ok (.getfield 19, 3) := by decide +kernel
theorem dX4_workOnRepairs_46 : decode cX4_workOnRepairs 46 = .ok (.aload_n 0, 1) := by decide +kernel
theorem dX4_workOnRepairs_47 : decode cX4_workOnRepairs 47 = .ok (.getfield 26, 3) := by decide +kernel
theorem dX4_workOnRepairs_50 : decode cX4_workOnRepairs 50 = .ok (.iload_n 1, 1) := by decide +kernel
theorem dX4_workOnRepairs_51 : decode cX4_workOnRepairs 51 = .ok (.invokevirtual 188, 3) := by decide +kernel
theorem dX4_workOnRepairs_54 : decode cX4_workOnRepairs 54 = .ok (.invokevirtual 234, 3) := by decide +kernel
theorem dX4_workOnRepairs_57 : decode cX4_workOnRepairs 57 = .ok (.iinc 1 1, 3) := by decide +kernel
theorem dX4_workOnRepairs_60 : decode cX4_workOnRepairs 60 = .ok (.goto (-42), 3) := by decide +kernel
theorem dX4_workOnRepairs_63 : decode cX4_workOnRepairs 63 = .ok (.return_, 1) := by decide +kernel
set_option maxRecDepth 20000 in
theorem ggX4_endRepairs_X1_hasEnded : GoodIn wsX4_endRepairs wsX1_hasEnded := goodIn_r _ [7, 8, 9, 10, 11, 6, 12, 13, 34, 35, 36, 37, 38] (by decide +kernel) (by decide +kernel)
set_option maxRecDepth 20000 in
theorem gX4_endRepairs_X1_hasEnded : GoodIn wsX4_endRepairs (wsV RX4 237 RX1 yX1_hasEnded wsX1_hasEnded) := goodIn_app (goodIn_of _ (by decide +kernel)) ggX4_endRepairs_X1_hasEnded
set_option maxRecDepth 20000 in
theorem ggX4_endRepairs_X1_turbineOf : GoodIn wsX4_endRepairs wsX1_turbineOf := goodIn_r _ [17, 13, 34, 35, 36, 37, 38] (by decide +kernel) (by decide +kernel)
set_option maxRecDepth 20000 in
theorem gX4_endRepairs_X1_turbineOf : GoodIn wsX4_endRepairs (wsV RX4 188 RX1 yX1_turbineOf wsX1_turbineOf) := goodIn_app (goodIn_of _ (by decide +kernel)) ggX4_endRepairs_X1_turbineOf
set_option maxRecDepth 20000 in
theorem ggX4_endRepairs_X0_mend : GoodIn wsX4_endRepairs wsX0_mend := goodIn_r _ [22, 23, 24, 39, 40, 41, 42, 43, 44, 45] (by decide +kernel) (by decide +kernel)
set_option maxRecDepth 20000 in
theorem gX4_endRepairs_X0_mend : GoodIn wsX4_endRepairs (wsV RX4 240 RX0 yX0_mend wsX0_mend) := goodIn_app (goodIn_of _ (by decide +kernel)) ggX4_endRepairs_X0_mend
set_option maxRecDepth 20000 in
theorem ggX4_endRepairs_X1_release : GoodIn wsX4_endRepairs wsX1_release := goodIn_r _ [28, 13, 34, 35, 36, 37, 38] (by decide +kernel) (by decide +kernel)
set_option maxRecDepth 20000 in
theorem gX4_endRepairs_X1_release : GoodIn wsX4_endRepairs (wsV RX4 243 RX1 yX1_release wsX1_release) := goodIn_app (goodIn_of _ (by decide +kernel)) ggX4_endRepairs_X1_release
theorem dX4_endRepairs_0 : decode cX4_endRepairs 0 = .ok (.iconst 0, 1) := by decide +kernel
theorem dX4_endRepairs_1 : decode cX4_endRepairs 1 = .ok (.istore_n 1, 1) := by decide +kernel
theorem dX4_endRepairs_2 : decode cX4_endRepairs 2 = .ok (.iload_n 1, 1) := by decide +kernel
theorem dX4_endRepairs_3 : decode cX4_endRepairs 3 = .ok (.iconst 3, 1) := by decide +kernel
theorem dX4_endRepairs_4 : decode cX4_endRepairs 4 = .ok (.if_icmp .ge 43, 3) := by decide +kernel
theorem dX4_endRepairs_7 : decode cX4_endRepairs 7 = .ok (.aload_n 0, 1) := by decide +kernel
theorem dX4_endRepairs_8 : decode cX4_endRepairs 8 = .ok (.getfield 26, 3) := by decide +kernel
theorem dX4_endRepairs_11 : decode cX4_endRepairs 11 = .ok (.iload_n 1, 1) := by decide +kernel
theorem dX4_endRepairs_12 : decode cX4_endRepairs 12 = .ok (.invokevirtual 237, 3) := by decide +kernel
theorem dX4_endRepairs_15 : decode cX4_endRepairs 15 = .ok (.ifCond .eq 26, 3) := by decide +kernel
theorem dX4_endRepairs_18 : decode cX4_endRepairs 18 = .ok (.aload_n 0, 1) := by decide +kernel
theorem dX4_endRepairs_19 : decode cX4_endRepairs 19 = .ok (.getfield 19, 3) := by decide +kernel
theorem dX4_endRepairs_22 : decode cX4_endRepairs 22 = .ok (.aload_n 0, 1) := by decide +kernel
theorem dX4_endRepairs_23 : decode cX4_endRepairs 23 = .ok (.getfield 26, 3) := by decide +kernel
theorem dX4_endRepairs_26 : decode cX4_endRepairs 26 = .ok (.iload_n 1, 1) := by decide +kernel
theorem dX4_endRepairs_27 : decode cX4_endRepairs 27 = .ok (.invokevirtual 188, 3) := by decide +kernel
theorem dX4_endRepairs_30 : decode cX4_endRepairs 30 = .ok (.invokevirtual 240, 3) := by decide +kernel
theorem dX4_endRepairs_33 : decode cX4_endRepairs 33 = .ok (.aload_n 0, 1) := by decide +kernel
theorem dX4_endRepairs_34 : decode cX4_endRepairs 34 = .ok (.getfield 26, 3) := by decide +kernel
theorem dX4_endRepairs_37 : decode cX4_endRepairs 37 = .ok (.iload_n 1, 1) := by decide +kernel
theorem dX4_endRepairs_38 : decode cX4_endRepairs 38 = .ok (.invokevirtual 243, 3) := by decide +kernel
theorem dX4_endRepairs_41 : decode cX4_endRepairs 41 = .ok (.iinc 1 1, 3) := by decide +kernel
theorem dX4_endRepairs_44 : decode cX4_endRepairs 44 = .ok (.goto (-42), 3) := by decide +kernel
theorem dX4_endRepairs_47 : decode cX4_endRepairs 47 = .ok (.return_, 1) := by decide +kernel
