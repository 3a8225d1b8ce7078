/-! printed: names, fields, word lists, decode rows (out of claim/NAMES.whole.lean.txt) -/
theorem dJ9_min_7cf53_0 : decode cJ9_min_7cf53 0 = .ok (.iload_n 0, 1) := by decide +kernel
theorem dJ9_min_7cf53_1 : decode cJ9_min_7cf53 1 = .ok (.iload_n 1, 1) := by decide +kernel
theorem dJ9_min_7cf53_2 : decode cJ9_min_7cf53 2 = .ok (.if_icmp .gt 7, 3) := by decide +kernel
theorem dJ9_min_7cf53_5 : decode cJ9_min_7cf53 5 = .ok (.iload_n 0, 1) := by decide +kernel
theorem dJ9_min_7cf53_6 : decode cJ9_min_7cf53 6 = .ok (.goto 4, 3) := by decide +kernel
theorem dJ9_min_7cf53_9 : decode cJ9_min_7cf53 9 = .ok (.iload_n 1, 1) := by decide +kernel
theorem dJ9_min_7cf53_10 : decode cJ9_min_7cf53 10 = .ok (.ireturn, 1) := by decide +kernel
theorem dL_cell_0 : decode cL_cell 0 = .ok (.iload_n 1, 1) := by decide +kernel
theorem dL_cell_1 : decode cL_cell 1 = .ok (.aload_n 0, 1) := by decide +kernel
theorem dL_cell_2 : decode cL_cell 2 = .ok (.arraylength, 1) := by decide +kernel
theorem dL_cell_3 : decode cL_cell 3 = .ok (.if_icmp .ge 9, 3) := by decide +kernel
theorem dL_cell_6 : decode cL_cell 6 = .ok (.aload_n 0, 1) := by decide +kernel
theorem dL_cell_7 : decode cL_cell 7 = .ok (.iload_n 1, 1) := by decide +kernel
theorem dL_cell_8 : decode cL_cell 8 = .ok (.iaload, 1) := by decide +kernel
theorem dL_cell_9 : decode cL_cell 9 = .ok (.goto 11, 3) := by decide +kernel
theorem dL_cell_12 : decode cL_cell 12 = .ok (.ldc 7, 2) := by decide +kernel
theorem dL_cell_14 : decode cL_cell 14 = .ok (.iload_n 1, 1) := by decide +kernel
theorem dL_cell_15 : decode cL_cell 15 = .ok (.imul, 1) := by decide +kernel
theorem dL_cell_16 : decode cL_cell 16 = .ok (.sipush 12809, 3) := by decide +kernel
theorem dL_cell_19 : decode cL_cell 19 = .ok (.iadd, 1) := by decide +kernel
theorem dL_cell_20 : decode cL_cell 20 = .ok (.ireturn, 1) := by decide +kernel
theorem dL_low_0 : decode cL_low 0 = .ok (.iload_n 0, 1) := by decide +kernel
theorem dL_low_1 : decode cL_low 1 = .ok (.ldc 8, 2) := by decide +kernel
theorem dL_low_3 : decode cL_low 3 = .ok (.iand, 1) := by decide +kernel
theorem dL_low_4 : decode cL_low 4 = .ok (.iload_n 1, 1) := by decide +kernel
theorem dL_low_5 : decode cL_low 5 = .ok (.irem, 1) := by decide +kernel
theorem dL_low_6 : decode cL_low 6 = .ok (.ireturn, 1) := by decide +kernel
set_option maxRecDepth 20000 in
theorem ggL_does_X4_turbine : GoodIn wsL_does wsX4_turbine := goodIn_ca (goodIn_ca (goodIn_r _ [8, 9, 10, 11, 12, 13, 14, 15, 7, 16, 17, 18, 19, 20, 21, 22, 23, 24, 25, 26, 27, 28, 246, 247, 248, 249, 250, 251, 252, 253, 254, 255, 256, 257] (by decide +kernel) (by decide +kernel)) (goodIn_sub (fun _ h => List.mem_cons_of_mem _ (List.mem_append_left _ (List.mem_append_left _ (List.mem_append_right _ h)))) (by decide +kernel))) (goodIn_sub (fun _ h => List.mem_cons_of_mem _ (List.mem_append_left _ (List.mem_append_right _ h))) (by decide +kernel))
set_option maxRecDepth 20000 in
theorem gL_does_X4_turbine : GoodIn wsL_does (wsV RL 9 RX4 yX4_turbine wsX4_turbine) := goodIn_app (goodIn_of _ (by decide +kernel)) ggL_does_X4_turbine
set_option maxRecDepth 20000 in
theorem ggL_does_X4_wind : GoodIn wsL_does wsX4_wind := goodIn_ca (goodIn_r _ [32, 33, 34, 35, 36, 37, 38, 7, 39, 40, 14, 15, 16, 41, 42, 43, 44, 45, 46, 47, 246, 247, 248, 249, 250, 258, 259, 260] (by decide +kernel) (by decide +kernel)) (goodIn_sub (fun _ h => List.mem_cons_of_mem _ (List.mem_append_right _ h)) (by decide +kernel))
set_option maxRecDepth 20000 in
theorem gL_does_X4_wind : GoodIn wsL_does (wsV RL 15 RX4 yX4_wind wsX4_wind) := goodIn_app (goodIn_of _ (by decide +kernel)) ggL_does_X4_wind
set_option maxRecDepth 20000 in
theorem ggL_does_X4_waves : GoodIn wsL_does wsX4_waves := goodIn_ca (goodIn_r _ [51, 33, 34, 35, 36, 37, 38, 7, 39, 40, 14, 15, 16, 52, 53, 54, 44, 55, 56, 46, 57, 58, 59, 60, 246, 247, 248, 249, 250, 258, 259, 260] (by decide +kernel) (by decide +kernel)) (goodIn_sub (fun _ h => List.mem_cons_of_mem _ (List.mem_append_right _ h)) (by decide +kernel))
set_option maxRecDepth 20000 in
theorem gL_does_X4_waves : GoodIn wsL_does (wsV RL 19 RX4 yX4_waves wsX4_waves) := goodIn_app (goodIn_of _ (by decide +kernel)) ggL_does_X4_waves
set_option maxRecDepth 20000 in
theorem ggL_does_X4_breaks : GoodIn wsL_does wsX4_breaks := goodIn_ca (goodIn_ca (goodIn_r _ [64, 9, 10, 11, 12, 13, 65, 66, 67, 20, 68, 23, 15, 7, 16, 69, 70, 71, 72, 73, 74, 75, 76, 77, 78, 79, 80, 81, 82, 246, 247, 248, 249, 250, 251, 252, 253, 254, 255, 256, 257] (by decide +kernel) (by decide +kernel)) (goodIn_sub (fun _ h => List.mem_cons_of_mem _ (List.mem_append_left _ (List.mem_append_left _ (List.mem_append_right _ h)))) (by decide +kernel))) (goodIn_sub (fun _ h => List.mem_cons_of_mem _ (List.mem_append_left _ (List.mem_append_right _ h))) (by decide +kernel))
set_option maxRecDepth 20000 in
theorem gL_does_X4_breaks : GoodIn wsL_does (wsV RL 23 RX4 yX4_breaks wsX4_breaks) := goodIn_app (goodIn_of _ (by decide +kernel)) ggL_does_X4_breaks
set_option maxRecDepth 20000 in
theorem ggL_does_X4_crew : GoodIn wsL_does wsX4_crew := goodIn_ca (goodIn_ca (goodIn_r _ [86, 9, 10, 33, 34, 87, 88, 89, 7, 90, 14, 15, 16, 91, 92, 93, 94, 95, 96, 97, 98, 99, 100, 246, 247, 248, 249, 250, 261, 262, 263, 264, 265] (by decide +kernel) (by decide +kernel)) (goodIn_sub (fun _ h => List.mem_cons_of_mem _ (List.mem_append_left _ (List.mem_append_left _ (List.mem_append_right _ h)))) (by decide +kernel))) (goodIn_sub (fun _ h => List.mem_cons_of_mem _ (List.mem_append_right _ h)) (by decide +kernel))
set_option maxRecDepth 20000 in
theorem gL_does_X4_crew : GoodIn wsL_does (wsV RL 26 RX4 yX4_crew wsX4_crew) := goodIn_app (goodIn_of _ (by decide +kernel)) ggL_does_X4_crew
set_option maxRecDepth 20000 in
theorem ggL_does_X4_sell : GoodIn wsL_does wsX4_sell := goodIn_ca (goodIn_ca (goodIn_r _ [104, 33, 34, 11, 12, 40, 105, 14, 15, 7, 16, 106, 107, 108, 109, 110, 111, 112, 113, 114, 115, 116, 246, 247, 248, 249, 250, 266, 267, 268, 269] (by decide +kernel) (by decide +kernel)) (goodIn_sub (fun _ h => List.mem_cons_of_mem _ (List.mem_append_right _ h)) (by decide +kernel))) (goodIn_sub (fun _ h => List.mem_cons_of_mem _ (List.mem_append_left _ (List.mem_append_right _ h))) (by decide +kernel))
set_option maxRecDepth 20000 in
theorem gL_does_X4_sell : GoodIn wsL_does (wsV RL 29 RX4 yX4_sell wsX4_sell) := goodIn_app (goodIn_of _ (by decide +kernel)) ggL_does_X4_sell
set_option maxRecDepth 20000 in
theorem ggL_does_X4_pass : GoodIn wsL_does wsX4_pass := goodIn_ca (goodIn_ca (goodIn_r _ [120, 33, 34, 11, 12, 40, 14, 15, 7, 16, 121, 122, 123, 124, 105, 13, 35, 87, 125, 126, 127, 128, 52, 53, 54, 44, 55, 56, 46, 129, 130, 131, 94, 132, 133, 96, 134, 135, 136, 137, 138, 139, 140, 141, 142, 143, 144, 145, 146, 147, 148, 149, 150, 151, 20, 152, 28, 153, 154, 155, 156, 22, 157, 158, 66, 67, 68, 23, 159, 160, 161, 162, 163, 164, 165, 166, 47, 167, 168, 169, 170, 171, 172, 173, 174, 175, 176, 177, 178, 179, 73, 180, 181, 182, 183, 184, 185, 186, 187, 188, 189, 190, 191, 192, 193, 194, 195, 196, 197, 198, 199, 200, 201, 202, 203, 204, 205, 206, 109, 207, 208, 209, 210, 211, 212, 213, 116, 214, 215, 216, 217, 218, 219, 220, 221, 111, 222, 223, 224, 225, 226, 227, 228, 229, 230, 231, 232, 233, 234, 235, 236, 237, 78, 238, 239, 240, 241, 242, 243, 244, 245, 246, 247, 248, 249, 250, 258, 259, 260, 261, 262, 263, 264, 265, 251, 252, 253, 254, 255, 256, 257, 266, 267, 268, 269] (by decide +kernel) (by decide +kernel)) (goodIn_sub (fun _ h => List.mem_cons_of_mem _ (List.mem_append_right _ h)) (by decide +kernel))) (goodIn_sub (fun _ h => List.mem_cons_of_mem _ (List.mem_append_left _ (List.mem_append_right _ h))) (by decide +kernel))
set_option maxRecDepth 20000 in
theorem gL_does_X4_pass : GoodIn wsL_does (wsV RL 33 RX4 yX4_pass wsX4_pass) := goodIn_app (goodIn_of _ (by decide +kernel)) ggL_does_X4_pass
theorem dL_does_0 : decode cL_does 0 = .ok (.iload_n 1, 1) := by decide +kernel
theorem dL_does_1 : decode cL_does 1 = .ok (.ifCond .ne 11, 3) := by decide +kernel
theorem dL_does_4 : decode cL_does 4 = .ok (.aload_n 0, 1) := by decide +kernel
theorem dL_does_5 : decode cL_does 5 = .ok (.iload_n 2, 1) := by decide +kernel
theorem dL_does_6 : decode cL_does 6 = .ok (.invokevirtual 9, 3) := by decide +kernel
theorem dL_does_9 : decode cL_does 9 = .ok (.goto 92, 3) := by decide +kernel
theorem dL_does_12 : decode cL_does 12 = .ok (.iload_n 1, 1) := by decide +kernel
theorem dL_does_13 : decode cL_does 13 = .ok (.iconst 1, 1) := by decide +kernel
theorem dL_does_14 : decode cL_does 14 = .ok (.if_icmp .ne 25, 3) := by decide +kernel
theorem dL_does_17 : decode cL_does 17 = .ok (.aload_n 0, 1) := by decide +kernel
theorem dL_does_18 : decode cL_does 18 = .ok (.iload_n 2, 1) := by decide +kernel
theorem dL_does_19 : decode cL_does 19 = .ok (.iload_n 3, 1) := by decide +kernel
theorem dL_does_20 : decode cL_does 20 = .ok (.iload 4, 2) := by decide +kernel
theorem dL_does_22 : decode cL_does 22 = .ok (.iload_n 2, 1) := by decide +kernel
theorem dL_does_23 : decode cL_does 23 = .ok (.iconst 2, 1) := by decide +kernel
theorem dL_does_24 : decode cL_does 24 = .ok (.irem, 1) := by decide +kernel
theorem dL_does_25 : decode cL_does 25 = .ok (.ifCond .ne 7, 3) := by decide +kernel
theorem dL_does_28 : decode cL_does 28 = .ok (.iconst 1, 1) := by decide +kernel
theorem dL_does_29 : decode cL_does 29 = .ok (.goto 4, 3) := by decide +kernel
theorem dL_does_32 : decode cL_does 32 = .ok (.iconst 0, 1) := by decide +kernel
theorem dL_does_33 : decode cL_does 33 = .ok (.invokevirtual 15, 3) := by decide +kernel
theorem dL_does_36 : decode cL_does 36 = .ok (.goto 65, 3) := by decide +kernel
theorem dL_does_39 : decode cL_does 39 = .ok (.iload_n 1, 1) := by decide +kernel
theorem dL_does_40 : decode cL_does 40 = .ok (.iconst 2, 1) := by decide +kernel
theorem dL_does_41 : decode cL_does 41 = .ok (.if_icmp .ne 12, 3) := by decide +kernel
theorem dL_does_44 : decode cL_does 44 = .ok (.aload_n 0, 1) := by decide +kernel
theorem dL_does_45 : decode cL_does 45 = .ok (.iload_n 2, 1) := by decide +kernel
theorem dL_does_46 : decode cL_does 46 = .ok (.iload_n 3, 1) := by decide +kernel
theorem dL_does_47 : decode cL_does 47 = .ok (.invokevirtual 19, 3) := by decide +kernel
theorem dL_does_50 : decode cL_does 50 = .ok (.goto 51, 3) := by decide +kernel
theorem dL_does_53 : decode cL_does 53 = .ok (.iload_n 1, 1) := by decide +kernel
theorem dL_does_54 : decode cL_does 54 = .ok (.iconst 3, 1) := by decide +kernel
theorem dL_does_55 : decode cL_does 55 = .ok (.if_icmp .ne 11, 3) := by decide +kernel
theorem dL_does_58 : decode cL_does 58 = .ok (.aload_n 0, 1) := by decide +kernel
theorem dL_does_59 : decode cL_does 59 = .ok (.iload_n 2, 1) := by decide +kernel
theorem dL_does_60 : decode cL_does 60 = .ok (.invokevirtual 23, 3) := by decide +kernel
theorem dL_does_63 : decode cL_does 63 = .ok (.goto 38, 3) := by decide +kernel
theorem dL_does_66 : decode cL_does 66 = .ok (.iload_n 1, 1) := by decide +kernel
theorem dL_does_67 : decode cL_does 67 = .ok (.iconst 4, 1) := by decide +kernel
theorem dL_does_68 : decode cL_does 68 = .ok (.if_icmp .ne 12, 3) := by decide +kernel
theorem dL_does_71 : decode cL_does 71 = .ok (.aload_n 0, 1) := by decide +kernel
theorem dL_does_72 : decode cL_does 72 = .ok (.iload_n 2, 1) := by decide +kernel
theorem dL_does_73 : decode cL_does 73 = .ok (.iload_n 3, 1) := by decide +kernel
theorem dL_does_74 : decode cL_does 74 = .ok (.invokevirtual 26, 3) := by decide +kernel
theorem dL_does_77 : decode cL_does 77 = .ok (.goto 24, 3) := by decide +kernel
theorem dL_does_80 : decode cL_does 80 = .ok (.iload_n 1, 1) := by decide +kernel
theorem dL_does_81 : decode cL_does 81 = .ok (.iconst 5, 1) := by decide +kernel
theorem dL_does_82 : decode cL_does 82 = .ok (.if_icmp .ne 14, 3) := by decide +kernel
theorem dL_does_85 : decode cL_does 85 = .ok (.aload_n 0, 1) := by decide +kernel
theorem dL_does_86 : decode cL_does 86 = .ok (.iload_n 2, 1) := by decide +kernel
theorem dL_does_87 : decode cL_does 87 = .ok (.iload_n 3, 1) := by decide +kernel
theorem dL_does_88 : decode cL_does 88 = .ok (.iload 4, 2) := by decide +kernel
theorem dL_does_90 : decode cL_does 90 = .ok (.invokevirtual 29, 3) := by decide +kernel
theorem dL_does_93 : decode cL_does 93 = .ok (.goto 8, 3) := by decide +kernel
theorem dL_does_96 : decode cL_does 96 = .ok (.aload_n 0, 1) := by decide +kernel
theorem dL_does_97 : decode cL_does 97 = .ok (.iload_n 2, 1) := by decide +kernel
theorem dL_does_98 : decode cL_does 98 = .ok (.invokevirtual 33, 3) := by decide +kernel
theorem dL_does_101 : decode cL_does 101 = .ok (.ireturn, 1) := by decide +kernel
theorem dL_does_102 : decode cL_does 102 = .ok (.astore 5, 2) := by decide +kernel
theorem dL_does_104 : decode cL_does 104 = .ok (.bipush (-2), 2) := by decide +kernel
theorem dL_does_106 : decode cL_does 106 = .ok (.ireturn, 1) := by decide +kernel
theorem dL_does_107 : decode cL_does 107 = .ok (.astore 5, 2) := by decide +kernel
theorem dL_does_109 : decode cL_does 109 = .ok (.bipush (-3), 2) := by decide +kernel
theorem dL_does_111 : decode cL_does 111 = .ok (.ireturn, 1) := by decide +kernel
theorem dL_does_112 : decode cL_does 112 = .ok (.astore 5, 2) := by decide +kernel
theorem dL_does_114 : decode cL_does 114 = .ok (.bipush (-4), 2) := by decide +kernel
theorem dL_does_116 : decode cL_does 116 = .ok (.ireturn, 1) := by decide +kernel
set_option maxRecDepth 20000 in
theorem ggL_repairs_X4_repair : GoodIn wsL_repairs wsX4_repair := goodIn_ca (goodIn_ca (goodIn_ca (goodIn_r _ [8, 9, 10, 11, 12, 13, 14, 15, 16, 17, 18, 7, 19, 20, 21, 22, 23, 24, 25, 26, 27, 28, 29, 30, 31, 32, 33, 34, 35, 36, 37, 38, 39, 40, 41, 42, 43, 44, 45, 46, 47, 48, 49, 50, 51, 52, 53, 54, 55, 56, 57, 58, 59, 60, 61, 62, 63, 64, 65] (by decide +kernel) (by decide +kernel)) (goodIn_sub (fun _ h => List.mem_cons_of_mem _ (List.mem_append_left _ (List.mem_append_left _ (List.mem_append_right _ h)))) (by decide +kernel))) (goodIn_sub (fun _ h => List.mem_cons_of_mem _ (List.mem_append_left _ (List.mem_append_right _ h))) (by decide +kernel))) (goodIn_sub (fun _ h => List.mem_cons_of_mem _ (List.mem_append_right _ h)) (by decide +kernel))
set_option maxRecDepth 20000 in
theorem gL_repairs_X4_repair : GoodIn wsL_repairs (wsV RL 42 RX4 yX4_repair wsX4_repair) := goodIn_app (goodIn_of _ (by decide +kernel)) ggL_repairs_X4_repair
theorem dL_repairs_0 : decode cL_repairs 0 = .ok (.aload_n 0, 1) := by decide +kernel
theorem dL_repairs_1 : decode cL_repairs 1 = .ok (.iload_n 1, 1) := by decide +kernel
theorem dL_repairs_2 : decode cL_repairs 2 = .ok (.iload_n 2, 1) := by decide +kernel
theorem dL_repairs_3 : decode cL_repairs 3 = .ok (.iload_n 3, 1) := by decide +kernel
theorem dL_repairs_4 : decode cL_repairs 4 = .ok (.invokevirtual 42, 3) := by decide +kernel
theorem dL_repairs_7 : decode cL_repairs 7 = .ok (.iconst 0, 1) := by decide +kernel
theorem dL_repairs_8 : decode cL_repairs 8 = .ok (.ireturn, 1) := by decide +kernel
theorem dL_repairs_9 : decode cL_repairs 9 = .ok (.astore 4, 2) := by decide +kernel
theorem dL_repairs_11 : decode cL_repairs 11 = .ok (.bipush (-2), 2) := by decide +kernel
theorem dL_repairs_13 : decode cL_repairs 13 = .ok (.ireturn, 1) := by decide +kernel
theorem dL_repairs_14 : decode cL_repairs 14 = .ok (.astore 4, 2) := by decide +kernel
theorem dL_repairs_16 : decode cL_repairs 16 = .ok (.bipush (-3), 2) := by decide +kernel
theorem dL_repairs_18 : decode cL_repairs 18 = .ok (.ireturn, 1) := by decide +kernel
theorem dL_repairs_19 : decode cL_repairs 19 = .ok (.astore 4, 2) := by decide +kernel
theorem dL_repairs_21 : decode cL_repairs 21 = .ok (.bipush (-4), 2) := by decide +kernel
theorem dL_repairs_23 : decode cL_repairs 23 = .ok (.ireturn, 1) := by decide +kernel
set_option maxRecDepth 20000 in
theorem ggL_of_X4_ofTurbine : GoodIn wsL_of wsX4_ofTurbine := goodIn_ca (goodIn_ca (goodIn_r _ [6, 7, 8, 9, 10, 11, 12, 13, 14, 15, 16, 17, 18, 5, 19, 20, 21, 22, 23, 24, 25, 26, 27, 28, 29, 30, 31, 32, 33, 34, 35, 36, 37, 38, 39, 40, 41, 42, 43, 44, 45, 46, 47] (by decide +kernel) (by decide +kernel)) (goodIn_sub (fun _ h => List.mem_cons_of_mem _ (List.mem_append_left _ (List.mem_append_right _ h))) (by decide +kernel))) (goodIn_sub (fun _ h => List.mem_cons_of_mem _ (List.mem_append_right _ h)) (by decide +kernel))
set_option maxRecDepth 20000 in
theorem gL_of_X4_ofTurbine : GoodIn wsL_of (wsV RL 46 RX4 yX4_ofTurbine wsX4_ofTurbine) := goodIn_app (goodIn_of _ (by decide +kernel)) ggL_of_X4_ofTurbine
theorem dL_of_0 : decode cL_of 0 = .ok (.aload_n 0, 1) := by decide +kernel
theorem dL_of_1 : decode cL_of 1 = .ok (.iload_n 1, 1) := by decide +kernel
theorem dL_of_2 : decode cL_of 2 = .ok (.iload_n 2, 1) := by decide +kernel
theorem dL_of_3 : decode cL_of 3 = .ok (.invokevirtual 46, 3) := by decide +kernel
theorem dL_of_6 : decode cL_of 6 = .ok (.ireturn, 1) := by decide +kernel
theorem dL_of_7 : decode cL_of 7 = .ok (.astore_n 3, 1) := by decide +kernel
theorem dL_of_8 : decode cL_of 8 = .ok (.bipush (-2), 2) := by decide +kernel
theorem dL_of_10 : decode cL_of 10 = .ok (.ireturn, 1) := by decide +kernel
set_option maxRecDepth 20000 in
theorem ggL_hour_X4_ofHour : GoodIn wsL_hour wsX4_ofHour := goodIn_ca (goodIn_r _ [6, 7, 8, 9, 10, 11, 12, 5, 13, 14, 15, 16, 17, 18, 19, 20, 21, 22, 23, 24, 25, 26, 27, 28, 29, 30, 31, 32, 33, 34, 35, 36, 37, 38, 39, 40, 41, 42, 43, 44, 45, 46, 47, 48] (by decide +kernel) (by decide +kernel)) (goodIn_sub (fun _ h => List.mem_cons_of_mem _ (List.mem_append_right _ h)) (by decide +kernel))
set_option maxRecDepth 20000 in
theorem gL_hour_X4_ofHour : GoodIn wsL_hour (wsV RL 49 RX4 yX4_ofHour wsX4_ofHour) := goodIn_app (goodIn_of _ (by decide +kernel)) ggL_hour_X4_ofHour
theorem dL_hour_0 : decode cL_hour 0 = .ok (.aload_n 0, 1) := by decide +kernel
theorem dL_hour_1 : decode cL_hour 1 = .ok (.iload_n 1, 1) := by decide +kernel
theorem dL_hour_2 : decode cL_hour 2 = .ok (.iload_n 2, 1) := by decide +kernel
theorem dL_hour_3 : decode cL_hour 3 = .ok (.invokevirtual 49, 3) := by decide +kernel
theorem dL_hour_6 : decode cL_hour 6 = .ok (.ireturn, 1) := by decide +kernel
theorem dL_hour_7 : decode cL_hour 7 = .ok (.astore_n 3, 1) := by decide +kernel
theorem dL_hour_8 : decode cL_hour 8 = .ok (.bipush (-3), 2) := by decide +kernel
theorem dL_hour_10 : decode cL_hour 10 = .ok (.ireturn, 1) := by decide +kernel
set_option maxRecDepth 20000 in
theorem ggL_tell_L_of : GoodIn wsL_tell wsL_of := goodIn_ca (goodIn_ca (goodIn_r _ [5, 6, 7, 8, 9, 10, 11, 12, 13, 14, 15, 16, 17, 18, 19, 20, 21, 22, 23, 24, 25, 26, 27, 28, 29, 30, 31, 32, 33, 34, 35, 36, 37, 38, 39, 40, 139, 140, 141, 142, 143, 144, 145, 146, 147, 148, 149, 150] (by decide +kernel) (by decide +kernel)) (goodIn_sub (fun _ h => List.mem_cons_of_mem _ (List.mem_append_left _ (List.mem_append_right _ h))) (by decide +kernel))) (goodIn_sub (fun _ h => List.mem_cons_of_mem _ (List.mem_append_right _ h)) (by decide +kernel))
set_option maxRecDepth 20000 in
theorem gL_tell_L_of : GoodIn wsL_tell (va_wsS RL 52 yL_of wsL_of) := goodIn_app (goodIn_of _ (by decide +kernel)) ggL_tell_L_of
set_option maxRecDepth 20000 in
theorem ggL_tell_X4_ofBoat : GoodIn wsL_tell wsX4_ofBoat := goodIn_ca (goodIn_ca (goodIn_r _ [44, 12, 13, 14, 15, 45, 46, 47, 10, 48, 25, 23, 24, 49, 50, 51, 52, 53, 54, 55, 56, 57, 58, 59, 60, 61, 62, 63, 64, 65, 66, 67, 68, 69, 139, 140, 141, 142, 143, 151, 152, 153, 154, 155] (by decide +kernel) (by decide +kernel)) (goodIn_sub (fun _ h => List.mem_cons_of_mem _ (List.mem_append_left _ (List.mem_append_right _ h))) (by decide +kernel))) (goodIn_sub (fun _ h => List.mem_cons_of_mem _ (List.mem_append_right _ h)) (by decide +kernel))
set_option maxRecDepth 20000 in
theorem gL_tell_X4_ofBoat : GoodIn wsL_tell (wsV RL 58 RX4 yX4_ofBoat wsX4_ofBoat) := goodIn_app (goodIn_of _ (by decide +kernel)) ggL_tell_X4_ofBoat
set_option maxRecDepth 20000 in
theorem ggL_tell_X4_brought : GoodIn wsL_tell wsX4_brought := goodIn_r _ [73, 74, 75, 76, 77, 78, 79, 80, 139, 140, 141, 142, 143, 156, 157, 158, 159] (by decide +kernel) (by decide +kernel)
set_option maxRecDepth 20000 in
theorem gL_tell_X4_brought : GoodIn wsL_tell (wsV RL 61 RX4 yX4_brought wsX4_brought) := goodIn_app (goodIn_of _ (by decide +kernel)) ggL_tell_X4_brought
set_option maxRecDepth 20000 in
theorem ggL_tell_X4_foretold : GoodIn wsL_tell wsX4_foretold := goodIn_ca (goodIn_r _ [84, 14, 15, 16, 85, 86, 87, 88, 10, 89, 90, 25, 23, 24, 91, 92, 93, 94, 95, 96, 97, 98, 99, 100, 101, 102, 103, 104, 20, 105, 22, 106, 107, 108, 109, 110, 111, 112, 113, 35, 114, 115, 116, 117, 118, 30, 119, 120, 121, 122, 123, 124, 125, 126, 127, 128, 129, 130, 131, 132, 133, 134, 135, 136, 137, 138, 139, 140, 141, 142, 143, 160, 161, 162, 144, 145, 146, 147, 148, 149, 150] (by decide +kernel) (by decide +kernel)) (goodIn_sub (fun _ h => List.mem_cons_of_mem _ (List.mem_append_right _ h)) (by decide +kernel))
set_option maxRecDepth 20000 in
theorem gL_tell_X4_foretold : GoodIn wsL_tell (wsV RL 65 RX4 yX4_foretold wsX4_foretold) := goodIn_app (goodIn_of _ (by decide +kernel)) ggL_tell_X4_foretold
theorem dL_tell_0 : decode cL_tell 0 = .ok (.bipush 64, 2) := by decide +kernel
theorem dL_tell_2 : decode cL_tell 2 = .ok (.newarray .int, 2) := by decide +kernel
theorem dL_tell_4 : decode cL_tell 4 = .ok (.astore_n 2, 1) := by decide +kernel
theorem dL_tell_5 : decode cL_tell 5 = .ok (.iconst 0, 1) := by decide +kernel
theorem dL_tell_6 : decode cL_tell 6 = .ok (.istore_n 3, 1) := by decide +kernel
theorem dL_tell_7 : decode cL_tell 7 = .ok (.iload_n 3, 1) := by decide +kernel
theorem dL_tell_8 : decode cL_tell 8 = .ok (.bipush 12, 2) := by decide +kernel
theorem dL_tell_10 : decode cL_tell 10 = .ok (.if_icmp .ge 40, 3) := by decide +kernel
theorem dL_tell_13 : decode cL_tell 13 = .ok (.aload_n 2, 1) := by decide +kernel
theorem dL_tell_14 : decode cL_tell 14 = .ok (.iload_n 3, 1) := by decide +kernel
theorem dL_tell_15 : decode cL_tell 15 = .ok (.aload_n 0, 1) := by decide +kernel
theorem dL_tell_16 : decode cL_tell 16 = .ok (.iload_n 3, 1) := by decide +kernel
theorem dL_tell_17 : decode cL_tell 17 = .ok (.iconst 0, 1) := by decide +kernel
theorem dL_tell_18 : decode cL_tell 18 = .ok (.invokestatic 52, 3) := by decide +kernel
theorem dL_tell_21 : decode cL_tell 21 = .ok (.bipush 100, 2) := by decide +kernel
theorem dL_tell_23 : decode cL_tell 23 = .ok (.aload_n 0, 1) := by decide +kernel
theorem dL_tell_24 : decode cL_tell 24 = .ok (.iload_n 3, 1) := by decide +kernel
theorem dL_tell_25 : decode cL_tell 25 = .ok (.iconst 1, 1) := by decide +kernel
theorem dL_tell_26 : decode cL_tell 26 = .ok (.invokestatic 52, 3) := by decide +kernel
theorem dL_tell_29 : decode cL_tell 29 = .ok (.imul, 1) := by decide +kernel
theorem dL_tell_30 : decode cL_tell 30 = .ok (.iadd, 1) := by decide +kernel
theorem dL_tell_31 : decode cL_tell 31 = .ok (.iastore, 1) := by decide +kernel
theorem dL_tell_32 : decode cL_tell 32 = .ok (.aload_n 2, 1) := by decide +kernel
theorem dL_tell_33 : decode cL_tell 33 = .ok (.bipush 12, 2) := by decide +kernel
theorem dL_tell_35 : decode cL_tell 35 = .ok (.iload_n 3, 1) := by decide +kernel
theorem dL_tell_36 : decode cL_tell 36 = .ok (.iadd, 1) := by decide +kernel
theorem dL_tell_37 : decode cL_tell 37 = .ok (.aload_n 0, 1) := by decide +kernel
theorem dL_tell_38 : decode cL_tell 38 = .ok (.iload_n 3, 1) := by decide +kernel
theorem dL_tell_39 : decode cL_tell 39 = .ok (.iconst 2, 1) := by decide +kernel
theorem dL_tell_40 : decode cL_tell 40 = .ok (.invokestatic 52, 3) := by decide +kernel
theorem dL_tell_43 : decode cL_tell 43 = .ok (.iastore, 1) := by decide +kernel
theorem dL_tell_44 : decode cL_tell 44 = .ok (.iinc 3 1, 3) := by decide +kernel
theorem dL_tell_47 : decode cL_tell 47 = .ok (.goto (-40), 3) := by decide +kernel
theorem dL_tell_50 : decode cL_tell 50 = .ok (.iconst 0, 1) := by decide +kernel
theorem dL_tell_51 : decode cL_tell 51 = .ok (.istore_n 3, 1) := by decide +kernel
theorem dL_tell_52 : decode cL_tell 52 = .ok (.iload_n 3, 1) := by decide +kernel
theorem dL_tell_53 : decode cL_tell 53 = .ok (.iconst 3, 1) := by decide +kernel
theorem dL_tell_54 : decode cL_tell 54 = .ok (.if_icmp .ge 42, 3) := by decide +kernel
theorem dL_tell_57 : decode cL_tell 57 = .ok (.iconst 0, 1) := by decide +kernel
theorem dL_tell_58 : decode cL_tell 58 = .ok (.istore 4, 2) := by decide +kernel
theorem dL_tell_60 : decode cL_tell 60 = .ok (.iload 4, 2) := by decide +kernel
theorem dL_tell_62 : decode cL_tell 62 = .ok (.iconst 4, 1) := by decide +kernel
theorem dL_tell_63 : decode cL_tell 63 = .ok (.if_icmp .ge 27, 3) := by decide +kernel
theorem dL_tell_66 : decode cL_tell 66 = .ok (.aload_n 2, 1) := by decide +kernel
theorem dL_tell_67 : decode cL_tell 67 = .ok (.bipush 24, 2) := by decide +kernel
theorem dL_tell_69 : decode cL_tell 69 = .ok (.iconst 4, 1) := by decide +kernel
theorem dL_tell_70 : decode cL_tell 70 = .ok (.iload_n 3, 1) := by decide +kernel
theorem dL_tell_71 : decode cL_tell 71 = .ok (.imul, 1) := by decide +kernel
theorem dL_tell_72 : decode cL_tell 72 = .ok (.iadd, 1) := by decide +kernel
theorem dL_tell_73 : decode cL_tell 73 = .ok (.iload 4, 2) := by decide +kernel
theorem dL_tell_75 : decode cL_tell 75 = .ok (.iadd, 1) := by decide +kernel
theorem dL_tell_76 : decode cL_tell 76 = .ok (.aload_n 0, 1) := by decide +kernel
theorem dL_tell_77 : decode cL_tell 77 = .ok (.iload_n 3, 1) := by decide +kernel
theorem dL_tell_78 : decode cL_tell 78 = .ok (.iload 4, 2) := by decide +kernel
theorem dL_tell_80 : decode cL_tell 80 = .ok (.invokevirtual 58, 3) := by decide +kernel
theorem dL_tell_83 : decode cL_tell 83 = .ok (.iastore, 1) := by decide +kernel
theorem dL_tell_84 : decode cL_tell 84 = .ok (.iinc 4 1, 3) := by decide +kernel
theorem dL_tell_87 : decode cL_tell 87 = .ok (.goto (-27), 3) := by decide +kernel
theorem dL_tell_90 : decode cL_tell 90 = .ok (.iinc 3 1, 3) := by decide +kernel
theorem dL_tell_93 : decode cL_tell 93 = .ok (.goto (-41), 3) := by decide +kernel
theorem dL_tell_96 : decode cL_tell 96 = .ok (.aload_n 2, 1) := by decide +kernel
theorem dL_tell_97 : decode cL_tell 97 = .ok (.bipush 36, 2) := by decide +kernel
theorem dL_tell_99 : decode cL_tell 99 = .ok (.aload_n 0, 1) := by decide +kernel
theorem dL_tell_100 : decode cL_tell 100 = .ok (.invokevirtual 61, 3) := by decide +kernel
theorem dL_tell_103 : decode cL_tell 103 = .ok (.l2i, 1) := by decide +kernel
theorem dL_tell_104 : decode cL_tell 104 = .ok (.iastore, 1) := by decide +kernel
theorem dL_tell_105 : decode cL_tell 105 = .ok (.iconst 0, 1) := by decide +kernel
theorem dL_tell_106 : decode cL_tell 106 = .ok (.istore_n 3, 1) := by decide +kernel
theorem dL_tell_107 : decode cL_tell 107 = .ok (.iload_n 3, 1) := by decide +kernel
theorem dL_tell_108 : decode cL_tell 108 = .ok (.bipush 8, 2) := by decide +kernel
theorem dL_tell_110 : decode cL_tell 110 = .ok (.if_icmp .ge 22, 3) := by decide +kernel
theorem dL_tell_113 : decode cL_tell 113 = .ok (.aload_n 2, 1) := by decide +kernel
theorem dL_tell_114 : decode cL_tell 114 = .ok (.bipush 40, 2) := by decide +kernel
theorem dL_tell_116 : decode cL_tell 116 = .ok (.iload_n 3, 1) := by decide +kernel
theorem dL_tell_117 : decode cL_tell 117 = .ok (.iadd, 1) := by decide +kernel
theorem dL_tell_118 : decode cL_tell 118 = .ok (.aload_n 0, 1) := by decide +kernel
theorem dL_tell_119 : decode cL_tell 119 = .ok (.iload_n 1, 1) := by decide +kernel
theorem dL_tell_120 : decode cL_tell 120 = .ok (.iload_n 3, 1) := by decide +kernel
theorem dL_tell_121 : decode cL_tell 121 = .ok (.iadd, 1) := by decide +kernel
theorem dL_tell_122 : decode cL_tell 122 = .ok (.invokevirtual 65, 3) := by decide +kernel
theorem dL_tell_125 : decode cL_tell 125 = .ok (.iastore, 1) := by decide +kernel
theorem dL_tell_126 : decode cL_tell 126 = .ok (.iinc 3 1, 3) := by decide +kernel
theorem dL_tell_129 : decode cL_tell 129 = .ok (.goto (-22), 3) := by decide +kernel
theorem dL_tell_132 : decode cL_tell 132 = .ok (.aload_n 2, 1) := by decide +kernel
theorem dL_tell_133 : decode cL_tell 133 = .ok (.areturn, 1) := by decide +kernel
theorem dL_same_0 : decode cL_same 0 = .ok (.iconst 0, 1) := by decide +kernel
theorem dL_same_1 : decode cL_same 1 = .ok (.istore_n 2, 1) := by decide +kernel
theorem dL_same_2 : decode cL_same 2 = .ok (.iload_n 2, 1) := by decide +kernel
theorem dL_same_3 : decode cL_same 3 = .ok (.bipush 64, 2) := by decide +kernel
theorem dL_same_5 : decode cL_same 5 = .ok (.if_icmp .ge 20, 3) := by decide +kernel
theorem dL_same_8 : decode cL_same 8 = .ok (.aload_n 0, 1) := by decide +kernel
theorem dL_same_9 : decode cL_same 9 = .ok (.iload_n 2, 1) := by decide +kernel
theorem dL_same_10 : decode cL_same 10 = .ok (.iaload, 1) := by decide +kernel
theorem dL_same_11 : decode cL_same 11 = .ok (.aload_n 1, 1) := by decide +kernel
theorem dL_same_12 : decode cL_same 12 = .ok (.iload_n 2, 1) := by decide +kernel
theorem dL_same_13 : decode cL_same 13 = .ok (.iaload, 1) := by decide +kernel
theorem dL_same_14 : decode cL_same 14 = .ok (.if_icmp .eq 5, 3) := by decide +kernel
theorem dL_same_17 : decode cL_same 17 = .ok (.iconst 0, 1) := by decide +kernel
theorem dL_same_18 : decode cL_same 18 = .ok (.ireturn, 1) := by decide +kernel
theorem dL_same_19 : decode cL_same 19 = .ok (.iinc 2 1, 3) := by decide +kernel
theorem dL_same_22 : decode cL_same 22 = .ok (.goto (-20), 3) := by decide +kernel
theorem dL_same_25 : decode cL_same 25 = .ok (.iconst 1, 1) := by decide +kernel
theorem dL_same_26 : decode cL_same 26 = .ok (.ireturn, 1) := by decide +kernel
set_option maxRecDepth 20000 in
theorem ggL_asks_L_hour : GoodIn wsL_asks wsL_hour := goodIn_ca (goodIn_r _ [4, 5, 6, 7, 8, 9, 10, 11, 12, 13, 14, 15, 16, 17, 18, 19, 20, 21, 22, 23, 24, 25, 26, 27, 28, 29, 30, 31, 32, 33, 34, 35, 36, 37, 38, 39, 40, 41, 42, 43, 198, 199, 200, 201, 202, 203, 204, 205, 206] (by decide +kernel) (by decide +kernel)) (goodIn_sub (fun _ h => List.mem_cons_of_mem _ (List.mem_append_left _ (List.mem_append_right _ h))) (by decide +kernel))
set_option maxRecDepth 20000 in
theorem gL_asks_L_hour : GoodIn wsL_asks (va_wsS RL 68 yL_hour wsL_hour) := goodIn_app (goodIn_of _ (by decide +kernel)) ggL_asks_L_hour
set_option maxRecDepth 20000 in
theorem ggL_asks_X4_ratio : GoodIn wsL_asks wsX4_ratio := goodIn_ca (goodIn_r _ [47, 11, 12, 13, 14, 15, 16, 9, 17, 18, 19, 20, 21, 48, 49, 50, 25, 51, 27, 37, 29, 30, 31, 32, 198, 199, 200, 201, 202, 203, 204, 205, 206] (by decide +kernel) (by decide +kernel)) (goodIn_sub (fun _ h => List.mem_cons_of_mem _ (List.mem_append_left _ (List.mem_append_right _ h))) (by decide +kernel))
set_option maxRecDepth 20000 in
theorem gL_asks_X4_ratio : GoodIn wsL_asks (wsV RL 71 RX4 yX4_ratio wsX4_ratio) := goodIn_app (goodIn_of _ (by decide +kernel)) ggL_asks_X4_ratio
set_option maxRecDepth 20000 in
theorem ggL_asks_L_of : GoodIn wsL_asks wsL_of := goodIn_ca (goodIn_ca (goodIn_r _ [54, 55, 56, 57, 58, 9, 59, 60, 61, 11, 12, 62, 63, 64, 65, 66, 67, 68, 20, 21, 19, 69, 70, 71, 72, 73, 74, 75, 76, 77, 78, 79, 80, 81, 82, 83, 198, 199, 200, 201, 202, 207, 208, 209, 210, 211, 212, 213] (by decide +kernel) (by decide +kernel)) (goodIn_sub (fun _ h => List.mem_cons_of_mem _ (List.mem_append_right _ h)) (by decide +kernel))) (goodIn_sub (fun _ h => List.mem_cons_of_mem _ (List.mem_append_left _ (List.mem_append_right _ h))) (by decide +kernel))
set_option maxRecDepth 20000 in
theorem gL_asks_L_of : GoodIn wsL_asks (va_wsS RL 52 yL_of wsL_of) := goodIn_app (goodIn_of _ (by decide +kernel)) ggL_asks_L_of
set_option maxRecDepth 20000 in
theorem ggL_asks_X4_windAt : GoodIn wsL_asks wsX4_windAt := goodIn_ca (goodIn_r _ [87, 60, 61, 62, 88, 18, 63, 64, 65, 66, 67, 68, 20, 9, 21, 89, 90, 91, 92, 93, 94, 95, 96, 97, 98, 99, 100, 101, 102, 103, 73, 104, 105, 106, 107, 108, 109, 110, 111, 112, 113, 114, 115, 116, 117, 78, 118, 119, 120, 121, 198, 199, 200, 201, 202, 207, 208, 209, 210, 211, 212, 213, 214, 215, 216] (by decide +kernel) (by decide +kernel)) (goodIn_sub (fun _ h => List.mem_cons_of_mem _ (List.mem_append_right _ h)) (by decide +kernel))
set_option maxRecDepth 20000 in
theorem gL_asks_X4_windAt : GoodIn wsL_asks (wsV RL 75 RX4 yX4_windAt wsX4_windAt) := goodIn_app (goodIn_of _ (by decide +kernel)) ggL_asks_X4_windAt
set_option maxRecDepth 20000 in
theorem ggL_asks_X4_ofBoat : GoodIn wsL_asks wsX4_ofBoat := goodIn_ca (goodIn_ca (goodIn_r _ [125, 60, 61, 11, 12, 126, 127, 128, 9, 129, 19, 20, 21, 130, 131, 132, 133, 134, 135, 136, 137, 138, 139, 140, 141, 142, 143, 144, 145, 146, 147, 148, 149, 150, 198, 199, 200, 201, 202, 217, 218, 219, 220, 221] (by decide +kernel) (by decide +kernel)) (goodIn_sub (fun _ h => List.mem_cons_of_mem _ (List.mem_append_right _ h)) (by decide +kernel))) (goodIn_sub (fun _ h => List.mem_cons_of_mem _ (List.mem_append_left _ (List.mem_append_right _ h))) (by decide +kernel))
set_option maxRecDepth 20000 in
theorem gL_asks_X4_ofBoat : GoodIn wsL_asks (wsV RL 58 RX4 yX4_ofBoat wsX4_ofBoat) := goodIn_app (goodIn_of _ (by decide +kernel)) ggL_asks_X4_ofBoat
set_option maxRecDepth 20000 in
theorem ggL_asks_X4_brought : GoodIn wsL_asks wsX4_brought := goodIn_r _ [154, 13, 155, 156, 157, 25, 158, 159, 198, 199, 200, 201, 202, 203, 204, 205, 206] (by decide +kernel) (by decide +kernel)
set_option maxRecDepth 20000 in
theorem gL_asks_X4_brought : GoodIn wsL_asks (wsV RL 61 RX4 yX4_brought wsX4_brought) := goodIn_app (goodIn_of _ (by decide +kernel)) ggL_asks_X4_brought
set_option maxRecDepth 20000 in
theorem ggL_asks_X4_foretold : GoodIn wsL_asks wsX4_foretold := goodIn_ca (goodIn_r _ [163, 11, 12, 62, 88, 164, 165, 166, 9, 167, 18, 19, 20, 21, 89, 90, 91, 92, 93, 94, 95, 96, 97, 98, 99, 168, 169, 170, 66, 171, 68, 172, 173, 174, 175, 114, 115, 116, 117, 78, 118, 176, 101, 102, 103, 73, 104, 105, 106, 107, 108, 109, 110, 111, 112, 113, 119, 120, 121, 177, 178, 179, 180, 181, 182, 183, 198, 199, 200, 201, 202, 214, 215, 216, 207, 208, 209, 210, 211, 212, 213] (by decide +kernel) (by decide +kernel)) (goodIn_sub (fun _ h => List.mem_cons_of_mem _ (List.mem_append_left _ (List.mem_append_right _ h))) (by decide +kernel))
set_option maxRecDepth 20000 in
theorem gL_asks_X4_foretold : GoodIn wsL_asks (wsV RL 65 RX4 yX4_foretold wsX4_foretold) := goodIn_app (goodIn_of _ (by decide +kernel)) ggL_asks_X4_foretold
set_option maxRecDepth 20000 in
theorem ggL_asks_X4_foretoldAnew : GoodIn wsL_asks wsX4_foretoldAnew := goodIn_ca (goodIn_r _ [187, 11, 12, 62, 88, 164, 165, 166, 9, 167, 18, 19, 20, 21, 89, 90, 91, 92, 93, 94, 95, 96, 97, 98, 99, 188, 189, 190, 66, 191, 68, 73, 114, 115, 116, 117, 78, 118, 192, 193, 194, 195, 196, 108, 109, 110, 197, 64, 65, 67, 119, 120, 121, 177, 178, 179, 180, 181, 182, 183, 198, 199, 200, 201, 202, 214, 215, 216, 207, 208, 209, 210, 211, 212, 213] (by decide +kernel) (by decide +kernel)) (goodIn_sub (fun _ h => List.mem_cons_of_mem _ (List.mem_append_left _ (List.mem_append_right _ h))) (by decide +kernel))
set_option maxRecDepth 20000 in
theorem gL_asks_X4_foretoldAnew : GoodIn wsL_asks (wsV RL 78 RX4 yX4_foretoldAnew wsX4_foretoldAnew) := goodIn_app (goodIn_of _ (by decide +kernel)) ggL_asks_X4_foretoldAnew
theorem dL_asks_0 : decode cL_asks 0 = .ok (.lconst 0, 1) := by decide +kernel
theorem dL_asks_1 : decode cL_asks 1 = .ok (.lstore_n 2, 1) := by decide +kernel
theorem dL_asks_2 : decode cL_asks 2 = .ok (.lconst 0, 1) := by decide +kernel
theorem dL_asks_3 : decode cL_asks 3 = .ok (.lstore 4, 2) := by decide +kernel
theorem dL_asks_5 : decode cL_asks 5 = .ok (.lconst 0, 1) := by decide +kernel
theorem dL_asks_6 : decode cL_asks 6 = .ok (.lstore 6, 2) := by decide +kernel
theorem dL_asks_8 : decode cL_asks 8 = .ok (.iconst 0, 1) := by decide +kernel
theorem dL_asks_9 : decode cL_asks 9 = .ok (.istore 8, 2) := by decide +kernel
theorem dL_asks_11 : decode cL_asks 11 = .ok (.iload 8, 2) := by decide +kernel
theorem dL_asks_13 : decode cL_asks 13 = .ok (.iload_n 1, 1) := by decide +kernel
theorem dL_asks_14 : decode cL_asks 14 = .ok (.if_icmp .ge 71, 3) := by decide +kernel
theorem dL_asks_17 : decode cL_asks 17 = .ok (.lload_n 2, 1) := by decide +kernel
theorem dL_asks_18 : decode cL_asks 18 = .ok (.aload_n 0, 1) := by decide +kernel
theorem dL_asks_19 : decode cL_asks 19 = .ok (.iload 8, 2) := by decide +kernel
theorem dL_asks_21 : decode cL_asks 21 = .ok (.iconst 0, 1) := by decide +kernel
theorem dL_asks_22 : decode cL_asks 22 = .ok (.invokestatic 68, 3) := by decide +kernel
theorem dL_asks_25 : decode cL_asks 25 = .ok (.i2l, 1) := by decide +kernel
theorem dL_asks_26 : decode cL_asks 26 = .ok (.ladd, 1) := by decide +kernel
theorem dL_asks_27 : decode cL_asks 27 = .ok (.lstore_n 2, 1) := by decide +kernel
theorem dL_asks_28 : decode cL_asks 28 = .ok (.lload 6, 2) := by decide +kernel
theorem dL_asks_30 : decode cL_asks 30 = .ok (.aload_n 0, 1) := by decide +kernel
theorem dL_asks_31 : decode cL_asks 31 = .ok (.iload 8, 2) := by decide +kernel
theorem dL_asks_33 : decode cL_asks 33 = .ok (.iconst 3, 1) := by decide +kernel
theorem dL_asks_34 : decode cL_asks 34 = .ok (.invokestatic 68, 3) := by decide +kernel
theorem dL_asks_37 : decode cL_asks 37 = .ok (.i2l, 1) := by decide +kernel
theorem dL_asks_38 : decode cL_asks 38 = .ok (.ladd, 1) := by decide +kernel
theorem dL_asks_39 : decode cL_asks 39 = .ok (.lstore 6, 2) := by decide +kernel
theorem dL_asks_41 : decode cL_asks 41 = .ok (.aload_n 0, 1) := by decide +kernel
theorem dL_asks_42 : decode cL_asks 42 = .ok (.iload 8, 2) := by decide +kernel
theorem dL_asks_44 : decode cL_asks 44 = .ok (.iconst 2, 1) := by decide +kernel
theorem dL_asks_45 : decode cL_asks 45 = .ok (.invokestatic 68, 3) := by decide +kernel
theorem dL_asks_48 : decode cL_asks 48 = .ok (.aload_n 0, 1) := by decide +kernel
theorem dL_asks_49 : decode cL_asks 49 = .ok (.iload 8, 2) := by decide +kernel
theorem dL_asks_51 : decode cL_asks 51 = .ok (.iconst 1, 1) := by decide +kernel
theorem dL_asks_52 : decode cL_asks 52 = .ok (.invokestatic 68, 3) := by decide +kernel
theorem dL_asks_55 : decode cL_asks 55 = .ok (.aload_n 0, 1) := by decide +kernel
theorem dL_asks_56 : decode cL_asks 56 = .ok (.iload 8, 2) := by decide +kernel
theorem dL_asks_58 : decode cL_asks 58 = .ok (.iconst 0, 1) := by decide +kernel
theorem dL_asks_59 : decode cL_asks 59 = .ok (.invokestatic 68, 3) := by decide +kernel
theorem dL_asks_62 : decode cL_asks 62 = .ok (.isub, 1) := by decide +kernel
theorem dL_asks_63 : decode cL_asks 63 = .ok (.if_icmp .ne 14, 3) := by decide +kernel
theorem dL_asks_66 : decode cL_asks 66 = .ok (.aload_n 0, 1) := by decide +kernel
theorem dL_asks_67 : decode cL_asks 67 = .ok (.iload 8, 2) := by decide +kernel
theorem dL_asks_69 : decode cL_asks 69 = .ok (.invokevirtual 71, 3) := by decide +kernel
theorem dL_asks_72 : decode cL_asks 72 = .ok (.fconst 0, 1) := by decide +kernel
theorem dL_asks_73 : decode cL_asks 73 = .ok (.fcmp .g, 1) := by decide +kernel
theorem dL_asks_74 : decode cL_asks 74 = .ok (.ifCond .ge 5, 3) := by decide +kernel
theorem dL_asks_77 : decode cL_asks 77 = .ok (.iconst 0, 1) := by decide +kernel
theorem dL_asks_78 : decode cL_asks 78 = .ok (.ireturn, 1) := by decide +kernel
theorem dL_asks_79 : decode cL_asks 79 = .ok (.iinc 8 1, 3) := by decide +kernel
theorem dL_asks_82 : decode cL_asks 82 = .ok (.goto (-71), 3) := by decide +kernel
theorem dL_asks_85 : decode cL_asks 85 = .ok (.iconst 0, 1) := by decide +kernel
theorem dL_asks_86 : decode cL_asks 86 = .ok (.istore 8, 2) := by decide +kernel
theorem dL_asks_88 : decode cL_asks 88 = .ok (.iload 8, 2) := by decide +kernel
theorem dL_asks_90 : decode cL_asks 90 = .ok (.bipush 12, 2) := by decide +kernel
theorem dL_asks_92 : decode cL_asks 92 = .ok (.if_icmp .ge 62, 3) := by decide +kernel
theorem dL_asks_95 : decode cL_asks 95 = .ok (.aload_n 0, 1) := by decide +kernel
theorem dL_asks_96 : decode cL_asks 96 = .ok (.iload 8, 2) := by decide +kernel
theorem dL_asks_98 : decode cL_asks 98 = .ok (.iconst 2, 1) := by decide +kernel
theorem dL_asks_99 : decode cL_asks 99 = .ok (.invokestatic 52, 3) := by decide +kernel
theorem dL_asks_102 : decode cL_asks 102 = .ok (.istore 9, 2) := by decide +kernel
theorem dL_asks_104 : decode cL_asks 104 = .ok (.lload 4, 2) := by decide +kernel
theorem dL_asks_106 : decode cL_asks 106 = .ok (.iload 9, 2) := by decide +kernel
theorem dL_asks_108 : decode cL_asks 108 = .ok (.ifCond .ge 7, 3) := by decide +kernel
theorem dL_asks_111 : decode cL_asks 111 = .ok (.lconst 0, 1) := by decide +kernel
theorem dL_asks_112 : decode cL_asks 112 = .ok (.goto 6, 3) := by decide +kernel
theorem dL_asks_115 : decode cL_asks 115 = .ok (.iload 9, 2) := by decide +kernel
theorem dL_asks_117 : decode cL_asks 117 = .ok (.i2l, 1) := by decide +kernel
theorem dL_asks_118 : decode cL_asks 118 = .ok (.ladd, 1) := by decide +kernel
theorem dL_asks_119 : decode cL_asks 119 = .ok (.lstore 4, 2) := by decide +kernel
theorem dL_asks_121 : decode cL_asks 121 = .ok (.iload 9, 2) := by decide +kernel
theorem dL_asks_123 : decode cL_asks 123 = .ok (.ifCond .lt 25, 3) := by decide +kernel
theorem dL_asks_126 : decode cL_asks 126 = .ok (.aload_n 0, 1) := by decide +kernel
theorem dL_asks_127 : decode cL_asks 127 = .ok (.iload 8, 2) := by decide +kernel
theorem dL_asks_129 : decode cL_asks 129 = .ok (.invokevirtual 75, 3) := by decide +kernel
theorem dL_asks_132 : decode cL_asks 132 = .ok (.ifCond .lt 14, 3) := by decide +kernel
theorem dL_asks_135 : decode cL_asks 135 = .ok (.aload_n 0, 1) := by decide +kernel
theorem dL_asks_136 : decode cL_asks 136 = .ok (.iload 8, 2) := by decide +kernel
theorem dL_asks_138 : decode cL_asks 138 = .ok (.invokevirtual 75, 3) := by decide +kernel
theorem dL_asks_141 : decode cL_asks 141 = .ok (.bipush 40, 2) := by decide +kernel
theorem dL_asks_143 : decode cL_asks 143 = .ok (.if_icmp .le 5, 3) := by decide +kernel
theorem dL_asks_146 : decode cL_asks 146 = .ok (.iconst 0, 1) := by decide +kernel
theorem dL_asks_147 : decode cL_asks 147 = .ok (.ireturn, 1) := by decide +kernel
theorem dL_asks_148 : decode cL_asks 148 = .ok (.iinc 8 1, 3) := by decide +kernel
theorem dL_asks_151 : decode cL_asks 151 = .ok (.goto (-63), 3) := by decide +kernel
theorem dL_asks_154 : decode cL_asks 154 = .ok (.iconst 0, 1) := by decide +kernel
theorem dL_asks_155 : decode cL_asks 155 = .ok (.istore 8, 2) := by decide +kernel
theorem dL_asks_157 : decode cL_asks 157 = .ok (.iload 8, 2) := by decide +kernel
theorem dL_asks_159 : decode cL_asks 159 = .ok (.iconst 3, 1) := by decide +kernel
theorem dL_asks_160 : decode cL_asks 160 = .ok (.if_icmp .ge 91, 3) := by decide +kernel
theorem dL_asks_163 : decode cL_asks 163 = .ok (.aload_n 0, 1) := by decide +kernel
theorem dL_asks_164 : decode cL_asks 164 = .ok (.iload 8, 2) := by decide +kernel
theorem dL_asks_166 : decode cL_asks 166 = .ok (.iconst 0, 1) := by decide +kernel
theorem dL_asks_167 : decode cL_asks 167 = .ok (.invokevirtual 58, 3) := by decide +kernel
theorem dL_asks_170 : decode cL_asks 170 = .ok (.istore 9, 2) := by decide +kernel
theorem dL_asks_172 : decode cL_asks 172 = .ok (.iload 9, 2) := by decide +kernel
theorem dL_asks_174 : decode cL_asks 174 = .ok (.ifCond .lt 25, 3) := by decide +kernel
theorem dL_asks_177 : decode cL_asks 177 = .ok (.aload_n 0, 1) := by decide +kernel
theorem dL_asks_178 : decode cL_asks 178 = .ok (.iload 9, 2) := by decide +kernel
theorem dL_asks_180 : decode cL_asks 180 = .ok (.iconst 1, 1) := by decide +kernel
theorem dL_asks_181 : decode cL_asks 181 = .ok (.invokestatic 52, 3) := by decide +kernel
theorem dL_asks_184 : decode cL_asks 184 = .ok (.iconst 1, 1) := by decide +kernel
theorem dL_asks_185 : decode cL_asks 185 = .ok (.if_icmp .ne 58, 3) := by decide +kernel
theorem dL_asks_188 : decode cL_asks 188 = .ok (.aload_n 0, 1) := by decide +kernel
theorem dL_asks_189 : decode cL_asks 189 = .ok (.iload 8, 2) := by decide +kernel
theorem dL_asks_191 : decode cL_asks 191 = .ok (.iconst 1, 1) := by decide +kernel
theorem dL_asks_192 : decode cL_asks 192 = .ok (.invokevirtual 58, 3) := by decide +kernel
theorem dL_asks_195 : decode cL_asks 195 = .ok (.iconst 1, 1) := by decide +kernel
theorem dL_asks_196 : decode cL_asks 196 = .ok (.if_icmp .lt 47, 3) := by decide +kernel
theorem dL_asks_199 : decode cL_asks 199 = .ok (.iload 9, 2) := by decide +kernel
theorem dL_asks_201 : decode cL_asks 201 = .ok (.ifCond .ge 13, 3) := by decide +kernel
theorem dL_asks_204 : decode cL_asks 204 = .ok (.aload_n 0, 1) := by decide +kernel
theorem dL_asks_205 : decode cL_asks 205 = .ok (.iload 8, 2) := by decide +kernel
theorem dL_asks_207 : decode cL_asks 207 = .ok (.iconst 1, 1) := by decide +kernel
theorem dL_asks_208 : decode cL_asks 208 = .ok (.invokevirtual 58, 3) := by decide +kernel
theorem dL_asks_211 : decode cL_asks 211 = .ok (.ifCond .ne 32, 3) := by decide +kernel
theorem dL_asks_214 : decode cL_asks 214 = .ok (.aload_n 0, 1) := by decide +kernel
theorem dL_asks_215 : decode cL_asks 215 = .ok (.iload 8, 2) := by decide +kernel
theorem dL_asks_217 : decode cL_asks 217 = .ok (.iconst 2, 1) := by decide +kernel
theorem dL_asks_218 : decode cL_asks 218 = .ok (.invokevirtual 58, 3) := by decide +kernel
theorem dL_asks_221 : decode cL_asks 221 = .ok (.aload_n 0, 1) := by decide +kernel
theorem dL_asks_222 : decode cL_asks 222 = .ok (.iload 8, 2) := by decide +kernel
theorem dL_asks_224 : decode cL_asks 224 = .ok (.iconst 3, 1) := by decide +kernel
theorem dL_asks_225 : decode cL_asks 225 = .ok (.invokevirtual 58, 3) := by decide +kernel
theorem dL_asks_228 : decode cL_asks 228 = .ok (.if_icmp .gt 15, 3) := by decide +kernel
theorem dL_asks_231 : decode cL_asks 231 = .ok (.aload_n 0, 1) := by decide +kernel
theorem dL_asks_232 : decode cL_asks 232 = .ok (.iload 8, 2) := by decide +kernel
theorem dL_asks_234 : decode cL_asks 234 = .ok (.iconst 2, 1) := by decide +kernel
theorem dL_asks_235 : decode cL_asks 235 = .ok (.invokevirtual 58, 3) := by decide +kernel
theorem dL_asks_238 : decode cL_asks 238 = .ok (.bipush 24, 2) := by decide +kernel
theorem dL_asks_240 : decode cL_asks 240 = .ok (.if_icmp .le 5, 3) := by decide +kernel
theorem dL_asks_243 : decode cL_asks 243 = .ok (.iconst 0, 1) := by decide +kernel
theorem dL_asks_244 : decode cL_asks 244 = .ok (.ireturn, 1) := by decide +kernel
theorem dL_asks_245 : decode cL_asks 245 = .ok (.iinc 8 1, 3) := by decide +kernel
theorem dL_asks_248 : decode cL_asks 248 = .ok (.goto (-91), 3) := by decide +kernel
theorem dL_asks_251 : decode cL_asks 251 = .ok (.lload_n 2, 1) := by decide +kernel
theorem dL_asks_252 : decode cL_asks 252 = .ok (.lload 4, 2) := by decide +kernel
theorem dL_asks_254 : decode cL_asks 254 = .ok (.lcmp, 1) := by decide +kernel
theorem dL_asks_255 : decode cL_asks 255 = .ok (.ifCond .ne 41, 3) := by decide +kernel
theorem dL_asks_258 : decode cL_asks 258 = .ok (.lload 6, 2) := by decide +kernel
theorem dL_asks_260 : decode cL_asks 260 = .ok (.aload_n 0, 1) := by decide +kernel
theorem dL_asks_261 : decode cL_asks 261 = .ok (.invokevirtual 61, 3) := by decide +kernel
theorem dL_asks_264 : decode cL_asks 264 = .ok (.lcmp, 1) := by decide +kernel
theorem dL_asks_265 : decode cL_asks 265 = .ok (.ifCond .ne 31, 3) := by decide +kernel
theorem dL_asks_268 : decode cL_asks 268 = .ok (.aload_n 0, 1) := by decide +kernel
theorem dL_asks_269 : decode cL_asks 269 = .ok (.iload_n 1, 1) := by decide +kernel
theorem dL_asks_270 : decode cL_asks 270 = .ok (.invokevirtual 65, 3) := by decide +kernel
theorem dL_asks_273 : decode cL_asks 273 = .ok (.aload_n 0, 1) := by decide +kernel
theorem dL_asks_274 : decode cL_asks 274 = .ok (.iload_n 1, 1) := by decide +kernel
theorem dL_asks_275 : decode cL_asks 275 = .ok (.invokevirtual 78, 3) := by decide +kernel
theorem dL_asks_278 : decode cL_asks 278 = .ok (.if_icmp .ne 18, 3) := by decide +kernel
theorem dL_asks_281 : decode cL_asks 281 = .ok (.aload_n 0, 1) := by decide +kernel
theorem dL_asks_282 : decode cL_asks 282 = .ok (.iload_n 1, 1) := by decide +kernel
theorem dL_asks_283 : decode cL_asks 283 = .ok (.iconst 0, 1) := by decide +kernel
theorem dL_asks_284 : decode cL_asks 284 = .ok (.invokestatic 68, 3) := by decide +kernel
theorem dL_asks_287 : decode cL_asks 287 = .ok (.bipush (-3), 2) := by decide +kernel
theorem dL_asks_289 : decode cL_asks 289 = .ok (.if_icmp .ne 7, 3) := by decide +kernel
theorem dL_asks_292 : decode cL_asks 292 = .ok (.iconst 1, 1) := by decide +kernel
theorem dL_asks_293 : decode cL_asks 293 = .ok (.goto 4, 3) := by decide +kernel
theorem dL_asks_296 : decode cL_asks 296 = .ok (.iconst 0, 1) := by decide +kernel
theorem dL_asks_297 : decode cL_asks 297 = .ok (.ireturn, 1) := by decide +kernel
set_option maxRecDepth 20000 in
theorem ggL_act_L_low : GoodIn wsL_act wsL_low := goodIn_r _ [4, 5] (by decide +kernel) (by decide +kernel)
set_option maxRecDepth 20000 in
theorem gL_act_L_low : GoodIn wsL_act (va_wsS RL 81 yL_low wsL_low) := goodIn_app (goodIn_of _ (by decide +kernel)) ggL_act_L_low
set_option maxRecDepth 20000 in
theorem ggL_act_L_does : GoodIn wsL_act wsL_does := goodIn_ca (goodIn_ca (goodIn_ca (goodIn_r _ [8, 9, 10, 11, 12, 13, 14, 15, 16, 17, 18, 19, 20, 21, 22, 23, 24, 25, 26, 27, 28, 29, 30, 31, 32, 33, 34, 35, 36, 37, 38, 39, 40, 41, 42, 43, 44, 45, 46, 47, 48, 49, 50, 51, 52, 53, 54, 55, 56, 57, 58, 59, 60, 61, 62, 63, 64, 65, 66, 67, 68, 69, 70, 71, 72, 73, 74, 75, 76, 77, 78, 79, 80, 81, 82, 83, 84, 85, 86, 87, 88, 89, 90, 91, 92, 93, 94, 95, 96, 97, 98, 99, 100, 101, 102, 103, 104, 105, 106, 107, 108, 109, 110, 111, 112, 113, 114, 115, 116, 117, 118, 119, 120, 121, 122, 123, 124, 125, 126, 127, 128, 129, 130, 131, 132, 133, 134, 135, 136, 137, 138, 139, 140, 141, 142, 143, 144, 145, 146, 147, 148, 149, 150, 151, 152, 153, 154, 155, 156, 157, 158, 159, 160, 161, 162, 163, 164, 165, 166, 167, 168, 169, 170, 171, 172, 173, 174, 175, 176, 177, 178, 179, 180, 181, 182, 183, 184, 185, 186, 187, 188, 189, 190, 191, 192, 193, 194, 195, 196, 197, 198, 199, 200, 201, 202, 203, 204, 205, 206, 207, 208, 209, 210, 211, 212, 213, 214, 215, 216, 217, 218, 219, 220, 221, 222, 223, 224, 225, 226, 227, 228, 229, 230, 231, 232, 233, 234, 235, 236, 237, 238, 239, 240, 241, 242, 243, 244, 245, 246, 247, 248, 249, 250, 251, 252, 253, 270, 271, 272, 273, 274, 275, 276, 277, 278, 279, 280, 281, 282, 283, 284, 285, 286, 287, 288, 289, 290, 291, 292, 293] (by decide +kernel) (by decide +kernel)) (goodIn_sub (fun _ h => List.mem_cons_of_mem _ (List.mem_append_left _ (List.mem_append_left _ (List.mem_append_right _ h)))) (by decide +kernel))) (goodIn_sub (fun _ h => List.mem_cons_of_mem _ (List.mem_append_left _ (List.mem_append_right _ h))) (by decide +kernel))) (goodIn_sub (fun _ h => List.mem_cons_of_mem _ (List.mem_append_right _ h)) (by decide +kernel))
set_option maxRecDepth 20000 in
theorem gL_act_L_does : GoodIn wsL_act (va_wsS RL 84 yL_does wsL_does) := goodIn_app (goodIn_of _ (by decide +kernel)) ggL_act_L_does
set_option maxRecDepth 20000 in
theorem ggL_act_L_repairs : GoodIn wsL_act wsL_repairs := goodIn_ca (goodIn_ca (goodIn_ca (goodIn_r _ [256, 9, 10, 11, 257, 258, 259, 15, 260, 17, 18, 41, 42, 19, 20, 21, 95, 96, 97, 98, 22, 23, 24, 73, 74, 75, 28, 76, 31, 261, 143, 144, 102, 145, 146, 77, 78, 79, 80, 81, 262, 263, 264, 265, 266, 267, 268, 269, 151, 270, 271, 272, 273, 274, 275, 276, 277, 278, 279, 280, 281, 285, 286, 287, 288, 289] (by decide +kernel) (by decide +kernel)) (goodIn_sub (fun _ h => List.mem_cons_of_mem _ (List.mem_append_left _ (List.mem_append_left _ (List.mem_append_right _ h)))) (by decide +kernel))) (goodIn_sub (fun _ h => List.mem_cons_of_mem _ (List.mem_append_right _ h)) (by decide +kernel))) (goodIn_sub (fun _ h => List.mem_cons_of_mem _ (List.mem_append_left _ (List.mem_append_right _ h))) (by decide +kernel))
set_option maxRecDepth 20000 in
theorem gL_act_L_repairs : GoodIn wsL_act (va_wsS RL 88 yL_repairs wsL_repairs) := goodIn_app (goodIn_of _ (by decide +kernel)) ggL_act_L_repairs
theorem dL_act_0 : decode cL_act 0 = .ok (.iload_n 2, 1) := by decide +kernel
theorem dL_act_1 : decode cL_act 1 = .ok (.iload_n 1, 1) := by decide +kernel
theorem dL_act_2 : decode cL_act 2 = .ok (.iconst 3, 1) := by decide +kernel
theorem dL_act_3 : decode cL_act 3 = .ok (.ishr, 1) := by decide +kernel
theorem dL_act_4 : decode cL_act 4 = .ok (.bipush 30, 2) := by decide +kernel
theorem dL_act_6 : decode cL_act 6 = .ok (.invokestatic 81, 3) := by decide +kernel
theorem dL_act_9 : decode cL_act 9 = .ok (.iadd, 1) := by decide +kernel
theorem dL_act_10 : decode cL_act 10 = .ok (.istore 4, 2) := by decide +kernel
theorem dL_act_12 : decode cL_act 12 = .ok (.iload_n 3, 1) := by decide +kernel
theorem dL_act_13 : decode cL_act 13 = .ok (.tableswitch 173 0 7 #[47, 47, 61, 61, 94, 111, 125, 145], 47) := by decide +kernel
theorem dL_act_60 : decode cL_act 60 = .ok (.aload_n 0, 1) := by decide +kernel
theorem dL_act_61 : decode cL_act 61 = .ok (.iconst 0, 1) := by decide +kernel
theorem dL_act_62 : decode cL_act 62 = .ok (.iload_n 1, 1) := by decide +kernel
theorem dL_act_63 : decode cL_act 63 = .ok (.bipush 25, 2) := by decide +kernel
theorem dL_act_65 : decode cL_act 65 = .ok (.invokestatic 81, 3) := by decide +kernel
theorem dL_act_68 : decode cL_act 68 = .ok (.iconst 0, 1) := by decide +kernel
theorem dL_act_69 : decode cL_act 69 = .ok (.iconst 0, 1) := by decide +kernel
theorem dL_act_70 : decode cL_act 70 = .ok (.invokestatic 84, 3) := by decide +kernel
theorem dL_act_73 : decode cL_act 73 = .ok (.ireturn, 1) := by decide +kernel
theorem dL_act_74 : decode cL_act 74 = .ok (.aload_n 0, 1) := by decide +kernel
theorem dL_act_75 : decode cL_act 75 = .ok (.iconst 1, 1) := by decide +kernel
theorem dL_act_76 : decode cL_act 76 = .ok (.iload 4, 2) := by decide +kernel
theorem dL_act_78 : decode cL_act 78 = .ok (.iload_n 1, 1) := by decide +kernel
theorem dL_act_79 : decode cL_act 79 = .ok (.iconst 2, 1) := by decide +kernel
theorem dL_act_80 : decode cL_act 80 = .ok (.invokestatic 81, 3) := by decide +kernel
theorem dL_act_83 : decode cL_act 83 = .ok (.isub, 1) := by decide +kernel
theorem dL_act_84 : decode cL_act 84 = .ok (.iload 4, 2) := by decide +kernel
theorem dL_act_86 : decode cL_act 86 = .ok (.iload_n 1, 1) := by decide +kernel
theorem dL_act_87 : decode cL_act 87 = .ok (.iconst 5, 1) := by decide +kernel
theorem dL_act_88 : decode cL_act 88 = .ok (.ishr, 1) := by decide +kernel
theorem dL_act_89 : decode cL_act 89 = .ok (.bipush 60, 2) := by decide +kernel
theorem dL_act_91 : decode cL_act 91 = .ok (.invokestatic 81, 3) := by decide +kernel
theorem dL_act_94 : decode cL_act 94 = .ok (.iadd, 1) := by decide +kernel
theorem dL_act_95 : decode cL_act 95 = .ok (.iload_n 1, 1) := by decide +kernel
theorem dL_act_96 : decode cL_act 96 = .ok (.iconst 4, 1) := by decide +kernel
theorem dL_act_97 : decode cL_act 97 = .ok (.ishr, 1) := by decide +kernel
theorem dL_act_98 : decode cL_act 98 = .ok (.bipush 30, 2) := by decide +kernel
theorem dL_act_100 : decode cL_act 100 = .ok (.invokestatic 81, 3) := by decide +kernel
theorem dL_act_103 : decode cL_act 103 = .ok (.invokestatic 84, 3) := by decide +kernel
theorem dL_act_106 : decode cL_act 106 = .ok (.ireturn, 1) := by decide +kernel
theorem dL_act_107 : decode cL_act 107 = .ok (.aload_n 0, 1) := by decide +kernel
theorem dL_act_108 : decode cL_act 108 = .ok (.iconst 2, 1) := by decide +kernel
theorem dL_act_109 : decode cL_act 109 = .ok (.iload 4, 2) := by decide +kernel
theorem dL_act_111 : decode cL_act 111 = .ok (.iload_n 1, 1) := by decide +kernel
theorem dL_act_112 : decode cL_act 112 = .ok (.iconst 4, 1) := by decide +kernel
theorem dL_act_113 : decode cL_act 113 = .ok (.ishr, 1) := by decide +kernel
theorem dL_act_114 : decode cL_act 114 = .ok (.bipush 9, 2) := by decide +kernel
theorem dL_act_116 : decode cL_act 116 = .ok (.invokestatic 81, 3) := by decide +kernel
theorem dL_act_119 : decode cL_act 119 = .ok (.iconst 0, 1) := by decide +kernel
theorem dL_act_120 : decode cL_act 120 = .ok (.invokestatic 84, 3) := by decide +kernel
theorem dL_act_123 : decode cL_act 123 = .ok (.ireturn, 1) := by decide +kernel
theorem dL_act_124 : decode cL_act 124 = .ok (.aload_n 0, 1) := by decide +kernel
theorem dL_act_125 : decode cL_act 125 = .ok (.iconst 3, 1) := by decide +kernel
theorem dL_act_126 : decode cL_act 126 = .ok (.iload_n 1, 1) := by decide +kernel
theorem dL_act_127 : decode cL_act 127 = .ok (.bipush 8, 2) := by decide +kernel
theorem dL_act_129 : decode cL_act 129 = .ok (.invokestatic 81, 3) := by decide +kernel
theorem dL_act_132 : decode cL_act 132 = .ok (.iconst 0, 1) := by decide +kernel
theorem dL_act_133 : decode cL_act 133 = .ok (.iconst 0, 1) := by decide +kernel
theorem dL_act_134 : decode cL_act 134 = .ok (.invokestatic 84, 3) := by decide +kernel
theorem dL_act_137 : decode cL_act 137 = .ok (.ireturn, 1) := by decide +kernel
theorem dL_act_138 : decode cL_act 138 = .ok (.aload_n 0, 1) := by decide +kernel
theorem dL_act_139 : decode cL_act 139 = .ok (.iconst 4, 1) := by decide +kernel
theorem dL_act_140 : decode cL_act 140 = .ok (.iload_n 1, 1) := by decide +kernel
theorem dL_act_141 : decode cL_act 141 = .ok (.iconst 4, 1) := by decide +kernel
theorem dL_act_142 : decode cL_act 142 = .ok (.invokestatic 81, 3) := by decide +kernel
theorem dL_act_145 : decode cL_act 145 = .ok (.iload_n 1, 1) := by decide +kernel
theorem dL_act_146 : decode cL_act 146 = .ok (.iconst 3, 1) := by decide +kernel
theorem dL_act_147 : decode cL_act 147 = .ok (.ishr, 1) := by decide +kernel
theorem dL_act_148 : decode cL_act 148 = .ok (.bipush 26, 2) := by decide +kernel
theorem dL_act_150 : decode cL_act 150 = .ok (.invokestatic 81, 3) := by decide +kernel
theorem dL_act_153 : decode cL_act 153 = .ok (.iconst 0, 1) := by decide +kernel
theorem dL_act_154 : decode cL_act 154 = .ok (.invokestatic 84, 3) := by decide +kernel
theorem dL_act_157 : decode cL_act 157 = .ok (.ireturn, 1) := by decide +kernel
theorem dL_act_158 : decode cL_act 158 = .ok (.aload_n 0, 1) := by decide +kernel
theorem dL_act_159 : decode cL_act 159 = .ok (.iload_n 1, 1) := by decide +kernel
theorem dL_act_160 : decode cL_act 160 = .ok (.iconst 3, 1) := by decide +kernel
theorem dL_act_161 : decode cL_act 161 = .ok (.invokestatic 81, 3) := by decide +kernel
theorem dL_act_164 : decode cL_act 164 = .ok (.iload_n 1, 1) := by decide +kernel
theorem dL_act_165 : decode cL_act 165 = .ok (.iconst 3, 1) := by decide +kernel
theorem dL_act_166 : decode cL_act 166 = .ok (.ishr, 1) := by decide +kernel
theorem dL_act_167 : decode cL_act 167 = .ok (.bipush 8, 2) := by decide +kernel
theorem dL_act_169 : decode cL_act 169 = .ok (.invokestatic 81, 3) := by decide +kernel
theorem dL_act_172 : decode cL_act 172 = .ok (.iconst 1, 1) := by decide +kernel
theorem dL_act_173 : decode cL_act 173 = .ok (.iload_n 1, 1) := by decide +kernel
theorem dL_act_174 : decode cL_act 174 = .ok (.iconst 5, 1) := by decide +kernel
theorem dL_act_175 : decode cL_act 175 = .ok (.ishr, 1) := by decide +kernel
theorem dL_act_176 : decode cL_act 176 = .ok (.bipush 12, 2) := by decide +kernel
theorem dL_act_178 : decode cL_act 178 = .ok (.invokestatic 81, 3) := by decide +kernel
theorem dL_act_181 : decode cL_act 181 = .ok (.iadd, 1) := by decide +kernel
theorem dL_act_182 : decode cL_act 182 = .ok (.invokestatic 88, 3) := by decide +kernel
theorem dL_act_185 : decode cL_act 185 = .ok (.ireturn, 1) := by decide +kernel
theorem dL_act_186 : decode cL_act 186 = .ok (.aload_n 0, 1) := by decide +kernel
theorem dL_act_187 : decode cL_act 187 = .ok (.iconst 5, 1) := by decide +kernel
theorem dL_act_188 : decode cL_act 188 = .ok (.iload 4, 2) := by decide +kernel
theorem dL_act_190 : decode cL_act 190 = .ok (.iload_n 1, 1) := by decide +kernel
theorem dL_act_191 : decode cL_act 191 = .ok (.iconst 4, 1) := by decide +kernel
theorem dL_act_192 : decode cL_act 192 = .ok (.ishr, 1) := by decide +kernel
theorem dL_act_193 : decode cL_act 193 = .ok (.sipush 6000, 3) := by decide +kernel
theorem dL_act_196 : decode cL_act 196 = .ok (.invokestatic 81, 3) := by decide +kernel
theorem dL_act_199 : decode cL_act 199 = .ok (.iconst 1, 1) := by decide +kernel
theorem dL_act_200 : decode cL_act 200 = .ok (.iload_n 1, 1) := by decide +kernel
theorem dL_act_201 : decode cL_act 201 = .ok (.bipush 6, 2) := by decide +kernel
theorem dL_act_203 : decode cL_act 203 = .ok (.ishr, 1) := by decide +kernel
theorem dL_act_204 : decode cL_act 204 = .ok (.bipush 100, 2) := by decide +kernel
theorem dL_act_206 : decode cL_act 206 = .ok (.invokestatic 81, 3) := by decide +kernel
theorem dL_act_209 : decode cL_act 209 = .ok (.iadd, 1) := by decide +kernel
theorem dL_act_210 : decode cL_act 210 = .ok (.invokestatic 84, 3) := by decide +kernel
theorem dL_act_213 : decode cL_act 213 = .ok (.iconst (-1), 1) := by decide +kernel
theorem dL_act_214 : decode cL_act 214 = .ok (.if_icmp .ge 8, 3) := by decide +kernel
theorem dL_act_217 : decode cL_act 217 = .ok (.bipush (-4), 2) := by decide +kernel
theorem dL_act_219 : decode cL_act 219 = .ok (.goto 4, 3) := by decide +kernel
theorem dL_act_222 : decode cL_act 222 = .ok (.iconst 0, 1) := by decide +kernel
theorem dL_act_223 : decode cL_act 223 = .ok (.ireturn, 1) := by decide +kernel
set_option maxRecDepth 20000 in
theorem ggL_law_X4_init : GoodIn wsL_law wsX4_init := goodIn_r _ [5, 6, 7, 8, 9, 10, 11, 12, 13, 14, 15, 16, 17, 18, 19, 20, 21, 22, 23, 24, 25, 26, 27, 28, 29, 30, 31, 32, 33, 34, 35, 36, 37, 38, 39, 40, 41, 42, 43, 44, 45, 46, 47, 48, 49, 50, 51, 52, 53, 54, 55, 56, 57, 58, 59, 414, 415, 416, 409, 410, 411, 412, 413, 417, 418, 419, 420, 421, 422, 423, 424, 425, 426, 427, 428, 429, 430, 431, 432] (by decide +kernel) (by decide +kernel)
set_option maxRecDepth 20000 in
theorem gL_law_X4_init : GoodIn wsL_law (wsX4_init) := ggL_law_X4_init
set_option maxRecDepth 20000 in
theorem ggL_law_L_cell : GoodIn wsL_law wsL_cell := goodIn_r _ [63, 64] (by decide +kernel) (by decide +kernel)
set_option maxRecDepth 20000 in
theorem gL_law_L_cell : GoodIn wsL_law (va_wsS RL 93 yL_cell wsL_cell) := goodIn_app (goodIn_of _ (by decide +kernel)) ggL_law_L_cell
set_option maxRecDepth 20000 in
theorem ggL_law_L_low : GoodIn wsL_law wsL_low := goodIn_r _ [67, 68] (by decide +kernel) (by decide +kernel)
set_option maxRecDepth 20000 in
theorem gL_law_L_low : GoodIn wsL_law (va_wsS RL 81 yL_low wsL_low) := goodIn_app (goodIn_of _ (by decide +kernel)) ggL_law_L_low
set_option maxRecDepth 20000 in
theorem ggL_law_L_does : GoodIn wsL_law wsL_does := goodIn_ca (goodIn_ca (goodIn_ca (goodIn_r _ [71, 72, 73, 74, 75, 76, 77, 2, 78, 79, 80, 81, 82, 16, 83, 84, 85, 86, 87, 88, 15, 89, 39, 90, 91, 92, 93, 94, 40, 95, 96, 97, 98, 99, 100, 12, 101, 102, 103, 104, 25, 105, 106, 107, 11, 108, 31, 33, 109, 110, 111, 112, 113, 114, 115, 116, 34, 117, 118, 119, 120, 121, 122, 123, 124, 125, 126, 127, 128, 129, 130, 131, 132, 41, 133, 134, 135, 136, 137, 138, 139, 140, 141, 142, 143, 144, 145, 20, 146, 147, 148, 149, 150, 151, 19, 152, 50, 153, 154, 155, 156, 157, 158, 159, 160, 24, 161, 162, 163, 23, 164, 57, 165, 166, 167, 168, 58, 169, 170, 171, 172, 173, 174, 175, 176, 177, 178, 179, 180, 181, 182, 183, 184, 51, 185, 186, 187, 188, 48, 189, 190, 191, 192, 49, 52, 193, 194, 195, 196, 197, 198, 199, 200, 201, 202, 203, 204, 42, 205, 206, 207, 208, 209, 210, 211, 212, 213, 214, 215, 216, 217, 43, 218, 219, 220, 221, 222, 223, 224, 225, 226, 227, 228, 229, 230, 231, 232, 233, 234, 235, 236, 237, 238, 239, 240, 241, 242, 243, 244, 245, 246, 247, 248, 249, 250, 251, 252, 253, 59, 254, 255, 256, 257, 258, 259, 260, 261, 262, 263, 264, 265, 266, 267, 268, 269, 270, 271, 272, 273, 274, 275, 276, 277, 278, 279, 280, 281, 282, 283, 284, 285, 286, 287, 288, 289, 290, 409, 410, 411, 412, 413, 417, 418, 419, 420, 421, 422, 423, 414, 415, 416, 424, 425, 426, 427, 428, 429, 430, 431, 432] (by decide +kernel) (by decide +kernel)) (goodIn_sub (fun _ h => List.mem_append_left _ (List.mem_append_left _ (List.mem_append_right _ h))) (by decide +kernel))) (goodIn_sub (fun _ h => List.mem_append_left _ (List.mem_append_right _ h)) (by decide +kernel))) (goodIn_sub (fun _ h => List.mem_append_right _ h) (by decide +kernel))
set_option maxRecDepth 20000 in
theorem gL_law_L_does : GoodIn wsL_law (va_wsS RL 84 yL_does wsL_does) := goodIn_app (goodIn_of _ (by decide +kernel)) ggL_law_L_does
set_option maxRecDepth 20000 in
theorem ggL_law_L_tell : GoodIn wsL_law wsL_tell := goodIn_ca (goodIn_ca (goodIn_r _ [293, 30, 294, 295, 62, 296, 72, 297, 298, 299, 2, 300, 79, 80, 99, 100, 16, 125, 126, 127, 15, 128, 90, 84, 85, 83, 301, 302, 303, 304, 40, 129, 130, 131, 132, 41, 305, 306, 307, 308, 43, 309, 310, 311, 312, 20, 146, 147, 148, 193, 194, 195, 19, 196, 48, 313, 314, 315, 316, 49, 317, 318, 319, 320, 51, 321, 322, 323, 324, 52, 325, 326, 327, 328, 24, 329, 330, 331, 23, 332, 254, 333, 334, 335, 336, 12, 101, 102, 103, 104, 25, 206, 207, 208, 11, 209, 31, 210, 211, 212, 213, 33, 337, 338, 339, 340, 218, 219, 220, 221, 222, 223, 224, 225, 42, 226, 227, 228, 229, 230, 231, 232, 233, 234, 235, 236, 237, 238, 239, 240, 241, 242, 243, 244, 245, 246, 247, 248, 249, 409, 410, 411, 412, 413, 417, 418, 419, 420, 421, 422, 423, 424, 425, 426, 427, 428, 429, 430, 431, 432, 414, 415, 416] (by decide +kernel) (by decide +kernel)) (goodIn_sub (fun _ h => List.mem_append_left _ (List.mem_append_left _ (List.mem_append_right _ h))) (by decide +kernel))) (goodIn_sub (fun _ h => List.mem_append_right _ h) (by decide +kernel))
set_option maxRecDepth 20000 in
theorem gL_law_L_tell : GoodIn wsL_law (va_wsS RL 97 yL_tell wsL_tell) := goodIn_app (goodIn_of _ (by decide +kernel)) ggL_law_L_tell
set_option maxRecDepth 20000 in
theorem ggL_law_L_act : GoodIn wsL_law wsL_act := goodIn_ca (goodIn_ca (goodIn_ca (goodIn_r _ [343, 65, 66, 62, 67, 68, 69, 70, 71, 72, 73, 74, 75, 76, 77, 2, 78, 79, 80, 81, 82, 16, 83, 84, 85, 86, 87, 88, 15, 89, 39, 90, 91, 92, 93, 94, 40, 95, 96, 97, 98, 99, 100, 12, 101, 102, 103, 104, 25, 105, 106, 107, 11, 108, 31, 33, 109, 110, 111, 112, 113, 114, 115, 116, 34, 117, 118, 119, 120, 121, 122, 123, 124, 125, 126, 127, 128, 129, 130, 131, 132, 41, 133, 134, 135, 136, 137, 138, 139, 140, 141, 142, 143, 144, 145, 20, 146, 147, 148, 149, 150, 151, 19, 152, 50, 153, 154, 155, 156, 157, 158, 159, 160, 24, 161, 162, 163, 23, 164, 57, 165, 166, 167, 168, 58, 169, 170, 171, 172, 173, 174, 175, 176, 177, 178, 179, 180, 181, 182, 183, 184, 51, 185, 186, 187, 188, 48, 189, 190, 191, 192, 49, 52, 193, 194, 195, 196, 197, 198, 199, 200, 201, 202, 203, 204, 42, 205, 206, 207, 208, 209, 210, 211, 212, 213, 214, 215, 216, 217, 43, 218, 219, 220, 221, 222, 223, 224, 225, 226, 227, 228, 229, 230, 231, 232, 233, 234, 235, 236, 237, 238, 239, 240, 241, 242, 243, 244, 245, 246, 247, 248, 249, 250, 251, 252, 253, 59, 254, 255, 256, 257, 258, 259, 260, 261, 262, 263, 264, 265, 266, 267, 268, 269, 270, 271, 272, 273, 274, 275, 276, 277, 278, 279, 280, 281, 282, 283, 284, 285, 286, 287, 288, 289, 290, 344, 345, 346, 347, 348, 349, 350, 351, 352, 353, 354, 355, 356, 357, 358, 359, 409, 410, 411, 412, 413, 417, 418, 419, 420, 421, 422, 423, 414, 415, 416, 424, 425, 426, 427, 428, 429, 430, 431, 432] (by decide +kernel) (by decide +kernel)) (goodIn_sub (fun _ h => List.mem_append_left _ (List.mem_append_left _ (List.mem_append_right _ h))) (by decide +kernel))) (goodIn_sub (fun _ h => List.mem_append_left _ (List.mem_append_right _ h)) (by decide +kernel))) (goodIn_sub (fun _ h => List.mem_append_right _ h) (by decide +kernel))
set_option maxRecDepth 20000 in
theorem gL_law_L_act : GoodIn wsL_law (va_wsS RL 101 yL_act wsL_act) := goodIn_app (goodIn_of _ (by decide +kernel)) ggL_law_L_act
set_option maxRecDepth 20000 in
theorem ggL_law_L_same : GoodIn wsL_law wsL_same := goodIn_r _ [362] (by decide +kernel) (by decide +kernel)
set_option maxRecDepth 20000 in
theorem gL_law_L_same : GoodIn wsL_law (va_wsS RL 104 yL_same wsL_same) := goodIn_app (goodIn_of _ (by decide +kernel)) ggL_law_L_same
set_option maxRecDepth 20000 in
theorem ggL_law_L_asks : GoodIn wsL_law wsL_asks := goodIn_ca (goodIn_ca (goodIn_r _ [365, 366, 367, 62, 368, 73, 369, 370, 371, 2, 372, 99, 100, 24, 373, 374, 375, 376, 25, 83, 84, 85, 377, 378, 379, 23, 380, 59, 381, 264, 265, 266, 57, 382, 260, 261, 262, 263, 383, 256, 257, 258, 58, 259, 384, 385, 386, 387, 388, 389, 390, 391, 294, 295, 296, 72, 297, 298, 299, 300, 79, 80, 16, 125, 126, 127, 15, 128, 90, 301, 302, 303, 304, 40, 129, 130, 131, 132, 41, 305, 306, 307, 308, 43, 392, 393, 394, 395, 12, 206, 207, 208, 11, 209, 31, 210, 211, 212, 213, 33, 396, 227, 228, 229, 230, 231, 232, 233, 234, 235, 236, 237, 238, 239, 222, 223, 224, 225, 42, 240, 241, 242, 309, 310, 311, 312, 20, 146, 147, 148, 193, 194, 195, 19, 196, 48, 313, 314, 315, 316, 49, 317, 318, 319, 320, 51, 321, 322, 323, 324, 52, 325, 326, 327, 328, 329, 330, 331, 332, 254, 333, 334, 335, 336, 101, 102, 103, 104, 337, 338, 339, 340, 218, 219, 220, 221, 226, 243, 244, 245, 246, 247, 248, 249, 397, 398, 399, 400, 401, 402, 403, 404, 405, 406, 407, 408, 39, 205, 409, 410, 411, 412, 413, 429, 430, 431, 432, 417, 418, 419, 420, 421, 422, 423, 414, 415, 416, 424, 425, 426, 427, 428] (by decide +kernel) (by decide +kernel)) (goodIn_sub (fun _ h => List.mem_append_right _ h) (by decide +kernel))) (goodIn_sub (fun _ h => List.mem_append_left _ (List.mem_append_left _ (List.mem_append_right _ h))) (by decide +kernel))
set_option maxRecDepth 20000 in
theorem gL_law_L_asks : GoodIn wsL_law (va_wsS RL 108 yL_asks wsL_asks) := goodIn_app (goodIn_of _ (by decide +kernel)) ggL_law_L_asks
set_option maxRecDepth 20000 in
theorem ggL_law_L_repairs : GoodIn wsL_law wsL_repairs := goodIn_ca (goodIn_ca (goodIn_ca (goodIn_r _ [346, 72, 73, 74, 347, 348, 349, 2, 350, 79, 80, 99, 100, 81, 82, 16, 20, 146, 147, 148, 83, 84, 85, 125, 126, 127, 15, 128, 90, 351, 186, 187, 19, 188, 48, 129, 130, 131, 132, 41, 352, 353, 354, 355, 356, 357, 358, 359, 49, 409, 410, 411, 412, 413, 417, 418, 419, 420, 421, 422, 423, 424, 425, 426, 427, 428] (by decide +kernel) (by decide +kernel)) (goodIn_sub (fun _ h => List.mem_append_left _ (List.mem_append_left _ (List.mem_append_right _ h))) (by decide +kernel))) (goodIn_sub (fun _ h => List.mem_append_right _ h) (by decide +kernel))) (goodIn_sub (fun _ h => List.mem_append_left _ (List.mem_append_right _ h)) (by decide +kernel))
set_option maxRecDepth 20000 in
theorem gL_law_L_repairs : GoodIn wsL_law (va_wsS RL 88 yL_repairs wsL_repairs) := goodIn_app (goodIn_of _ (by decide +kernel)) ggL_law_L_repairs
set_option maxRecDepth 20000 in
theorem ggL_law_L_of : GoodIn wsL_law wsL_of := goodIn_ca (goodIn_ca (goodIn_r _ [296, 72, 297, 298, 299, 2, 300, 79, 80, 99, 100, 16, 125, 126, 127, 15, 128, 90, 84, 85, 83, 301, 302, 303, 304, 40, 129, 130, 131, 132, 41, 305, 306, 307, 308, 43, 409, 410, 411, 412, 413, 417, 418, 419, 420, 421, 422, 423] (by decide +kernel) (by decide +kernel)) (goodIn_sub (fun _ h => List.mem_append_left _ (List.mem_append_left _ (List.mem_append_right _ h))) (by decide +kernel))) (goodIn_sub (fun _ h => List.mem_append_right _ h) (by decide +kernel))
set_option maxRecDepth 20000 in
theorem gL_law_L_of : GoodIn wsL_law (va_wsS RL 52 yL_of wsL_of) := goodIn_app (goodIn_of _ (by decide +kernel)) ggL_law_L_of
theorem dL_law_0 : decode cL_law 0 = .ok (.new 10, 3) := by decide +kernel
theorem dL_law_3 : decode cL_law 3 = .ok (.dup, 1) := by decide +kernel
theorem dL_law_4 : decode cL_law 4 = .ok (.invokespecial 92, 3) := by decide +kernel
theorem dL_law_7 : decode cL_law 7 = .ok (.astore_n 1, 1) := by decide +kernel
theorem dL_law_8 : decode cL_law 8 = .ok (.iconst 0, 1) := by decide +kernel
theorem dL_law_9 : decode cL_law 9 = .ok (.istore_n 2, 1) := by decide +kernel
theorem dL_law_10 : decode cL_law 10 = .ok (.iconst 0, 1) := by decide +kernel
theorem dL_law_11 : decode cL_law 11 = .ok (.istore_n 3, 1) := by decide +kernel
theorem dL_law_12 : decode cL_law 12 = .ok (.iconst 0, 1) := by decide +kernel
theorem dL_law_13 : decode cL_law 13 = .ok (.istore 4, 2) := by decide +kernel
theorem dL_law_15 : decode cL_law 15 = .ok (.iload 4, 2) := by decide +kernel
theorem dL_law_17 : decode cL_law 17 = .ok (.bipush 44, 2) := by decide +kernel
theorem dL_law_19 : decode cL_law 19 = .ok (.if_icmp .ge 189, 3) := by decide +kernel
theorem dL_law_22 : decode cL_law 22 = .ok (.aload_n 0, 1) := by decide +kernel
theorem dL_law_23 : decode cL_law 23 = .ok (.iconst 2, 1) := by decide +kernel
theorem dL_law_24 : decode cL_law 24 = .ok (.iload 4, 2) := by decide +kernel
theorem dL_law_26 : decode cL_law 26 = .ok (.imul, 1) := by decide +kernel
theorem dL_law_27 : decode cL_law 27 = .ok (.invokestatic 93, 3) := by decide +kernel
theorem dL_law_30 : decode cL_law 30 = .ok (.istore 5, 2) := by decide +kernel
theorem dL_law_32 : decode cL_law 32 = .ok (.aload_n 0, 1) := by decide +kernel
theorem dL_law_33 : decode cL_law 33 = .ok (.iconst 2, 1) := by decide +kernel
theorem dL_law_34 : decode cL_law 34 = .ok (.iload 4, 2) := by decide +kernel
theorem dL_law_36 : decode cL_law 36 = .ok (.imul, 1) := by decide +kernel
theorem dL_law_37 : decode cL_law 37 = .ok (.iconst 1, 1) := by decide +kernel
theorem dL_law_38 : decode cL_law 38 = .ok (.iadd, 1) := by decide +kernel
theorem dL_law_39 : decode cL_law 39 = .ok (.invokestatic 93, 3) := by decide +kernel
theorem dL_law_42 : decode cL_law 42 = .ok (.istore 6, 2) := by decide +kernel
theorem dL_law_44 : decode cL_law 44 = .ok (.iload 4, 2) := by decide +kernel
theorem dL_law_46 : decode cL_law 46 = .ok (.iconst 3, 1) := by decide +kernel
theorem dL_law_47 : decode cL_law 47 = .ok (.if_icmp .ge 7, 3) := by decide +kernel
theorem dL_law_50 : decode cL_law 50 = .ok (.iconst 0, 1) := by decide +kernel
theorem dL_law_51 : decode cL_law 51 = .ok (.goto 12, 3) := by decide +kernel
theorem dL_law_54 : decode cL_law 54 = .ok (.iload 5, 2) := by decide +kernel
theorem dL_law_56 : decode cL_law 56 = .ok (.iconst 3, 1) := by decide +kernel
theorem dL_law_57 : decode cL_law 57 = .ok (.ishr, 1) := by decide +kernel
theorem dL_law_58 : decode cL_law 58 = .ok (.bipush 13, 2) := by decide +kernel
theorem dL_law_60 : decode cL_law 60 = .ok (.invokestatic 81, 3) := by decide +kernel
theorem dL_law_63 : decode cL_law 63 = .ok (.istore 7, 2) := by decide +kernel
theorem dL_law_65 : decode cL_law 65 = .ok (.iload 7, 2) := by decide +kernel
theorem dL_law_67 : decode cL_law 67 = .ok (.bipush 9, 2) := by decide +kernel
theorem dL_law_69 : decode cL_law 69 = .ok (.if_icmp .le 38, 3) := by decide +kernel
theorem dL_law_72 : decode cL_law 72 = .ok (.iconst 1, 1) := by decide +kernel
theorem dL_law_73 : decode cL_law 73 = .ok (.iload 6, 2) := by decide +kernel
theorem dL_law_75 : decode cL_law 75 = .ok (.bipush 8, 2) := by decide +kernel
theorem dL_law_77 : decode cL_law 77 = .ok (.invokestatic 81, 3) := by decide +kernel
theorem dL_law_80 : decode cL_law 80 = .ok (.iadd, 1) := by decide +kernel
theorem dL_law_81 : decode cL_law 81 = .ok (.istore 8, 2) := by decide +kernel
theorem dL_law_83 : decode cL_law 83 = .ok (.iload_n 2, 1) := by decide +kernel
theorem dL_law_84 : decode cL_law 84 = .ok (.iload 8, 2) := by decide +kernel
theorem dL_law_86 : decode cL_law 86 = .ok (.iadd, 1) := by decide +kernel
theorem dL_law_87 : decode cL_law 87 = .ok (.istore_n 2, 1) := by decide +kernel
theorem dL_law_88 : decode cL_law 88 = .ok (.aload_n 1, 1) := by decide +kernel
theorem dL_law_89 : decode cL_law 89 = .ok (.bipush 6, 2) := by decide +kernel
theorem dL_law_91 : decode cL_law 91 = .ok (.iload 8, 2) := by decide +kernel
theorem dL_law_93 : decode cL_law 93 = .ok (.iconst 0, 1) := by decide +kernel
theorem dL_law_94 : decode cL_law 94 = .ok (.iconst 0, 1) := by decide +kernel
theorem dL_law_95 : decode cL_law 95 = .ok (.invokestatic 84, 3) := by decide +kernel
theorem dL_law_98 : decode cL_law 98 = .ok (.iload_n 2, 1) := by decide +kernel
theorem dL_law_99 : decode cL_law 99 = .ok (.if_icmp .eq 5, 3) := by decide +kernel
theorem dL_law_102 : decode cL_law 102 = .ok (.iconst 0, 1) := by decide +kernel
theorem dL_law_103 : decode cL_law 103 = .ok (.ireturn, 1) := by decide +kernel
theorem dL_law_104 : decode cL_law 104 = .ok (.goto 48, 3) := by decide +kernel
theorem dL_law_107 : decode cL_law 107 = .ok (.aload_n 1, 1) := by decide +kernel
theorem dL_law_108 : decode cL_law 108 = .ok (.iload_n 2, 1) := by decide +kernel
theorem dL_law_109 : decode cL_law 109 = .ok (.invokestatic 97, 3) := by decide +kernel
theorem dL_law_112 : decode cL_law 112 = .ok (.astore 8, 2) := by decide +kernel
theorem dL_law_114 : decode cL_law 114 = .ok (.aload_n 1, 1) := by decide +kernel
theorem dL_law_115 : decode cL_law 115 = .ok (.iload 6, 2) := by decide +kernel
theorem dL_law_117 : decode cL_law 117 = .ok (.iload_n 2, 1) := by decide +kernel
theorem dL_law_118 : decode cL_law 118 = .ok (.iload 7, 2) := by decide +kernel
theorem dL_law_120 : decode cL_law 120 = .ok (.invokestatic 101, 3) := by decide +kernel
theorem dL_law_123 : decode cL_law 123 = .ok (.istore 9, 2) := by decide +kernel
theorem dL_law_125 : decode cL_law 125 = .ok (.iload 9, 2) := by decide +kernel
theorem dL_law_127 : decode cL_law 127 = .ok (.iconst (-1), 1) := by decide +kernel
theorem dL_law_128 : decode cL_law 128 = .ok (.if_icmp .eq 22, 3) := by decide +kernel
theorem dL_law_131 : decode cL_law 131 = .ok (.iload 9, 2) := by decide +kernel
theorem dL_law_133 : decode cL_law 133 = .ok (.iconst (-1), 1) := by decide +kernel
theorem dL_law_134 : decode cL_law 134 = .ok (.if_icmp .ge 18, 3) := by decide +kernel
theorem dL_law_137 : decode cL_law 137 = .ok (.aload 8, 2) := by decide +kernel
theorem dL_law_139 : decode cL_law 139 = .ok (.aload_n 1, 1) := by decide +kernel
theorem dL_law_140 : decode cL_law 140 = .ok (.iload_n 2, 1) := by decide +kernel
theorem dL_law_141 : decode cL_law 141 = .ok (.invokestatic 97, 3) := by decide +kernel
theorem dL_law_144 : decode cL_law 144 = .ok (.invokestatic 104, 3) := by decide +kernel
theorem dL_law_147 : decode cL_law 147 = .ok (.ifCond .ne 5, 3) := by decide +kernel
theorem dL_law_150 : decode cL_law 150 = .ok (.iconst 0, 1) := by decide +kernel
theorem dL_law_151 : decode cL_law 151 = .ok (.ireturn, 1) := by decide +kernel
theorem dL_law_152 : decode cL_law 152 = .ok (.iload 5, 2) := by decide +kernel
theorem dL_law_154 : decode cL_law 154 = .ok (.iconst 4, 1) := by decide +kernel
theorem dL_law_155 : decode cL_law 155 = .ok (.invokestatic 81, 3) := by decide +kernel
theorem dL_law_158 : decode cL_law 158 = .ok (.ifCond .ne 13, 3) := by decide +kernel
theorem dL_law_161 : decode cL_law 161 = .ok (.iload_n 3, 1) := by decide +kernel
theorem dL_law_162 : decode cL_law 162 = .ok (.bipush 6, 2) := by decide +kernel
theorem dL_law_164 : decode cL_law 164 = .ok (.if_icmp .ge 7, 3) := by decide +kernel
theorem dL_law_167 : decode cL_law 167 = .ok (.iconst 1, 1) := by decide +kernel
theorem dL_law_168 : decode cL_law 168 = .ok (.goto 4, 3) := by decide +kernel
theorem dL_law_171 : decode cL_law 171 = .ok (.iconst 0, 1) := by decide +kernel
theorem dL_law_172 : decode cL_law 172 = .ok (.istore 8, 2) := by decide +kernel
theorem dL_law_174 : decode cL_law 174 = .ok (.iload_n 3, 1) := by decide +kernel
theorem dL_law_175 : decode cL_law 175 = .ok (.iload 8, 2) := by decide +kernel
theorem dL_law_177 : decode cL_law 177 = .ok (.ifCond .eq 7, 3) := by decide +kernel
theorem dL_law_180 : decode cL_law 180 = .ok (.iconst 1, 1) := by decide +kernel
theorem dL_law_181 : decode cL_law 181 = .ok (.goto 4, 3) := by decide +kernel
theorem dL_law_184 : decode cL_law 184 = .ok (.iconst 0, 1) := by decide +kernel
theorem dL_law_185 : decode cL_law 185 = .ok (.iadd, 1) := by decide +kernel
theorem dL_law_186 : decode cL_law 186 = .ok (.istore_n 3, 1) := by decide +kernel
theorem dL_law_187 : decode cL_law 187 = .ok (.iload 8, 2) := by decide +kernel
theorem dL_law_189 : decode cL_law 189 = .ok (.ifCond .eq 13, 3) := by decide +kernel
theorem dL_law_192 : decode cL_law 192 = .ok (.aload_n 1, 1) := by decide +kernel
theorem dL_law_193 : decode cL_law 193 = .ok (.iload_n 2, 1) := by decide +kernel
theorem dL_law_194 : decode cL_law 194 = .ok (.invokestatic 108, 3) := by decide +kernel
theorem dL_law_197 : decode cL_law 197 = .ok (.ifCond .ne 5, 3) := by decide +kernel
theorem dL_law_200 : decode cL_law 200 = .ok (.iconst 0, 1) := by decide +kernel
theorem dL_law_201 : decode cL_law 201 = .ok (.ireturn, 1) := by decide +kernel
theorem dL_law_202 : decode cL_law 202 = .ok (.iinc 4 1, 3) := by decide +kernel
theorem dL_law_205 : decode cL_law 205 = .ok (.goto (-190), 3) := by decide +kernel
theorem dL_law_208 : decode cL_law 208 = .ok (.aload_n 1, 1) := by decide +kernel
theorem dL_law_209 : decode cL_law 209 = .ok (.iload_n 2, 1) := by decide +kernel
theorem dL_law_210 : decode cL_law 210 = .ok (.invokestatic 108, 3) := by decide +kernel
theorem dL_law_213 : decode cL_law 213 = .ok (.ifCond .eq 115, 3) := by decide +kernel
theorem dL_law_216 : decode cL_law 216 = .ok (.aload_n 1, 1) := by decide +kernel
theorem dL_law_217 : decode cL_law 217 = .ok (.iconst 0, 1) := by decide +kernel
theorem dL_law_218 : decode cL_law 218 = .ok (.iconst (-1), 1) := by decide +kernel
theorem dL_law_219 : decode cL_law 219 = .ok (.iconst 0, 1) := by decide +kernel
theorem dL_law_220 : decode cL_law 220 = .ok (.iconst 0, 1) := by decide +kernel
theorem dL_law_221 : decode cL_law 221 = .ok (.invokestatic 84, 3) := by decide +kernel
theorem dL_law_224 : decode cL_law 224 = .ok (.bipush (-2), 2) := by decide +kernel
theorem dL_law_226 : decode cL_law 226 = .ok (.if_icmp .ne 102, 3) := by decide +kernel
theorem dL_law_229 : decode cL_law 229 = .ok (.aload_n 1, 1) := by decide +kernel
theorem dL_law_230 : decode cL_law 230 = .ok (.iconst 1, 1) := by decide +kernel
theorem dL_law_231 : decode cL_law 231 = .ok (.iload_n 2, 1) := by decide +kernel
theorem dL_law_232 : decode cL_law 232 = .ok (.iconst 1, 1) := by decide +kernel
theorem dL_law_233 : decode cL_law 233 = .ok (.isub, 1) := by decide +kernel
theorem dL_law_234 : decode cL_law 234 = .ok (.sipush 400, 3) := by decide +kernel
theorem dL_law_237 : decode cL_law 237 = .ok (.iconst 1, 1) := by decide +kernel
theorem dL_law_238 : decode cL_law 238 = .ok (.invokestatic 84, 3) := by decide +kernel
theorem dL_law_241 : decode cL_law 241 = .ok (.bipush (-3), 2) := by decide +kernel
theorem dL_law_243 : decode cL_law 243 = .ok (.if_icmp .ne 85, 3) := by decide +kernel
theorem dL_law_246 : decode cL_law 246 = .ok (.aload_n 1, 1) := by decide +kernel
theorem dL_law_247 : decode cL_law 247 = .ok (.iconst 2, 1) := by decide +kernel
theorem dL_law_248 : decode cL_law 248 = .ok (.sipush 480, 3) := by decide +kernel
theorem dL_law_251 : decode cL_law 251 = .ok (.iconst 0, 1) := by decide +kernel
theorem dL_law_252 : decode cL_law 252 = .ok (.iconst 0, 1) := by decide +kernel
theorem dL_law_253 : decode cL_law 253 = .ok (.invokestatic 84, 3) := by decide +kernel
theorem dL_law_256 : decode cL_law 256 = .ok (.bipush (-3), 2) := by decide +kernel
theorem dL_law_258 : decode cL_law 258 = .ok (.if_icmp .ne 70, 3) := by decide +kernel
theorem dL_law_261 : decode cL_law 261 = .ok (.aload_n 1, 1) := by decide +kernel
theorem dL_law_262 : decode cL_law 262 = .ok (.iconst 3, 1) := by decide +kernel
theorem dL_law_263 : decode cL_law 263 = .ok (.iconst (-1), 1) := by decide +kernel
theorem dL_law_264 : decode cL_law 264 = .ok (.iconst 0, 1) := by decide +kernel
theorem dL_law_265 : decode cL_law 265 = .ok (.iconst 0, 1) := by decide +kernel
theorem dL_law_266 : decode cL_law 266 = .ok (.invokestatic 84, 3) := by decide +kernel
theorem dL_law_269 : decode cL_law 269 = .ok (.bipush (-2), 2) := by decide +kernel
theorem dL_law_271 : decode cL_law 271 = .ok (.if_icmp .ne 57, 3) := by decide +kernel
theorem dL_law_274 : decode cL_law 274 = .ok (.aload_n 1, 1) := by decide +kernel
theorem dL_law_275 : decode cL_law 275 = .ok (.iconst 4, 1) := by decide +kernel
theorem dL_law_276 : decode cL_law 276 = .ok (.iconst 3, 1) := by decide +kernel
theorem dL_law_277 : decode cL_law 277 = .ok (.iconst 0, 1) := by decide +kernel
theorem dL_law_278 : decode cL_law 278 = .ok (.iconst 0, 1) := by decide +kernel
theorem dL_law_279 : decode cL_law 279 = .ok (.invokestatic 84, 3) := by decide +kernel
theorem dL_law_282 : decode cL_law 282 = .ok (.bipush (-2), 2) := by decide +kernel
theorem dL_law_284 : decode cL_law 284 = .ok (.if_icmp .ne 44, 3) := by decide +kernel
theorem dL_law_287 : decode cL_law 287 = .ok (.aload_n 1, 1) := by decide +kernel
theorem dL_law_288 : decode cL_law 288 = .ok (.iconst (-1), 1) := by decide +kernel
theorem dL_law_289 : decode cL_law 289 = .ok (.iconst 0, 1) := by decide +kernel
theorem dL_law_290 : decode cL_law 290 = .ok (.iconst 1, 1) := by decide +kernel
theorem dL_law_291 : decode cL_law 291 = .ok (.invokestatic 88, 3) := by decide +kernel
theorem dL_law_294 : decode cL_law 294 = .ok (.bipush (-2), 2) := by decide +kernel
theorem dL_law_296 : decode cL_law 296 = .ok (.if_icmp .ne 32, 3) := by decide +kernel
theorem dL_law_299 : decode cL_law 299 = .ok (.aload_n 1, 1) := by decide +kernel
theorem dL_law_300 : decode cL_law 300 = .ok (.bipush 6, 2) := by decide +kernel
theorem dL_law_302 : decode cL_law 302 = .ok (.iconst 0, 1) := by decide +kernel
theorem dL_law_303 : decode cL_law 303 = .ok (.iconst 0, 1) := by decide +kernel
theorem dL_law_304 : decode cL_law 304 = .ok (.iconst 0, 1) := by decide +kernel
theorem dL_law_305 : decode cL_law 305 = .ok (.invokestatic 84, 3) := by decide +kernel
theorem dL_law_308 : decode cL_law 308 = .ok (.bipush (-3), 2) := by decide +kernel
theorem dL_law_310 : decode cL_law 310 = .ok (.if_icmp .ne 18, 3) := by decide +kernel
theorem dL_law_313 : decode cL_law 313 = .ok (.aload_n 1, 1) := by decide +kernel
theorem dL_law_314 : decode cL_law 314 = .ok (.iconst (-1), 1) := by decide +kernel
theorem dL_law_315 : decode cL_law 315 = .ok (.iconst 0, 1) := by decide +kernel
theorem dL_law_316 : decode cL_law 316 = .ok (.invokestatic 52, 3) := by decide +kernel
theorem dL_law_319 : decode cL_law 319 = .ok (.bipush (-2), 2) := by decide +kernel
theorem dL_law_321 : decode cL_law 321 = .ok (.if_icmp .ne 7, 3) := by decide +kernel
theorem dL_law_324 : decode cL_law 324 = .ok (.iconst 1, 1) := by decide +kernel
theorem dL_law_325 : decode cL_law 325 = .ok (.goto 4, 3) := by decide +kernel
theorem dL_law_328 : decode cL_law 328 = .ok (.iconst 0, 1) := by decide +kernel
theorem dL_law_329 : decode cL_law 329 = .ok (.ireturn, 1) := by decide +kernel
