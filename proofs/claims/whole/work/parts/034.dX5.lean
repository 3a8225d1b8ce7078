/-! printed: names, fields, word lists, decode rows (out of claim/NAMES.whole.lean.txt) -/
theorem dX5_init_0 : decode cX5_init 0 = .ok (.aload_n 0, 1) := by decide +kernel
theorem dX5_init_1 : decode cX5_init 1 = .ok (.invokespecial 1, 3) := by decide +kernel
theorem dX5_init_4 : decode cX5_init 4 = .ok (.aload_n 0, 1) := by decide +kernel
theorem dX5_init_5 : decode cX5_init 5 = .ok (.bipush 12, 2) := by decide +kernel
theorem dX5_init_7 : decode cX5_init 7 = .ok (.newarray .int, 2) := by decide +kernel
theorem dX5_init_9 : decode cX5_init 9 = .ok (.putfield 7, 3) := by decide +kernel
theorem dX5_init_12 : decode cX5_init 12 = .ok (.aload_n 0, 1) := by decide +kernel
theorem dX5_init_13 : decode cX5_init 13 = .ok (.bipush 12, 2) := by decide +kernel
theorem dX5_init_15 : decode cX5_init 15 = .ok (.newarray .int, 2) := by decide +kernel
theorem dX5_init_17 : decode cX5_init 17 = .ok (.putfield 13, 3) := by decide +kernel
theorem dX5_init_20 : decode cX5_init 20 = .ok (.aload_n 0, 1) := by decide +kernel
theorem dX5_init_21 : decode cX5_init 21 = .ok (.bipush 12, 2) := by decide +kernel
theorem dX5_init_23 : decode cX5_init 23 = .ok (.newarray .int, 2) := by decide +kernel
theorem dX5_init_25 : decode cX5_init 25 = .ok (.putfield 16, 3) := by decide +kernel
theorem dX5_init_28 : decode cX5_init 28 = .ok (.aload_n 0, 1) := by decide +kernel
theorem dX5_init_29 : decode cX5_init 29 = .ok (.bipush 12, 2) := by decide +kernel
theorem dX5_init_31 : decode cX5_init 31 = .ok (.newarray .int, 2) := by decide +kernel
theorem dX5_init_33 : decode cX5_init 33 = .ok (.putfield 19, 3) := by decide +kernel
theorem dX5_init_36 : decode cX5_init 36 = .ok (.aload_n 0, 1) := by decide +kernel
theorem dX5_init_37 : decode cX5_init 37 = .ok (.sipush 480, 3) := by decide +kernel
theorem dX5_init_40 : decode cX5_init 40 = .ok (.newarray .int, 2) := by decide +kernel
theorem dX5_init_42 : decode cX5_init 42 = .ok (.putfield 22, 3) := by decide +kernel
theorem dX5_init_45 : decode cX5_init 45 = .ok (.aload_n 0, 1) := by decide +kernel
theorem dX5_init_46 : decode cX5_init 46 = .ok (.sipush 480, 3) := by decide +kernel
theorem dX5_init_49 : decode cX5_init 49 = .ok (.newarray .int, 2) := by decide +kernel
theorem dX5_init_51 : decode cX5_init 51 = .ok (.putfield 25, 3) := by decide +kernel
theorem dX5_init_54 : decode cX5_init 54 = .ok (.aload_n 0, 1) := by decide +kernel
theorem dX5_init_55 : decode cX5_init 55 = .ok (.sipush 480, 3) := by decide +kernel
theorem dX5_init_58 : decode cX5_init 58 = .ok (.newarray .int, 2) := by decide +kernel
theorem dX5_init_60 : decode cX5_init 60 = .ok (.putfield 28, 3) := by decide +kernel
theorem dX5_init_63 : decode cX5_init 63 = .ok (.aload_n 0, 1) := by decide +kernel
theorem dX5_init_64 : decode cX5_init 64 = .ok (.sipush 480, 3) := by decide +kernel
theorem dX5_init_67 : decode cX5_init 67 = .ok (.newarray .int, 2) := by decide +kernel
theorem dX5_init_69 : decode cX5_init 69 = .ok (.putfield 31, 3) := by decide +kernel
theorem dX5_init_72 : decode cX5_init 72 = .ok (.aload_n 0, 1) := by decide +kernel
theorem dX5_init_73 : decode cX5_init 73 = .ok (.sipush 480, 3) := by decide +kernel
theorem dX5_init_76 : decode cX5_init 76 = .ok (.newarray .int, 2) := by decide +kernel
theorem dX5_init_78 : decode cX5_init 78 = .ok (.putfield 34, 3) := by decide +kernel
theorem dX5_init_81 : decode cX5_init 81 = .ok (.aload_n 0, 1) := by decide +kernel
theorem dX5_init_82 : decode cX5_init 82 = .ok (.sipush 480, 3) := by decide +kernel
theorem dX5_init_85 : decode cX5_init 85 = .ok (.newarray .int, 2) := by decide +kernel
theorem dX5_init_87 : decode cX5_init 87 = .ok (.putfield 37, 3) := by decide +kernel
theorem dX5_init_90 : decode cX5_init 90 = .ok (.aload_n 0, 1) := by decide +kernel
theorem dX5_init_91 : decode cX5_init 91 = .ok (.sipush 480, 3) := by decide +kernel
theorem dX5_init_94 : decode cX5_init 94 = .ok (.newarray .int, 2) := by decide +kernel
theorem dX5_init_96 : decode cX5_init 96 = .ok (.putfield 40, 3) := by decide +kernel
theorem dX5_init_99 : decode cX5_init 99 = .ok (.aload_n 0, 1) := by decide +kernel
theorem dX5_init_100 : decode cX5_init 100 = .ok (.iconst 3, 1) := by decide +kernel
theorem dX5_init_101 : decode cX5_init 101 = .ok (.newarray .int, 2) := by decide +kernel
theorem dX5_init_103 : decode cX5_init 103 = .ok (.putfield 43, 3) := by decide +kernel
theorem dX5_init_106 : decode cX5_init 106 = .ok (.aload_n 0, 1) := by decide +kernel
theorem dX5_init_107 : decode cX5_init 107 = .ok (.iconst 3, 1) := by decide +kernel
theorem dX5_init_108 : decode cX5_init 108 = .ok (.newarray .int, 2) := by decide +kernel
theorem dX5_init_110 : decode cX5_init 110 = .ok (.putfield 46, 3) := by decide +kernel
theorem dX5_init_113 : decode cX5_init 113 = .ok (.aload_n 0, 1) := by decide +kernel
theorem dX5_init_114 : decode cX5_init 114 = .ok (.iconst 3, 1) := by decide +kernel
theorem dX5_init_115 : decode cX5_init 115 = .ok (.newarray .int, 2) := by decide +kernel
theorem dX5_init_117 : decode cX5_init 117 = .ok (.putfield 49, 3) := by decide +kernel
theorem dX5_init_120 : decode cX5_init 120 = .ok (.aload_n 0, 1) := by decide +kernel
theorem dX5_init_121 : decode cX5_init 121 = .ok (.iconst 3, 1) := by decide +kernel
theorem dX5_init_122 : decode cX5_init 122 = .ok (.newarray .int, 2) := by decide +kernel
theorem dX5_init_124 : decode cX5_init 124 = .ok (.putfield 52, 3) := by decide +kernel
theorem dX5_init_127 : decode cX5_init 127 = .ok (.aload_n 0, 1) := by decide +kernel
theorem dX5_init_128 : decode cX5_init 128 = .ok (.iconst 3, 1) := by decide +kernel
theorem dX5_init_129 : decode cX5_init 129 = .ok (.newarray .int, 2) := by decide +kernel
theorem dX5_init_131 : decode cX5_init 131 = .ok (.putfield 55, 3) := by decide +kernel
theorem dX5_init_134 : decode cX5_init 134 = .ok (.iconst 0, 1) := by decide +kernel
theorem dX5_init_135 : decode cX5_init 135 = .ok (.istore_n 1, 1) := by decide +kernel
theorem dX5_init_136 : decode cX5_init 136 = .ok (.iload_n 1, 1) := by decide +kernel
theorem dX5_init_137 : decode cX5_init 137 = .ok (.sipush 480, 3) := by decide +kernel
theorem dX5_init_140 : decode cX5_init 140 = .ok (.if_icmp .ge 38, 3) := by decide +kernel
theorem dX5_init_143 : decode cX5_init 143 = .ok (.aload_n 0, 1) := by decide +kernel
theorem dX5_init_144 : decode cX5_init 144 = .ok (.getfield 22, 3) := by decide +kernel
theorem dX5_init_147 : decode cX5_init 147 = .ok (.iload_n 1, 1) := by decide +kernel
theorem dX5_init_148 : decode cX5_init 148 = .ok (.bipush 10, 2) := by decide +kernel
theorem dX5_init_150 : decode cX5_init 150 = .ok (.iastore, 1) := by decide +kernel
theorem dX5_init_151 : decode cX5_init 151 = .ok (.aload_n 0, 1) := by decide +kernel
theorem dX5_init_152 : decode cX5_init 152 = .ok (.getfield 28, 3) := by decide +kernel
theorem dX5_init_155 : decode cX5_init 155 = .ok (.iload_n 1, 1) := by decide +kernel
theorem dX5_init_156 : decode cX5_init 156 = .ok (.iconst (-1), 1) := by decide +kernel
theorem dX5_init_157 : decode cX5_init 157 = .ok (.iastore, 1) := by decide +kernel
theorem dX5_init_158 : decode cX5_init 158 = .ok (.aload_n 0, 1) := by decide +kernel
theorem dX5_init_159 : decode cX5_init 159 = .ok (.getfield 31, 3) := by decide +kernel
theorem dX5_init_162 : decode cX5_init 162 = .ok (.iload_n 1, 1) := by decide +kernel
theorem dX5_init_163 : decode cX5_init 163 = .ok (.iconst (-1), 1) := by decide +kernel
theorem dX5_init_164 : decode cX5_init 164 = .ok (.iastore, 1) := by decide +kernel
theorem dX5_init_165 : decode cX5_init 165 = .ok (.aload_n 0, 1) := by decide +kernel
theorem dX5_init_166 : decode cX5_init 166 = .ok (.getfield 34, 3) := by decide +kernel
theorem dX5_init_169 : decode cX5_init 169 = .ok (.iload_n 1, 1) := by decide +kernel
theorem dX5_init_170 : decode cX5_init 170 = .ok (.iconst 2, 1) := by decide +kernel
theorem dX5_init_171 : decode cX5_init 171 = .ok (.iastore, 1) := by decide +kernel
theorem dX5_init_172 : decode cX5_init 172 = .ok (.iinc 1 1, 3) := by decide +kernel
theorem dX5_init_175 : decode cX5_init 175 = .ok (.goto (-39), 3) := by decide +kernel
theorem dX5_init_178 : decode cX5_init 178 = .ok (.iconst 0, 1) := by decide +kernel
theorem dX5_init_179 : decode cX5_init 179 = .ok (.istore_n 1, 1) := by decide +kernel
theorem dX5_init_180 : decode cX5_init 180 = .ok (.iload_n 1, 1) := by decide +kernel
theorem dX5_init_181 : decode cX5_init 181 = .ok (.iconst 3, 1) := by decide +kernel
theorem dX5_init_182 : decode cX5_init 182 = .ok (.if_icmp .ge 24, 3) := by decide +kernel
theorem dX5_init_185 : decode cX5_init 185 = .ok (.aload_n 0, 1) := by decide +kernel
theorem dX5_init_186 : decode cX5_init 186 = .ok (.getfield 43, 3) := by decide +kernel
theorem dX5_init_189 : decode cX5_init 189 = .ok (.iload_n 1, 1) := by decide +kernel
theorem dX5_init_190 : decode cX5_init 190 = .ok (.bipush 8, 2) := by decide +kernel
theorem dX5_init_192 : decode cX5_init 192 = .ok (.iastore, 1) := by decide +kernel
theorem dX5_init_193 : decode cX5_init 193 = .ok (.aload_n 0, 1) := by decide +kernel
theorem dX5_init_194 : decode cX5_init 194 = .ok (.getfield 46, 3) := by decide +kernel
theorem dX5_init_197 : decode cX5_init 197 = .ok (.iload_n 1, 1) := by decide +kernel
theorem dX5_init_198 : decode cX5_init 198 = .ok (.iconst (-1), 1) := by decide +kernel
theorem dX5_init_199 : decode cX5_init 199 = .ok (.iastore, 1) := by decide +kernel
theorem dX5_init_200 : decode cX5_init 200 = .ok (.iinc 1 1, 3) := by decide +kernel
theorem dX5_init_203 : decode cX5_init 203 = .ok (.goto (-23), 3) := by decide +kernel
theorem dX5_init_206 : decode cX5_init 206 = .ok (.return_, 1) := by decide +kernel
theorem dX5_thrown_0 : decode cX5_thrown 0 = .ok (.aload_n 0, 1) := by decide +kernel
theorem dX5_thrown_1 : decode cX5_thrown 1 = .ok (.getfield 58, 3) := by decide +kernel
theorem dX5_thrown_4 : decode cX5_thrown 4 = .ok (.ireturn, 1) := by decide +kernel
theorem dX5_fails_0 : decode cX5_fails 0 = .ok (.aload_n 0, 1) := by decide +kernel
theorem dX5_fails_1 : decode cX5_fails 1 = .ok (.iload_n 1, 1) := by decide +kernel
theorem dX5_fails_2 : decode cX5_fails 2 = .ok (.putfield 58, 3) := by decide +kernel
theorem dX5_fails_5 : decode cX5_fails 5 = .ok (.iload_n 1, 1) := by decide +kernel
theorem dX5_fails_6 : decode cX5_fails 6 = .ok (.ifCond .le 7, 3) := by decide +kernel
theorem dX5_fails_9 : decode cX5_fails 9 = .ok (.iconst 1, 1) := by decide +kernel
theorem dX5_fails_10 : decode cX5_fails 10 = .ok (.goto 4, 3) := by decide +kernel
theorem dX5_fails_13 : decode cX5_fails 13 = .ok (.iconst 0, 1) := by decide +kernel
theorem dX5_fails_14 : decode cX5_fails 14 = .ok (.ireturn, 1) := by decide +kernel
theorem dX5_in_0 : decode cX5_in 0 = .ok (.iload_n 1, 1) := by decide +kernel
theorem dX5_in_1 : decode cX5_in 1 = .ok (.iload_n 2, 1) := by decide +kernel
theorem dX5_in_2 : decode cX5_in 2 = .ok (.if_icmp .lt 12, 3) := by decide +kernel
theorem dX5_in_5 : decode cX5_in 5 = .ok (.iload_n 1, 1) := by decide +kernel
theorem dX5_in_6 : decode cX5_in 6 = .ok (.iload_n 3, 1) := by decide +kernel
theorem dX5_in_7 : decode cX5_in 7 = .ok (.if_icmp .gt 7, 3) := by decide +kernel
theorem dX5_in_10 : decode cX5_in 10 = .ok (.iconst 1, 1) := by decide +kernel
theorem dX5_in_11 : decode cX5_in 11 = .ok (.goto 4, 3) := by decide +kernel
theorem dX5_in_14 : decode cX5_in 14 = .ok (.iconst 0, 1) := by decide +kernel
theorem dX5_in_15 : decode cX5_in 15 = .ok (.ireturn, 1) := by decide +kernel
set_option maxRecDepth 20000 in
theorem ggX5_isTurbine_X5_in : GoodIn wsX5_isTurbine wsX5_in := goodIn_r _ [6] (by decide +kernel) (by decide +kernel)
set_option maxRecDepth 20000 in
theorem gX5_isTurbine_X5_in : GoodIn wsX5_isTurbine (wsV RX5 65 RX5 yX5_in wsX5_in) := goodIn_app (goodIn_of _ (by decide +kernel)) ggX5_isTurbine_X5_in
theorem dX5_isTurbine_0 : decode cX5_isTurbine 0 = .ok (.aload_n 0, 1) := by decide +kernel
theorem dX5_isTurbine_1 : decode cX5_isTurbine 1 = .ok (.iload_n 1, 1) := by decide +kernel
theorem dX5_isTurbine_2 : decode cX5_isTurbine 2 = .ok (.iconst 0, 1) := by decide +kernel
theorem dX5_isTurbine_3 : decode cX5_isTurbine 3 = .ok (.aload_n 0, 1) := by decide +kernel
theorem dX5_isTurbine_4 : decode cX5_isTurbine 4 = .ok (.getfield 62, 3) := by decide +kernel
theorem dX5_isTurbine_7 : decode cX5_isTurbine 7 = .ok (.iconst 1, 1) := by decide +kernel
theorem dX5_isTurbine_8 : decode cX5_isTurbine 8 = .ok (.isub, 1) := by decide +kernel
theorem dX5_isTurbine_9 : decode cX5_isTurbine 9 = .ok (.invokevirtual 65, 3) := by decide +kernel
theorem dX5_isTurbine_12 : decode cX5_isTurbine 12 = .ok (.ireturn, 1) := by decide +kernel
set_option maxRecDepth 20000 in
theorem ggX5_turbine_X5_in : GoodIn wsX5_turbine wsX5_in := goodIn_r _ [7] (by decide +kernel) (by decide +kernel)
set_option maxRecDepth 20000 in
theorem gX5_turbine_X5_in : GoodIn wsX5_turbine (wsV RX5 65 RX5 yX5_in wsX5_in) := goodIn_app (goodIn_of _ (by decide +kernel)) ggX5_turbine_X5_in
set_option maxRecDepth 20000 in
theorem ggX5_turbine_X5_fails : GoodIn wsX5_turbine wsX5_fails := goodIn_r _ [11, 12, 13, 14, 15, 16, 17, 18, 19, 20, 21, 22, 23, 24, 25, 26, 27, 28, 29, 30, 31] (by decide +kernel) (by decide +kernel)
set_option maxRecDepth 20000 in
theorem gX5_turbine_X5_fails : GoodIn wsX5_turbine (wsV RX5 69 RX5 yX5_fails wsX5_fails) := goodIn_app (goodIn_of _ (by decide +kernel)) ggX5_turbine_X5_fails
theorem dX5_turbine_0 : decode cX5_turbine 0 = .ok (.iconst 0, 1) := by decide +kernel
theorem dX5_turbine_1 : decode cX5_turbine 1 = .ok (.istore_n 2, 1) := by decide +kernel
theorem dX5_turbine_2 : decode cX5_turbine 2 = .ok (.iconst 0, 1) := by decide +kernel
theorem dX5_turbine_3 : decode cX5_turbine 3 = .ok (.istore_n 3, 1) := by decide +kernel
theorem dX5_turbine_4 : decode cX5_turbine 4 = .ok (.iload_n 3, 1) := by decide +kernel
theorem dX5_turbine_5 : decode cX5_turbine 5 = .ok (.aload_n 0, 1) := by decide +kernel
theorem dX5_turbine_6 : decode cX5_turbine 6 = .ok (.getfield 62, 3) := by decide +kernel
theorem dX5_turbine_9 : decode cX5_turbine 9 = .ok (.if_icmp .ge 27, 3) := by decide +kernel
theorem dX5_turbine_12 : decode cX5_turbine 12 = .ok (.iload_n 2, 1) := by decide +kernel
theorem dX5_turbine_13 : decode cX5_turbine 13 = .ok (.aload_n 0, 1) := by decide +kernel
theorem dX5_turbine_14 : decode cX5_turbine 14 = .ok (.getfield 7, 3) := by decide +kernel
theorem dX5_turbine_17 : decode cX5_turbine 17 = .ok (.iload_n 3, 1) := by decide +kernel
theorem dX5_turbine_18 : decode cX5_turbine 18 = .ok (.iaload, 1) := by decide +kernel
theorem dX5_turbine_19 : decode cX5_turbine 19 = .ok (.iload_n 1, 1) := by decide +kernel
theorem dX5_turbine_20 : decode cX5_turbine 20 = .ok (.if_icmp .ne 7, 3) := by decide +kernel
theorem dX5_turbine_23 : decode cX5_turbine 23 = .ok (.iconst 1, 1) := by decide +kernel
theorem dX5_turbine_24 : decode cX5_turbine 24 = .ok (.goto 4, 3) := by decide +kernel
theorem dX5_turbine_27 : decode cX5_turbine 27 = .ok (.iconst 0, 1) := by decide +kernel
theorem dX5_turbine_28 : decode cX5_turbine 28 = .ok (.ior, 1) := by decide +kernel
theorem dX5_turbine_29 : decode cX5_turbine 29 = .ok (.istore_n 2, 1) := by decide +kernel
theorem dX5_turbine_30 : decode cX5_turbine 30 = .ok (.iinc 3 1, 3) := by decide +kernel
theorem dX5_turbine_33 : decode cX5_turbine 33 = .ok (.goto (-29), 3) := by decide +kernel
theorem dX5_turbine_36 : decode cX5_turbine 36 = .ok (.aload_n 0, 1) := by decide +kernel
theorem dX5_turbine_37 : decode cX5_turbine 37 = .ok (.aload_n 0, 1) := by decide +kernel
theorem dX5_turbine_38 : decode cX5_turbine 38 = .ok (.iload_n 1, 1) := by decide +kernel
theorem dX5_turbine_39 : decode cX5_turbine 39 = .ok (.iconst 0, 1) := by decide +kernel
theorem dX5_turbine_40 : decode cX5_turbine 40 = .ok (.bipush 23, 2) := by decide +kernel
theorem dX5_turbine_42 : decode cX5_turbine 42 = .ok (.invokevirtual 65, 3) := by decide +kernel
theorem dX5_turbine_45 : decode cX5_turbine 45 = .ok (.ifCond .ne 7, 3) := by decide +kernel
theorem dX5_turbine_48 : decode cX5_turbine 48 = .ok (.iconst 1, 1) := by decide +kernel
theorem dX5_turbine_49 : decode cX5_turbine 49 = .ok (.goto 21, 3) := by decide +kernel
theorem dX5_turbine_52 : decode cX5_turbine 52 = .ok (.iload_n 2, 1) := by decide +kernel
theorem dX5_turbine_53 : decode cX5_turbine 53 = .ok (.ifCond .ne 12, 3) := by decide +kernel
theorem dX5_turbine_56 : decode cX5_turbine 56 = .ok (.aload_n 0, 1) := by decide +kernel
theorem dX5_turbine_57 : decode cX5_turbine 57 = .ok (.getfield 62, 3) := by decide +kernel
theorem dX5_turbine_60 : decode cX5_turbine 60 = .ok (.bipush 12, 2) := by decide +kernel
theorem dX5_turbine_62 : decode cX5_turbine 62 = .ok (.if_icmp .ne 7, 3) := by decide +kernel
theorem dX5_turbine_65 : decode cX5_turbine 65 = .ok (.iconst 2, 1) := by decide +kernel
theorem dX5_turbine_66 : decode cX5_turbine 66 = .ok (.goto 4, 3) := by decide +kernel
theorem dX5_turbine_69 : decode cX5_turbine 69 = .ok (.iconst 0, 1) := by decide +kernel
theorem dX5_turbine_70 : decode cX5_turbine 70 = .ok (.invokevirtual 69, 3) := by decide +kernel
theorem dX5_turbine_73 : decode cX5_turbine 73 = .ok (.ifCond .eq 5, 3) := by decide +kernel
theorem dX5_turbine_76 : decode cX5_turbine 76 = .ok (.iconst (-1), 1) := by decide +kernel
theorem dX5_turbine_77 : decode cX5_turbine 77 = .ok (.ireturn, 1) := by decide +kernel
theorem dX5_turbine_78 : decode cX5_turbine 78 = .ok (.aload_n 0, 1) := by decide +kernel
theorem dX5_turbine_79 : decode cX5_turbine 79 = .ok (.getfield 7, 3) := by decide +kernel
theorem dX5_turbine_82 : decode cX5_turbine 82 = .ok (.aload_n 0, 1) := by decide +kernel
theorem dX5_turbine_83 : decode cX5_turbine 83 = .ok (.getfield 62, 3) := by decide +kernel
theorem dX5_turbine_86 : decode cX5_turbine 86 = .ok (.iload_n 1, 1) := by decide +kernel
theorem dX5_turbine_87 : decode cX5_turbine 87 = .ok (.iastore, 1) := by decide +kernel
theorem dX5_turbine_88 : decode cX5_turbine 88 = .ok (.aload_n 0, 1) := by decide +kernel
theorem dX5_turbine_89 : decode cX5_turbine 89 = .ok (.dup, 1) := by decide +kernel
theorem dX5_turbine_90 : decode cX5_turbine 90 = .ok (.getfield 62, 3) := by decide +kernel
theorem dX5_turbine_93 : decode cX5_turbine 93 = .ok (.iconst 1, 1) := by decide +kernel
theorem dX5_turbine_94 : decode cX5_turbine 94 = .ok (.iadd, 1) := by decide +kernel
theorem dX5_turbine_95 : decode cX5_turbine 95 = .ok (.putfield 62, 3) := by decide +kernel
theorem dX5_turbine_98 : decode cX5_turbine 98 = .ok (.aload_n 0, 1) := by decide +kernel
theorem dX5_turbine_99 : decode cX5_turbine 99 = .ok (.getfield 62, 3) := by decide +kernel
theorem dX5_turbine_102 : decode cX5_turbine 102 = .ok (.iconst 1, 1) := by decide +kernel
theorem dX5_turbine_103 : decode cX5_turbine 103 = .ok (.isub, 1) := by decide +kernel
theorem dX5_turbine_104 : decode cX5_turbine 104 = .ok (.ireturn, 1) := by decide +kernel
set_option maxRecDepth 20000 in
theorem ggX5_wind_X5_in : GoodIn wsX5_wind wsX5_in := goodIn_r _ [8] (by decide +kernel) (by decide +kernel)
set_option maxRecDepth 20000 in
theorem gX5_wind_X5_in : GoodIn wsX5_wind (wsV RX5 65 RX5 yX5_in wsX5_in) := goodIn_app (goodIn_of _ (by decide +kernel)) ggX5_wind_X5_in
set_option maxRecDepth 20000 in
theorem ggX5_wind_X5_fails : GoodIn wsX5_wind wsX5_fails := goodIn_r _ [12, 13, 14, 15, 16, 17, 18, 19, 20, 21, 22, 23, 24, 25, 26, 27, 28, 29, 30, 31, 32] (by decide +kernel) (by decide +kernel)
set_option maxRecDepth 20000 in
theorem gX5_wind_X5_fails : GoodIn wsX5_wind (wsV RX5 69 RX5 yX5_fails wsX5_fails) := goodIn_app (goodIn_of _ (by decide +kernel)) ggX5_wind_X5_fails
theorem dX5_wind_0 : decode cX5_wind 0 = .ok (.aload_n 0, 1) := by decide +kernel
theorem dX5_wind_1 : decode cX5_wind 1 = .ok (.iload_n 1, 1) := by decide +kernel
theorem dX5_wind_2 : decode cX5_wind 2 = .ok (.aload_n 0, 1) := by decide +kernel
theorem dX5_wind_3 : decode cX5_wind 3 = .ok (.getfield 73, 3) := by decide +kernel
theorem dX5_wind_6 : decode cX5_wind 6 = .ok (.sipush 479, 3) := by decide +kernel
theorem dX5_wind_9 : decode cX5_wind 9 = .ok (.invokevirtual 65, 3) := by decide +kernel
theorem dX5_wind_12 : decode cX5_wind 12 = .ok (.ifCond .eq 30, 3) := by decide +kernel
theorem dX5_wind_15 : decode cX5_wind 15 = .ok (.aload_n 0, 1) := by decide +kernel
theorem dX5_wind_16 : decode cX5_wind 16 = .ok (.iload_n 2, 1) := by decide +kernel
theorem dX5_wind_17 : decode cX5_wind 17 = .ok (.iload_n 1, 1) := by decide +kernel
theorem dX5_wind_18 : decode cX5_wind 18 = .ok (.sipush 479, 3) := by decide +kernel
theorem dX5_wind_21 : decode cX5_wind 21 = .ok (.invokevirtual 65, 3) := by decide +kernel
theorem dX5_wind_24 : decode cX5_wind 24 = .ok (.ifCond .eq 18, 3) := by decide +kernel
theorem dX5_wind_27 : decode cX5_wind 27 = .ok (.aload_n 0, 1) := by decide +kernel
theorem dX5_wind_28 : decode cX5_wind 28 = .ok (.iload_n 3, 1) := by decide +kernel
theorem dX5_wind_29 : decode cX5_wind 29 = .ok (.iconst 0, 1) := by decide +kernel
theorem dX5_wind_30 : decode cX5_wind 30 = .ok (.bipush 40, 2) := by decide +kernel
theorem dX5_wind_32 : decode cX5_wind 32 = .ok (.invokevirtual 65, 3) := by decide +kernel
theorem dX5_wind_35 : decode cX5_wind 35 = .ok (.ifCond .eq 7, 3) := by decide +kernel
theorem dX5_wind_38 : decode cX5_wind 38 = .ok (.iconst 1, 1) := by decide +kernel
theorem dX5_wind_39 : decode cX5_wind 39 = .ok (.goto 4, 3) := by decide +kernel
theorem dX5_wind_42 : decode cX5_wind 42 = .ok (.iconst 0, 1) := by decide +kernel
theorem dX5_wind_43 : decode cX5_wind 43 = .ok (.istore 5, 2) := by decide +kernel
theorem dX5_wind_45 : decode cX5_wind 45 = .ok (.aload_n 0, 1) := by decide +kernel
theorem dX5_wind_46 : decode cX5_wind 46 = .ok (.iload 5, 2) := by decide +kernel
theorem dX5_wind_48 : decode cX5_wind 48 = .ok (.ifCond .eq 7, 3) := by decide +kernel
theorem dX5_wind_51 : decode cX5_wind 51 = .ok (.iconst 0, 1) := by decide +kernel
theorem dX5_wind_52 : decode cX5_wind 52 = .ok (.goto 4, 3) := by decide +kernel
theorem dX5_wind_55 : decode cX5_wind 55 = .ok (.iconst 1, 1) := by decide +kernel
theorem dX5_wind_56 : decode cX5_wind 56 = .ok (.invokevirtual 69, 3) := by decide +kernel
theorem dX5_wind_59 : decode cX5_wind 59 = .ok (.ifCond .eq 5, 3) := by decide +kernel
theorem dX5_wind_62 : decode cX5_wind 62 = .ok (.iconst (-1), 1) := by decide +kernel
theorem dX5_wind_63 : decode cX5_wind 63 = .ok (.ireturn, 1) := by decide +kernel
theorem dX5_wind_64 : decode cX5_wind 64 = .ok (.iload_n 1, 1) := by decide +kernel
theorem dX5_wind_65 : decode cX5_wind 65 = .ok (.istore 6, 2) := by decide +kernel
theorem dX5_wind_67 : decode cX5_wind 67 = .ok (.iload 6, 2) := by decide +kernel
theorem dX5_wind_69 : decode cX5_wind 69 = .ok (.iload_n 2, 1) := by decide +kernel
theorem dX5_wind_70 : decode cX5_wind 70 = .ok (.if_icmp .gt 34, 3) := by decide +kernel
theorem dX5_wind_73 : decode cX5_wind 73 = .ok (.aload_n 0, 1) := by decide +kernel
theorem dX5_wind_74 : decode cX5_wind 74 = .ok (.getfield 22, 3) := by decide +kernel
theorem dX5_wind_77 : decode cX5_wind 77 = .ok (.iload 6, 2) := by decide +kernel
theorem dX5_wind_79 : decode cX5_wind 79 = .ok (.iload_n 3, 1) := by decide +kernel
theorem dX5_wind_80 : decode cX5_wind 80 = .ok (.iastore, 1) := by decide +kernel
theorem dX5_wind_81 : decode cX5_wind 81 = .ok (.aload_n 0, 1) := by decide +kernel
theorem dX5_wind_82 : decode cX5_wind 82 = .ok (.getfield 25, 3) := by decide +kernel
theorem dX5_wind_85 : decode cX5_wind 85 = .ok (.iload 6, 2) := by decide +kernel
theorem dX5_wind_87 : decode cX5_wind 87 = .ok (.iload 4, 2) := by decide +kernel
theorem dX5_wind_89 : decode cX5_wind 89 = .ok (.ifCond .eq 7, 3) := by decide +kernel
theorem dX5_wind_92 : decode cX5_wind 92 = .ok (.iconst 1, 1) := by decide +kernel
theorem dX5_wind_93 : decode cX5_wind 93 = .ok (.goto 4, 3) := by decide +kernel
theorem dX5_wind_96 : decode cX5_wind 96 = .ok (.iconst 0, 1) := by decide +kernel
theorem dX5_wind_97 : decode cX5_wind 97 = .ok (.iastore, 1) := by decide +kernel
theorem dX5_wind_98 : decode cX5_wind 98 = .ok (.iinc 6 1, 3) := by decide +kernel
theorem dX5_wind_101 : decode cX5_wind 101 = .ok (.goto (-34), 3) := by decide +kernel
theorem dX5_wind_104 : decode cX5_wind 104 = .ok (.iload_n 2, 1) := by decide +kernel
theorem dX5_wind_105 : decode cX5_wind 105 = .ok (.iload_n 1, 1) := by decide +kernel
theorem dX5_wind_106 : decode cX5_wind 106 = .ok (.isub, 1) := by decide +kernel
theorem dX5_wind_107 : decode cX5_wind 107 = .ok (.iconst 1, 1) := by decide +kernel
theorem dX5_wind_108 : decode cX5_wind 108 = .ok (.iadd, 1) := by decide +kernel
theorem dX5_wind_109 : decode cX5_wind 109 = .ok (.ireturn, 1) := by decide +kernel
theorem dX5_wavesOf_0 : decode cX5_wavesOf 0 = .ok (.aload_n 0, 1) := by decide +kernel
theorem dX5_wavesOf_1 : decode cX5_wavesOf 1 = .ok (.getfield 28, 3) := by decide +kernel
theorem dX5_wavesOf_4 : decode cX5_wavesOf 4 = .ok (.iload_n 1, 1) := by decide +kernel
theorem dX5_wavesOf_5 : decode cX5_wavesOf 5 = .ok (.iaload, 1) := by decide +kernel
theorem dX5_wavesOf_6 : decode cX5_wavesOf 6 = .ok (.ifCond .ge 14, 3) := by decide +kernel
theorem dX5_wavesOf_9 : decode cX5_wavesOf 9 = .ok (.aload_n 0, 1) := by decide +kernel
theorem dX5_wavesOf_10 : decode cX5_wavesOf 10 = .ok (.getfield 22, 3) := by decide +kernel
theorem dX5_wavesOf_13 : decode cX5_wavesOf 13 = .ok (.iload_n 1, 1) := by decide +kernel
theorem dX5_wavesOf_14 : decode cX5_wavesOf 14 = .ok (.iaload, 1) := by decide +kernel
theorem dX5_wavesOf_15 : decode cX5_wavesOf 15 = .ok (.iconst 3, 1) := by decide +kernel
theorem dX5_wavesOf_16 : decode cX5_wavesOf 16 = .ok (.idiv, 1) := by decide +kernel
theorem dX5_wavesOf_17 : decode cX5_wavesOf 17 = .ok (.goto 9, 3) := by decide +kernel
theorem dX5_wavesOf_20 : decode cX5_wavesOf 20 = .ok (.aload_n 0, 1) := by decide +kernel
theorem dX5_wavesOf_21 : decode cX5_wavesOf 21 = .ok (.getfield 28, 3) := by decide +kernel
theorem dX5_wavesOf_24 : decode cX5_wavesOf 24 = .ok (.iload_n 1, 1) := by decide +kernel
theorem dX5_wavesOf_25 : decode cX5_wavesOf 25 = .ok (.iaload, 1) := by decide +kernel
theorem dX5_wavesOf_26 : decode cX5_wavesOf 26 = .ok (.ireturn, 1) := by decide +kernel
set_option maxRecDepth 20000 in
theorem ggX5_waves_X5_in : GoodIn wsX5_waves wsX5_in := goodIn_r _ [7] (by decide +kernel) (by decide +kernel)
set_option maxRecDepth 20000 in
theorem gX5_waves_X5_in : GoodIn wsX5_waves (wsV RX5 65 RX5 yX5_in wsX5_in) := goodIn_app (goodIn_of _ (by decide +kernel)) ggX5_waves_X5_in
set_option maxRecDepth 20000 in
theorem ggX5_waves_X5_fails : GoodIn wsX5_waves wsX5_fails := goodIn_r _ [11, 12, 18, 19, 20, 21, 22, 23, 24, 25, 26, 27, 28, 29, 30, 31, 32, 33, 34, 35, 36] (by decide +kernel) (by decide +kernel)
set_option maxRecDepth 20000 in
theorem gX5_waves_X5_fails : GoodIn wsX5_waves (wsV RX5 69 RX5 yX5_fails wsX5_fails) := goodIn_app (goodIn_of _ (by decide +kernel)) ggX5_waves_X5_fails
set_option maxRecDepth 20000 in
theorem ggX5_waves_X5_wavesOf : GoodIn wsX5_waves wsX5_wavesOf := goodIn_r _ [16, 2, 17, 18, 19, 20, 21, 22, 23, 24, 25, 26, 27, 28, 29, 30, 31, 32, 33, 34, 35, 36] (by decide +kernel) (by decide +kernel)
set_option maxRecDepth 20000 in
theorem gX5_waves_X5_wavesOf : GoodIn wsX5_waves (wsV RX5 76 RX5 yX5_wavesOf wsX5_wavesOf) := goodIn_app (goodIn_of _ (by decide +kernel)) ggX5_waves_X5_wavesOf
theorem dX5_waves_0 : decode cX5_waves 0 = .ok (.aload_n 0, 1) := by decide +kernel
theorem dX5_waves_1 : decode cX5_waves 1 = .ok (.iload_n 1, 1) := by decide +kernel
theorem dX5_waves_2 : decode cX5_waves 2 = .ok (.aload_n 0, 1) := by decide +kernel
theorem dX5_waves_3 : decode cX5_waves 3 = .ok (.getfield 73, 3) := by decide +kernel
theorem dX5_waves_6 : decode cX5_waves 6 = .ok (.sipush 479, 3) := by decide +kernel
theorem dX5_waves_9 : decode cX5_waves 9 = .ok (.invokevirtual 65, 3) := by decide +kernel
theorem dX5_waves_12 : decode cX5_waves 12 = .ok (.ifCond .eq 18, 3) := by decide +kernel
theorem dX5_waves_15 : decode cX5_waves 15 = .ok (.aload_n 0, 1) := by decide +kernel
theorem dX5_waves_16 : decode cX5_waves 16 = .ok (.iload_n 2, 1) := by decide +kernel
theorem dX5_waves_17 : decode cX5_waves 17 = .ok (.iconst 0, 1) := by decide +kernel
theorem dX5_waves_18 : decode cX5_waves 18 = .ok (.bipush 20, 2) := by decide +kernel
theorem dX5_waves_20 : decode cX5_waves 20 = .ok (.invokevirtual 65, 3) := by decide +kernel
theorem dX5_waves_23 : decode cX5_waves 23 = .ok (.ifCond .eq 7, 3) := by decide +kernel
theorem dX5_waves_26 : decode cX5_waves 26 = .ok (.iconst 1, 1) := by decide +kernel
theorem dX5_waves_27 : decode cX5_waves 27 = .ok (.goto 4, 3) := by decide +kernel
theorem dX5_waves_30 : decode cX5_waves 30 = .ok (.iconst 0, 1) := by decide +kernel
theorem dX5_waves_31 : decode cX5_waves 31 = .ok (.istore_n 3, 1) := by decide +kernel
theorem dX5_waves_32 : decode cX5_waves 32 = .ok (.aload_n 0, 1) := by decide +kernel
theorem dX5_waves_33 : decode cX5_waves 33 = .ok (.iload_n 3, 1) := by decide +kernel
theorem dX5_waves_34 : decode cX5_waves 34 = .ok (.ifCond .eq 7, 3) := by decide +kernel
theorem dX5_waves_37 : decode cX5_waves 37 = .ok (.iconst 0, 1) := by decide +kernel
theorem dX5_waves_38 : decode cX5_waves 38 = .ok (.goto 4, 3) := by decide +kernel
theorem dX5_waves_41 : decode cX5_waves 41 = .ok (.iconst 1, 1) := by decide +kernel
theorem dX5_waves_42 : decode cX5_waves 42 = .ok (.invokevirtual 69, 3) := by decide +kernel
theorem dX5_waves_45 : decode cX5_waves 45 = .ok (.ifCond .eq 5, 3) := by decide +kernel
theorem dX5_waves_48 : decode cX5_waves 48 = .ok (.iconst (-1), 1) := by decide +kernel
theorem dX5_waves_49 : decode cX5_waves 49 = .ok (.ireturn, 1) := by decide +kernel
theorem dX5_waves_50 : decode cX5_waves 50 = .ok (.aload_n 0, 1) := by decide +kernel
theorem dX5_waves_51 : decode cX5_waves 51 = .ok (.iload_n 1, 1) := by decide +kernel
theorem dX5_waves_52 : decode cX5_waves 52 = .ok (.invokevirtual 76, 3) := by decide +kernel
theorem dX5_waves_55 : decode cX5_waves 55 = .ok (.istore 4, 2) := by decide +kernel
theorem dX5_waves_57 : decode cX5_waves 57 = .ok (.aload_n 0, 1) := by decide +kernel
theorem dX5_waves_58 : decode cX5_waves 58 = .ok (.getfield 28, 3) := by decide +kernel
theorem dX5_waves_61 : decode cX5_waves 61 = .ok (.iload_n 1, 1) := by decide +kernel
theorem dX5_waves_62 : decode cX5_waves 62 = .ok (.iload_n 2, 1) := by decide +kernel
theorem dX5_waves_63 : decode cX5_waves 63 = .ok (.iastore, 1) := by decide +kernel
theorem dX5_waves_64 : decode cX5_waves 64 = .ok (.iload 4, 2) := by decide +kernel
theorem dX5_waves_66 : decode cX5_waves 66 = .ok (.ireturn, 1) := by decide +kernel
set_option maxRecDepth 20000 in
theorem ggX5_breaks_X5_isTurbine : GoodIn wsX5_breaks wsX5_isTurbine := goodIn_r _ [7, 2, 8, 9, 10, 6, 11, 17, 18, 19, 20, 21, 22, 23, 24, 25, 26, 27, 28, 29, 30, 31, 32, 33, 34, 35] (by decide +kernel) (by decide +kernel)
set_option maxRecDepth 20000 in
theorem gX5_breaks_X5_isTurbine : GoodIn wsX5_breaks (wsV RX5 80 RX5 yX5_isTurbine wsX5_isTurbine) := goodIn_app (goodIn_of _ (by decide +kernel)) ggX5_breaks_X5_isTurbine
set_option maxRecDepth 20000 in
theorem ggX5_breaks_X5_fails : GoodIn wsX5_breaks wsX5_fails := goodIn_r _ [15, 16, 17, 18, 19, 20, 21, 22, 23, 24, 25, 26, 27, 28, 29, 30, 31, 32, 33, 34, 35] (by decide +kernel) (by decide +kernel)
set_option maxRecDepth 20000 in
theorem gX5_breaks_X5_fails : GoodIn wsX5_breaks (wsV RX5 69 RX5 yX5_fails wsX5_fails) := goodIn_app (goodIn_of _ (by decide +kernel)) ggX5_breaks_X5_fails
theorem dX5_breaks_0 : decode cX5_breaks 0 = .ok (.aload_n 0, 1) := by decide +kernel
theorem dX5_breaks_1 : decode cX5_breaks 1 = .ok (.iload_n 1, 1) := by decide +kernel
theorem dX5_breaks_2 : decode cX5_breaks 2 = .ok (.invokevirtual 80, 3) := by decide +kernel
theorem dX5_breaks_5 : decode cX5_breaks 5 = .ok (.istore_n 2, 1) := by decide +kernel
theorem dX5_breaks_6 : decode cX5_breaks 6 = .ok (.aload_n 0, 1) := by decide +kernel
theorem dX5_breaks_7 : decode cX5_breaks 7 = .ok (.iload_n 2, 1) := by decide +kernel
theorem dX5_breaks_8 : decode cX5_breaks 8 = .ok (.ifCond .ne 7, 3) := by decide +kernel
theorem dX5_breaks_11 : decode cX5_breaks 11 = .ok (.iconst 1, 1) := by decide +kernel
theorem dX5_breaks_12 : decode cX5_breaks 12 = .ok (.goto 18, 3) := by decide +kernel
theorem dX5_breaks_15 : decode cX5_breaks 15 = .ok (.aload_n 0, 1) := by decide +kernel
theorem dX5_breaks_16 : decode cX5_breaks 16 = .ok (.getfield 13, 3) := by decide +kernel
theorem dX5_breaks_19 : decode cX5_breaks 19 = .ok (.iload_n 1, 1) := by decide +kernel
theorem dX5_breaks_20 : decode cX5_breaks 20 = .ok (.iaload, 1) := by decide +kernel
theorem dX5_breaks_21 : decode cX5_breaks 21 = .ok (.iconst 1, 1) := by decide +kernel
theorem dX5_breaks_22 : decode cX5_breaks 22 = .ok (.if_icmp .ne 7, 3) := by decide +kernel
theorem dX5_breaks_25 : decode cX5_breaks 25 = .ok (.iconst 2, 1) := by decide +kernel
theorem dX5_breaks_26 : decode cX5_breaks 26 = .ok (.goto 4, 3) := by decide +kernel
theorem dX5_breaks_29 : decode cX5_breaks 29 = .ok (.iconst 0, 1) := by decide +kernel
theorem dX5_breaks_30 : decode cX5_breaks 30 = .ok (.invokevirtual 69, 3) := by decide +kernel
theorem dX5_breaks_33 : decode cX5_breaks 33 = .ok (.ifCond .eq 5, 3) := by decide +kernel
theorem dX5_breaks_36 : decode cX5_breaks 36 = .ok (.iconst (-1), 1) := by decide +kernel
theorem dX5_breaks_37 : decode cX5_breaks 37 = .ok (.ireturn, 1) := by decide +kernel
theorem dX5_breaks_38 : decode cX5_breaks 38 = .ok (.aload_n 0, 1) := by decide +kernel
theorem dX5_breaks_39 : decode cX5_breaks 39 = .ok (.getfield 13, 3) := by decide +kernel
theorem dX5_breaks_42 : decode cX5_breaks 42 = .ok (.iload_n 1, 1) := by decide +kernel
theorem dX5_breaks_43 : decode cX5_breaks 43 = .ok (.iconst 1, 1) := by decide +kernel
theorem dX5_breaks_44 : decode cX5_breaks 44 = .ok (.iastore, 1) := by decide +kernel
theorem dX5_breaks_45 : decode cX5_breaks 45 = .ok (.iconst 0, 1) := by decide +kernel
theorem dX5_breaks_46 : decode cX5_breaks 46 = .ok (.istore_n 3, 1) := by decide +kernel
theorem dX5_breaks_47 : decode cX5_breaks 47 = .ok (.iconst 0, 1) := by decide +kernel
theorem dX5_breaks_48 : decode cX5_breaks 48 = .ok (.istore 4, 2) := by decide +kernel
theorem dX5_breaks_50 : decode cX5_breaks 50 = .ok (.iload 4, 2) := by decide +kernel
theorem dX5_breaks_52 : decode cX5_breaks 52 = .ok (.aload_n 0, 1) := by decide +kernel
theorem dX5_breaks_53 : decode cX5_breaks 53 = .ok (.getfield 62, 3) := by decide +kernel
theorem dX5_breaks_56 : decode cX5_breaks 56 = .ok (.if_icmp .ge 19, 3) := by decide +kernel
theorem dX5_breaks_59 : decode cX5_breaks 59 = .ok (.iload_n 3, 1) := by decide +kernel
theorem dX5_breaks_60 : decode cX5_breaks 60 = .ok (.aload_n 0, 1) := by decide +kernel
theorem dX5_breaks_61 : decode cX5_breaks 61 = .ok (.getfield 13, 3) := by decide +kernel
theorem dX5_breaks_64 : decode cX5_breaks 64 = .ok (.iload 4, 2) := by decide +kernel
theorem dX5_breaks_66 : decode cX5_breaks 66 = .ok (.iaload, 1) := by decide +kernel
theorem dX5_breaks_67 : decode cX5_breaks 67 = .ok (.iadd, 1) := by decide +kernel
theorem dX5_breaks_68 : decode cX5_breaks 68 = .ok (.istore_n 3, 1) := by decide +kernel
theorem dX5_breaks_69 : decode cX5_breaks 69 = .ok (.iinc 4 1, 3) := by decide +kernel
theorem dX5_breaks_72 : decode cX5_breaks 72 = .ok (.goto (-22), 3) := by decide +kernel
theorem dX5_breaks_75 : decode cX5_breaks 75 = .ok (.iload_n 3, 1) := by decide +kernel
theorem dX5_breaks_76 : decode cX5_breaks 76 = .ok (.ireturn, 1) := by decide +kernel
set_option maxRecDepth 20000 in
theorem ggX5_crew_X5_in : GoodIn wsX5_crew wsX5_in := goodIn_r _ [6] (by decide +kernel) (by decide +kernel)
set_option maxRecDepth 20000 in
theorem gX5_crew_X5_in : GoodIn wsX5_crew (wsV RX5 65 RX5 yX5_in wsX5_in) := goodIn_app (goodIn_of _ (by decide +kernel)) ggX5_crew_X5_in
set_option maxRecDepth 20000 in
theorem ggX5_crew_X5_fails : GoodIn wsX5_crew wsX5_fails := goodIn_r _ [10, 11, 12, 13, 14, 15, 16, 17, 18, 19, 20, 21, 22, 23, 24, 25, 26, 27, 28, 29, 30] (by decide +kernel) (by decide +kernel)
set_option maxRecDepth 20000 in
theorem gX5_crew_X5_fails : GoodIn wsX5_crew (wsV RX5 69 RX5 yX5_fails wsX5_fails) := goodIn_app (goodIn_of _ (by decide +kernel)) ggX5_crew_X5_fails
theorem dX5_crew_0 : decode cX5_crew 0 = .ok (.aload_n 0, 1) := by decide +kernel
theorem dX5_crew_1 : decode cX5_crew 1 = .ok (.aload_n 0, 1) := by decide +kernel
theorem dX5_crew_2 : decode cX5_crew 2 = .ok (.iload_n 1, 1) := by decide +kernel
theorem dX5_crew_3 : decode cX5_crew 3 = .ok (.iconst 0, 1) := by decide +kernel
theorem dX5_crew_4 : decode cX5_crew 4 = .ok (.iconst 2, 1) := by decide +kernel
theorem dX5_crew_5 : decode cX5_crew 5 = .ok (.invokevirtual 65, 3) := by decide +kernel
theorem dX5_crew_8 : decode cX5_crew 8 = .ok (.ifCond .ne 7, 3) := by decide +kernel
theorem dX5_crew_11 : decode cX5_crew 11 = .ok (.iconst 1, 1) := by decide +kernel
theorem dX5_crew_12 : decode cX5_crew 12 = .ok (.goto 19, 3) := by decide +kernel
theorem dX5_crew_15 : decode cX5_crew 15 = .ok (.aload_n 0, 1) := by decide +kernel
theorem dX5_crew_16 : decode cX5_crew 16 = .ok (.iload_n 2, 1) := by decide +kernel
theorem dX5_crew_17 : decode cX5_crew 17 = .ok (.iconst 0, 1) := by decide +kernel
theorem dX5_crew_18 : decode cX5_crew 18 = .ok (.bipush 24, 2) := by decide +kernel
theorem dX5_crew_20 : decode cX5_crew 20 = .ok (.invokevirtual 65, 3) := by decide +kernel
theorem dX5_crew_23 : decode cX5_crew 23 = .ok (.ifCond .eq 7, 3) := by decide +kernel
theorem dX5_crew_26 : decode cX5_crew 26 = .ok (.iconst 0, 1) := by decide +kernel
theorem dX5_crew_27 : decode cX5_crew 27 = .ok (.goto 4, 3) := by decide +kernel
theorem dX5_crew_30 : decode cX5_crew 30 = .ok (.iconst 2, 1) := by decide +kernel
theorem dX5_crew_31 : decode cX5_crew 31 = .ok (.invokevirtual 69, 3) := by decide +kernel
theorem dX5_crew_34 : decode cX5_crew 34 = .ok (.ifCond .eq 5, 3) := by decide +kernel
theorem dX5_crew_37 : decode cX5_crew 37 = .ok (.iconst (-1), 1) := by decide +kernel
theorem dX5_crew_38 : decode cX5_crew 38 = .ok (.ireturn, 1) := by decide +kernel
theorem dX5_crew_39 : decode cX5_crew 39 = .ok (.aload_n 0, 1) := by decide +kernel
theorem dX5_crew_40 : decode cX5_crew 40 = .ok (.getfield 43, 3) := by decide +kernel
theorem dX5_crew_43 : decode cX5_crew 43 = .ok (.iload_n 1, 1) := by decide +kernel
theorem dX5_crew_44 : decode cX5_crew 44 = .ok (.iaload, 1) := by decide +kernel
theorem dX5_crew_45 : decode cX5_crew 45 = .ok (.istore_n 3, 1) := by decide +kernel
theorem dX5_crew_46 : decode cX5_crew 46 = .ok (.aload_n 0, 1) := by decide +kernel
theorem dX5_crew_47 : decode cX5_crew 47 = .ok (.getfield 43, 3) := by decide +kernel
theorem dX5_crew_50 : decode cX5_crew 50 = .ok (.iload_n 1, 1) := by decide +kernel
theorem dX5_crew_51 : decode cX5_crew 51 = .ok (.iload_n 2, 1) := by decide +kernel
theorem dX5_crew_52 : decode cX5_crew 52 = .ok (.iastore, 1) := by decide +kernel
theorem dX5_crew_53 : decode cX5_crew 53 = .ok (.iload_n 3, 1) := by decide +kernel
theorem dX5_crew_54 : decode cX5_crew 54 = .ok (.ireturn, 1) := by decide +kernel
set_option maxRecDepth 20000 in
theorem ggX5_repair_X5_in : GoodIn wsX5_repair wsX5_in := goodIn_r _ [8] (by decide +kernel) (by decide +kernel)
set_option maxRecDepth 20000 in
theorem gX5_repair_X5_in : GoodIn wsX5_repair (wsV RX5 65 RX5 yX5_in wsX5_in) := goodIn_app (goodIn_of _ (by decide +kernel)) ggX5_repair_X5_in
set_option maxRecDepth 20000 in
theorem ggX5_repair_X5_isTurbine : GoodIn wsX5_repair wsX5_isTurbine := goodIn_r _ [12, 13, 4, 5, 6, 7, 8, 19, 20, 21, 22, 23, 24, 25, 26, 27, 28, 29, 30, 31, 32, 33, 34, 35, 36, 37] (by decide +kernel) (by decide +kernel)
set_option maxRecDepth 20000 in
theorem gX5_repair_X5_isTurbine : GoodIn wsX5_repair (wsV RX5 80 RX5 yX5_isTurbine wsX5_isTurbine) := goodIn_app (goodIn_of _ (by decide +kernel)) ggX5_repair_X5_isTurbine
set_option maxRecDepth 20000 in
theorem ggX5_repair_X5_fails : GoodIn wsX5_repair wsX5_fails := goodIn_r _ [17, 18, 19, 20, 21, 22, 23, 24, 25, 26, 27, 28, 29, 30, 31, 32, 33, 34, 35, 36, 37] (by decide +kernel) (by decide +kernel)
set_option maxRecDepth 20000 in
theorem gX5_repair_X5_fails : GoodIn wsX5_repair (wsV RX5 69 RX5 yX5_fails wsX5_fails) := goodIn_app (goodIn_of _ (by decide +kernel)) ggX5_repair_X5_fails
theorem dX5_repair_0 : decode cX5_repair 0 = .ok (.aload_n 0, 1) := by decide +kernel
theorem dX5_repair_1 : decode cX5_repair 1 = .ok (.iload_n 1, 1) := by decide +kernel
theorem dX5_repair_2 : decode cX5_repair 2 = .ok (.iconst 0, 1) := by decide +kernel
theorem dX5_repair_3 : decode cX5_repair 3 = .ok (.iconst 2, 1) := by decide +kernel
theorem dX5_repair_4 : decode cX5_repair 4 = .ok (.invokevirtual 65, 3) := by decide +kernel
theorem dX5_repair_7 : decode cX5_repair 7 = .ok (.ifCond .eq 15, 3) := by decide +kernel
theorem dX5_repair_10 : decode cX5_repair 10 = .ok (.aload_n 0, 1) := by decide +kernel
theorem dX5_repair_11 : decode cX5_repair 11 = .ok (.iload_n 2, 1) := by decide +kernel
theorem dX5_repair_12 : decode cX5_repair 12 = .ok (.invokevirtual 80, 3) := by decide +kernel
theorem dX5_repair_15 : decode cX5_repair 15 = .ok (.ifCond .eq 7, 3) := by decide +kernel
theorem dX5_repair_18 : decode cX5_repair 18 = .ok (.iconst 1, 1) := by decide +kernel
theorem dX5_repair_19 : decode cX5_repair 19 = .ok (.goto 4, 3) := by decide +kernel
theorem dX5_repair_22 : decode cX5_repair 22 = .ok (.iconst 0, 1) := by decide +kernel
theorem dX5_repair_23 : decode cX5_repair 23 = .ok (.istore 4, 2) := by decide +kernel
theorem dX5_repair_25 : decode cX5_repair 25 = .ok (.iload 4, 2) := by decide +kernel
theorem dX5_repair_27 : decode cX5_repair 27 = .ok (.ifCond .eq 55, 3) := by decide +kernel
theorem dX5_repair_30 : decode cX5_repair 30 = .ok (.aload_n 0, 1) := by decide +kernel
theorem dX5_repair_31 : decode cX5_repair 31 = .ok (.getfield 46, 3) := by decide +kernel
theorem dX5_repair_34 : decode cX5_repair 34 = .ok (.iload_n 1, 1) := by decide +kernel
theorem dX5_repair_35 : decode cX5_repair 35 = .ok (.iaload, 1) := by decide +kernel
theorem dX5_repair_36 : decode cX5_repair 36 = .ok (.ifCond .ge 42, 3) := by decide +kernel
theorem dX5_repair_39 : decode cX5_repair 39 = .ok (.aload_n 0, 1) := by decide +kernel
theorem dX5_repair_40 : decode cX5_repair 40 = .ok (.getfield 13, 3) := by decide +kernel
theorem dX5_repair_43 : decode cX5_repair 43 = .ok (.iload_n 2, 1) := by decide +kernel
theorem dX5_repair_44 : decode cX5_repair 44 = .ok (.iaload, 1) := by decide +kernel
theorem dX5_repair_45 : decode cX5_repair 45 = .ok (.ifCond .eq 33, 3) := by decide +kernel
theorem dX5_repair_48 : decode cX5_repair 48 = .ok (.aload_n 0, 1) := by decide +kernel
theorem dX5_repair_49 : decode cX5_repair 49 = .ok (.getfield 46, 3) := by decide +kernel
theorem dX5_repair_52 : decode cX5_repair 52 = .ok (.iconst 0, 1) := by decide +kernel
theorem dX5_repair_53 : decode cX5_repair 53 = .ok (.iaload, 1) := by decide +kernel
theorem dX5_repair_54 : decode cX5_repair 54 = .ok (.iload_n 2, 1) := by decide +kernel
theorem dX5_repair_55 : decode cX5_repair 55 = .ok (.if_icmp .eq 23, 3) := by decide +kernel
theorem dX5_repair_58 : decode cX5_repair 58 = .ok (.aload_n 0, 1) := by decide +kernel
theorem dX5_repair_59 : decode cX5_repair 59 = .ok (.getfield 46, 3) := by decide +kernel
theorem dX5_repair_62 : decode cX5_repair 62 = .ok (.iconst 1, 1) := by decide +kernel
theorem dX5_repair_63 : decode cX5_repair 63 = .ok (.iaload, 1) := by decide +kernel
theorem dX5_repair_64 : decode cX5_repair 64 = .ok (.iload_n 2, 1) := by decide +kernel
theorem dX5_repair_65 : decode cX5_repair 65 = .ok (.if_icmp .eq 13, 3) := by decide +kernel
theorem dX5_repair_68 : decode cX5_repair 68 = .ok (.aload_n 0, 1) := by decide +kernel
theorem dX5_repair_69 : decode cX5_repair 69 = .ok (.getfield 46, 3) := by decide +kernel
theorem dX5_repair_72 : decode cX5_repair 72 = .ok (.iconst 2, 1) := by decide +kernel
theorem dX5_repair_73 : decode cX5_repair 73 = .ok (.iaload, 1) := by decide +kernel
theorem dX5_repair_74 : decode cX5_repair 74 = .ok (.iload_n 2, 1) := by decide +kernel
theorem dX5_repair_75 : decode cX5_repair 75 = .ok (.if_icmp .ne 7, 3) := by decide +kernel
theorem dX5_repair_78 : decode cX5_repair 78 = .ok (.iconst 1, 1) := by decide +kernel
theorem dX5_repair_79 : decode cX5_repair 79 = .ok (.goto 4, 3) := by decide +kernel
theorem dX5_repair_82 : decode cX5_repair 82 = .ok (.iconst 0, 1) := by decide +kernel
theorem dX5_repair_83 : decode cX5_repair 83 = .ok (.istore 5, 2) := by decide +kernel
theorem dX5_repair_85 : decode cX5_repair 85 = .ok (.aload_n 0, 1) := by decide +kernel
theorem dX5_repair_86 : decode cX5_repair 86 = .ok (.iload 4, 2) := by decide +kernel
theorem dX5_repair_88 : decode cX5_repair 88 = .ok (.ifCond .ne 7, 3) := by decide +kernel
theorem dX5_repair_91 : decode cX5_repair 91 = .ok (.iconst 1, 1) := by decide +kernel
theorem dX5_repair_92 : decode cX5_repair 92 = .ok (.goto 28, 3) := by decide +kernel
theorem dX5_repair_95 : decode cX5_repair 95 = .ok (.aload_n 0, 1) := by decide +kernel
theorem dX5_repair_96 : decode cX5_repair 96 = .ok (.iload_n 3, 1) := by decide +kernel
theorem dX5_repair_97 : decode cX5_repair 97 = .ok (.iconst 1, 1) := by decide +kernel
theorem dX5_repair_98 : decode cX5_repair 98 = .ok (.bipush 40, 2) := by decide +kernel
theorem dX5_repair_100 : decode cX5_repair 100 = .ok (.invokevirtual 65, 3) := by decide +kernel
theorem dX5_repair_103 : decode cX5_repair 103 = .ok (.ifCond .ne 7, 3) := by decide +kernel
theorem dX5_repair_106 : decode cX5_repair 106 = .ok (.iconst 2, 1) := by decide +kernel
theorem dX5_repair_107 : decode cX5_repair 107 = .ok (.goto 13, 3) := by decide +kernel
theorem dX5_repair_110 : decode cX5_repair 110 = .ok (.iload 5, 2) := by decide +kernel
theorem dX5_repair_112 : decode cX5_repair 112 = .ok (.ifCond .eq 7, 3) := by decide +kernel
theorem dX5_repair_115 : decode cX5_repair 115 = .ok (.iconst 3, 1) := by decide +kernel
theorem dX5_repair_116 : decode cX5_repair 116 = .ok (.goto 4, 3) := by decide +kernel
theorem dX5_repair_119 : decode cX5_repair 119 = .ok (.iconst 0, 1) := by decide +kernel
theorem dX5_repair_120 : decode cX5_repair 120 = .ok (.invokevirtual 69, 3) := by decide +kernel
theorem dX5_repair_123 : decode cX5_repair 123 = .ok (.ifCond .ne 17, 3) := by decide +kernel
theorem dX5_repair_126 : decode cX5_repair 126 = .ok (.aload_n 0, 1) := by decide +kernel
theorem dX5_repair_127 : decode cX5_repair 127 = .ok (.getfield 46, 3) := by decide +kernel
theorem dX5_repair_130 : decode cX5_repair 130 = .ok (.iload_n 1, 1) := by decide +kernel
theorem dX5_repair_131 : decode cX5_repair 131 = .ok (.iload_n 2, 1) := by decide +kernel
theorem dX5_repair_132 : decode cX5_repair 132 = .ok (.iastore, 1) := by decide +kernel
theorem dX5_repair_133 : decode cX5_repair 133 = .ok (.aload_n 0, 1) := by decide +kernel
theorem dX5_repair_134 : decode cX5_repair 134 = .ok (.getfield 49, 3) := by decide +kernel
theorem dX5_repair_137 : decode cX5_repair 137 = .ok (.iload_n 1, 1) := by decide +kernel
theorem dX5_repair_138 : decode cX5_repair 138 = .ok (.iload_n 3, 1) := by decide +kernel
theorem dX5_repair_139 : decode cX5_repair 139 = .ok (.iastore, 1) := by decide +kernel
theorem dX5_repair_140 : decode cX5_repair 140 = .ok (.return_, 1) := by decide +kernel
set_option maxRecDepth 20000 in
theorem ggX5_sell_X5_in : GoodIn wsX5_sell wsX5_in := goodIn_r _ [8] (by decide +kernel) (by decide +kernel)
set_option maxRecDepth 20000 in
theorem gX5_sell_X5_in : GoodIn wsX5_sell (wsV RX5 65 RX5 yX5_in wsX5_in) := goodIn_app (goodIn_of _ (by decide +kernel)) ggX5_sell_X5_in
set_option maxRecDepth 20000 in
theorem ggX5_sell_X5_fails : GoodIn wsX5_sell wsX5_fails := goodIn_r _ [12, 13, 14, 15, 16, 17, 18, 19, 20, 21, 22, 23, 24, 25, 26, 27, 28, 29, 30, 31, 32] (by decide +kernel) (by decide +kernel)
set_option maxRecDepth 20000 in
theorem gX5_sell_X5_fails : GoodIn wsX5_sell (wsV RX5 69 RX5 yX5_fails wsX5_fails) := goodIn_app (goodIn_of _ (by decide +kernel)) ggX5_sell_X5_fails
theorem dX5_sell_0 : decode cX5_sell 0 = .ok (.aload_n 0, 1) := by decide +kernel
theorem dX5_sell_1 : decode cX5_sell 1 = .ok (.iload_n 1, 1) := by decide +kernel
theorem dX5_sell_2 : decode cX5_sell 2 = .ok (.iconst 0, 1) := by decide +kernel
theorem dX5_sell_3 : decode cX5_sell 3 = .ok (.sipush 479, 3) := by decide +kernel
theorem dX5_sell_6 : decode cX5_sell 6 = .ok (.invokevirtual 65, 3) := by decide +kernel
theorem dX5_sell_9 : decode cX5_sell 9 = .ok (.ifCond .eq 30, 3) := by decide +kernel
theorem dX5_sell_12 : decode cX5_sell 12 = .ok (.aload_n 0, 1) := by decide +kernel
theorem dX5_sell_13 : decode cX5_sell 13 = .ok (.iload_n 2, 1) := by decide +kernel
theorem dX5_sell_14 : decode cX5_sell 14 = .ok (.iconst 0, 1) := by decide +kernel
theorem dX5_sell_15 : decode cX5_sell 15 = .ok (.sipush 30000, 3) := by decide +kernel
theorem dX5_sell_18 : decode cX5_sell 18 = .ok (.invokevirtual 65, 3) := by decide +kernel
theorem dX5_sell_21 : decode cX5_sell 21 = .ok (.ifCond .eq 18, 3) := by decide +kernel
theorem dX5_sell_24 : decode cX5_sell 24 = .ok (.aload_n 0, 1) := by decide +kernel
theorem dX5_sell_25 : decode cX5_sell 25 = .ok (.iload_n 3, 1) := by decide +kernel
theorem dX5_sell_26 : decode cX5_sell 26 = .ok (.iconst 1, 1) := by decide +kernel
theorem dX5_sell_27 : decode cX5_sell 27 = .ok (.bipush 100, 2) := by decide +kernel
theorem dX5_sell_29 : decode cX5_sell 29 = .ok (.invokevirtual 65, 3) := by decide +kernel
theorem dX5_sell_32 : decode cX5_sell 32 = .ok (.ifCond .eq 7, 3) := by decide +kernel
theorem dX5_sell_35 : decode cX5_sell 35 = .ok (.iconst 1, 1) := by decide +kernel
theorem dX5_sell_36 : decode cX5_sell 36 = .ok (.goto 4, 3) := by decide +kernel
theorem dX5_sell_39 : decode cX5_sell 39 = .ok (.iconst 0, 1) := by decide +kernel
theorem dX5_sell_40 : decode cX5_sell 40 = .ok (.istore 4, 2) := by decide +kernel
theorem dX5_sell_42 : decode cX5_sell 42 = .ok (.aload_n 0, 1) := by decide +kernel
theorem dX5_sell_43 : decode cX5_sell 43 = .ok (.iload 4, 2) := by decide +kernel
theorem dX5_sell_45 : decode cX5_sell 45 = .ok (.ifCond .ne 7, 3) := by decide +kernel
theorem dX5_sell_48 : decode cX5_sell 48 = .ok (.iconst 1, 1) := by decide +kernel
theorem dX5_sell_49 : decode cX5_sell 49 = .ok (.goto 22, 3) := by decide +kernel
theorem dX5_sell_52 : decode cX5_sell 52 = .ok (.aload_n 0, 1) := by decide +kernel
theorem dX5_sell_53 : decode cX5_sell 53 = .ok (.getfield 73, 3) := by decide +kernel
theorem dX5_sell_56 : decode cX5_sell 56 = .ok (.bipush 24, 2) := by decide +kernel
theorem dX5_sell_58 : decode cX5_sell 58 = .ok (.iload_n 1, 1) := by decide +kernel
theorem dX5_sell_59 : decode cX5_sell 59 = .ok (.bipush 24, 2) := by decide +kernel
theorem dX5_sell_61 : decode cX5_sell 61 = .ok (.idiv, 1) := by decide +kernel
theorem dX5_sell_62 : decode cX5_sell 62 = .ok (.imul, 1) := by decide +kernel
theorem dX5_sell_63 : decode cX5_sell 63 = .ok (.if_icmp .lt 7, 3) := by decide +kernel
theorem dX5_sell_66 : decode cX5_sell 66 = .ok (.iconst 2, 1) := by decide +kernel
theorem dX5_sell_67 : decode cX5_sell 67 = .ok (.goto 4, 3) := by decide +kernel
theorem dX5_sell_70 : decode cX5_sell 70 = .ok (.iconst 0, 1) := by decide +kernel
theorem dX5_sell_71 : decode cX5_sell 71 = .ok (.invokevirtual 69, 3) := by decide +kernel
theorem dX5_sell_74 : decode cX5_sell 74 = .ok (.ifCond .eq 5, 3) := by decide +kernel
theorem dX5_sell_77 : decode cX5_sell 77 = .ok (.iconst (-1), 1) := by decide +kernel
theorem dX5_sell_78 : decode cX5_sell 78 = .ok (.ireturn, 1) := by decide +kernel
theorem dX5_sell_79 : decode cX5_sell 79 = .ok (.aload_n 0, 1) := by decide +kernel
theorem dX5_sell_80 : decode cX5_sell 80 = .ok (.getfield 31, 3) := by decide +kernel
theorem dX5_sell_83 : decode cX5_sell 83 = .ok (.iload_n 1, 1) := by decide +kernel
theorem dX5_sell_84 : decode cX5_sell 84 = .ok (.iaload, 1) := by decide +kernel
theorem dX5_sell_85 : decode cX5_sell 85 = .ok (.istore 5, 2) := by decide +kernel
theorem dX5_sell_87 : decode cX5_sell 87 = .ok (.aload_n 0, 1) := by decide +kernel
theorem dX5_sell_88 : decode cX5_sell 88 = .ok (.getfield 31, 3) := by decide +kernel
theorem dX5_sell_91 : decode cX5_sell 91 = .ok (.iload_n 1, 1) := by decide +kernel
theorem dX5_sell_92 : decode cX5_sell 92 = .ok (.iload_n 2, 1) := by decide +kernel
theorem dX5_sell_93 : decode cX5_sell 93 = .ok (.iastore, 1) := by decide +kernel
theorem dX5_sell_94 : decode cX5_sell 94 = .ok (.aload_n 0, 1) := by decide +kernel
theorem dX5_sell_95 : decode cX5_sell 95 = .ok (.getfield 34, 3) := by decide +kernel
theorem dX5_sell_98 : decode cX5_sell 98 = .ok (.iload_n 1, 1) := by decide +kernel
theorem dX5_sell_99 : decode cX5_sell 99 = .ok (.iload_n 3, 1) := by decide +kernel
theorem dX5_sell_100 : decode cX5_sell 100 = .ok (.iastore, 1) := by decide +kernel
theorem dX5_sell_101 : decode cX5_sell 101 = .ok (.iload 5, 2) := by decide +kernel
theorem dX5_sell_103 : decode cX5_sell 103 = .ok (.ireturn, 1) := by decide +kernel
theorem dX5_ahead_0 : decode cX5_ahead 0 = .ok (.aload_n 0, 1) := by decide +kernel
theorem dX5_ahead_1 : decode cX5_ahead 1 = .ok (.getfield 7, 3) := by decide +kernel
theorem dX5_ahead_4 : decode cX5_ahead 4 = .ok (.iload_n 1, 1) := by decide +kernel
theorem dX5_ahead_5 : decode cX5_ahead 5 = .ok (.iaload, 1) := by decide +kernel
theorem dX5_ahead_6 : decode cX5_ahead 6 = .ok (.bipush 6, 2) := by decide +kernel
theorem dX5_ahead_8 : decode cX5_ahead 8 = .ok (.irem, 1) := by decide +kernel
theorem dX5_ahead_9 : decode cX5_ahead 9 = .ok (.istore 4, 2) := by decide +kernel
theorem dX5_ahead_11 : decode cX5_ahead 11 = .ok (.aload_n 0, 1) := by decide +kernel
theorem dX5_ahead_12 : decode cX5_ahead 12 = .ok (.getfield 7, 3) := by decide +kernel
theorem dX5_ahead_15 : decode cX5_ahead 15 = .ok (.iload_n 1, 1) := by decide +kernel
theorem dX5_ahead_16 : decode cX5_ahead 16 = .ok (.iaload, 1) := by decide +kernel
theorem dX5_ahead_17 : decode cX5_ahead 17 = .ok (.bipush 6, 2) := by decide +kernel
theorem dX5_ahead_19 : decode cX5_ahead 19 = .ok (.idiv, 1) := by decide +kernel
theorem dX5_ahead_20 : decode cX5_ahead 20 = .ok (.istore 5, 2) := by decide +kernel
theorem dX5_ahead_22 : decode cX5_ahead 22 = .ok (.iload 4, 2) := by decide +kernel
theorem dX5_ahead_24 : decode cX5_ahead 24 = .ok (.aload_n 0, 1) := by decide +kernel
theorem dX5_ahead_25 : decode cX5_ahead 25 = .ok (.getfield 25, 3) := by decide +kernel
theorem dX5_ahead_28 : decode cX5_ahead 28 = .ok (.iload_n 2, 1) := by decide +kernel
theorem dX5_ahead_29 : decode cX5_ahead 29 = .ok (.iaload, 1) := by decide +kernel
theorem dX5_ahead_30 : decode cX5_ahead 30 = .ok (.iconst 1, 1) := by decide +kernel
theorem dX5_ahead_31 : decode cX5_ahead 31 = .ok (.if_icmp .ne 7, 3) := by decide +kernel
theorem dX5_ahead_34 : decode cX5_ahead 34 = .ok (.iload_n 3, 1) := by decide +kernel
theorem dX5_ahead_35 : decode cX5_ahead 35 = .ok (.goto 4, 3) := by decide +kernel
theorem dX5_ahead_38 : decode cX5_ahead 38 = .ok (.iconst 0, 1) := by decide +kernel
theorem dX5_ahead_39 : decode cX5_ahead 39 = .ok (.isub, 1) := by decide +kernel
theorem dX5_ahead_40 : decode cX5_ahead 40 = .ok (.istore 4, 2) := by decide +kernel
theorem dX5_ahead_42 : decode cX5_ahead 42 = .ok (.iload 5, 2) := by decide +kernel
theorem dX5_ahead_44 : decode cX5_ahead 44 = .ok (.aload_n 0, 1) := by decide +kernel
theorem dX5_ahead_45 : decode cX5_ahead 45 = .ok (.getfield 25, 3) := by decide +kernel
theorem dX5_ahead_48 : decode cX5_ahead 48 = .ok (.iload_n 2, 1) := by decide +kernel
theorem dX5_ahead_49 : decode cX5_ahead 49 = .ok (.iaload, 1) := by decide +kernel
theorem dX5_ahead_50 : decode cX5_ahead 50 = .ok (.iconst 1, 1) := by decide +kernel
theorem dX5_ahead_51 : decode cX5_ahead 51 = .ok (.if_icmp .ne 7, 3) := by decide +kernel
theorem dX5_ahead_54 : decode cX5_ahead 54 = .ok (.iconst 0, 1) := by decide +kernel
theorem dX5_ahead_55 : decode cX5_ahead 55 = .ok (.goto 4, 3) := by decide +kernel
theorem dX5_ahead_58 : decode cX5_ahead 58 = .ok (.iload_n 3, 1) := by decide +kernel
theorem dX5_ahead_59 : decode cX5_ahead 59 = .ok (.isub, 1) := by decide +kernel
theorem dX5_ahead_60 : decode cX5_ahead 60 = .ok (.istore 5, 2) := by decide +kernel
theorem dX5_ahead_62 : decode cX5_ahead 62 = .ok (.iconst 0, 1) := by decide +kernel
theorem dX5_ahead_63 : decode cX5_ahead 63 = .ok (.istore 6, 2) := by decide +kernel
theorem dX5_ahead_65 : decode cX5_ahead 65 = .ok (.iload 6, 2) := by decide +kernel
theorem dX5_ahead_67 : decode cX5_ahead 67 = .ok (.aload_n 0, 1) := by decide +kernel
theorem dX5_ahead_68 : decode cX5_ahead 68 = .ok (.getfield 62, 3) := by decide +kernel
theorem dX5_ahead_71 : decode cX5_ahead 71 = .ok (.if_icmp .ge 51, 3) := by decide +kernel
theorem dX5_ahead_74 : decode cX5_ahead 74 = .ok (.iload 4, 2) := by decide +kernel
theorem dX5_ahead_76 : decode cX5_ahead 76 = .ok (.ifCond .lt 40, 3) := by decide +kernel
theorem dX5_ahead_79 : decode cX5_ahead 79 = .ok (.iload 5, 2) := by decide +kernel
theorem dX5_ahead_81 : decode cX5_ahead 81 = .ok (.ifCond .lt 35, 3) := by decide +kernel
theorem dX5_ahead_84 : decode cX5_ahead 84 = .ok (.aload_n 0, 1) := by decide +kernel
theorem dX5_ahead_85 : decode cX5_ahead 85 = .ok (.getfield 7, 3) := by decide +kernel
theorem dX5_ahead_88 : decode cX5_ahead 88 = .ok (.iload 6, 2) := by decide +kernel
theorem dX5_ahead_90 : decode cX5_ahead 90 = .ok (.iaload, 1) := by decide +kernel
theorem dX5_ahead_91 : decode cX5_ahead 91 = .ok (.bipush 6, 2) := by decide +kernel
theorem dX5_ahead_93 : decode cX5_ahead 93 = .ok (.iload 5, 2) := by decide +kernel
theorem dX5_ahead_95 : decode cX5_ahead 95 = .ok (.imul, 1) := by decide +kernel
theorem dX5_ahead_96 : decode cX5_ahead 96 = .ok (.iload 4, 2) := by decide +kernel
theorem dX5_ahead_98 : decode cX5_ahead 98 = .ok (.iadd, 1) := by decide +kernel
theorem dX5_ahead_99 : decode cX5_ahead 99 = .ok (.if_icmp .ne 17, 3) := by decide +kernel
theorem dX5_ahead_102 : decode cX5_ahead 102 = .ok (.aload_n 0, 1) := by decide +kernel
theorem dX5_ahead_103 : decode cX5_ahead 103 = .ok (.getfield 19, 3) := by decide +kernel
theorem dX5_ahead_106 : decode cX5_ahead 106 = .ok (.iload 6, 2) := by decide +kernel
theorem dX5_ahead_108 : decode cX5_ahead 108 = .ok (.iaload, 1) := by decide +kernel
theorem dX5_ahead_109 : decode cX5_ahead 109 = .ok (.iconst 1, 1) := by decide +kernel
theorem dX5_ahead_110 : decode cX5_ahead 110 = .ok (.if_icmp .ne 6, 3) := by decide +kernel
theorem dX5_ahead_113 : decode cX5_ahead 113 = .ok (.iload 6, 2) := by decide +kernel
theorem dX5_ahead_115 : decode cX5_ahead 115 = .ok (.ireturn, 1) := by decide +kernel
theorem dX5_ahead_116 : decode cX5_ahead 116 = .ok (.iinc 6 1, 3) := by decide +kernel
theorem dX5_ahead_119 : decode cX5_ahead 119 = .ok (.goto (-54), 3) := by decide +kernel
theorem dX5_ahead_122 : decode cX5_ahead 122 = .ok (.iconst (-1), 1) := by decide +kernel
theorem dX5_ahead_123 : decode cX5_ahead 123 = .ok (.ireturn, 1) := by decide +kernel
set_option maxRecDepth 20000 in
theorem ggX5_windOf_X5_ahead : GoodIn wsX5_windOf wsX5_ahead := goodIn_r _ [6, 7, 8, 9, 10, 11, 12, 13, 14, 15, 16, 17, 18, 19, 20, 21, 22, 23, 24, 25, 26, 27, 28, 29] (by decide +kernel) (by decide +kernel)
set_option maxRecDepth 20000 in
theorem gX5_windOf_X5_ahead : GoodIn wsX5_windOf (wsV RX5 83 RX5 yX5_ahead wsX5_ahead) := goodIn_app (goodIn_of _ (by decide +kernel)) ggX5_windOf_X5_ahead
theorem dX5_windOf_0 : decode cX5_windOf 0 = .ok (.aload_n 0, 1) := by decide +kernel
theorem dX5_windOf_1 : decode cX5_windOf 1 = .ok (.getfield 22, 3) := by decide +kernel
theorem dX5_windOf_4 : decode cX5_windOf 4 = .ok (.iload_n 2, 1) := by decide +kernel
theorem dX5_windOf_5 : decode cX5_windOf 5 = .ok (.iaload, 1) := by decide +kernel
theorem dX5_windOf_6 : decode cX5_windOf 6 = .ok (.istore_n 3, 1) := by decide +kernel
theorem dX5_windOf_7 : decode cX5_windOf 7 = .ok (.iconst 1, 1) := by decide +kernel
theorem dX5_windOf_8 : decode cX5_windOf 8 = .ok (.istore 4, 2) := by decide +kernel
theorem dX5_windOf_10 : decode cX5_windOf 10 = .ok (.iload 4, 2) := by decide +kernel
theorem dX5_windOf_12 : decode cX5_windOf 12 = .ok (.bipush 6, 2) := by decide +kernel
theorem dX5_windOf_14 : decode cX5_windOf 14 = .ok (.if_icmp .ge 60, 3) := by decide +kernel
theorem dX5_windOf_17 : decode cX5_windOf 17 = .ok (.iload 4, 2) := by decide +kernel
theorem dX5_windOf_19 : decode cX5_windOf 19 = .ok (.iconst 1, 1) := by decide +kernel
theorem dX5_windOf_20 : decode cX5_windOf 20 = .ok (.if_icmp .ne 8, 3) := by decide +kernel
theorem dX5_windOf_23 : decode cX5_windOf 23 = .ok (.bipush 30, 2) := by decide +kernel
theorem dX5_windOf_25 : decode cX5_windOf 25 = .ok (.goto 16, 3) := by decide +kernel
theorem dX5_windOf_28 : decode cX5_windOf 28 = .ok (.iload 4, 2) := by decide +kernel
theorem dX5_windOf_30 : decode cX5_windOf 30 = .ok (.iconst 2, 1) := by decide +kernel
theorem dX5_windOf_31 : decode cX5_windOf 31 = .ok (.if_icmp .ne 8, 3) := by decide +kernel
theorem dX5_windOf_34 : decode cX5_windOf 34 = .ok (.bipush 20, 2) := by decide +kernel
theorem dX5_windOf_36 : decode cX5_windOf 36 = .ok (.goto 5, 3) := by decide +kernel
theorem dX5_windOf_39 : decode cX5_windOf 39 = .ok (.bipush 10, 2) := by decide +kernel
theorem dX5_windOf_41 : decode cX5_windOf 41 = .ok (.istore 5, 2) := by decide +kernel
theorem dX5_windOf_43 : decode cX5_windOf 43 = .ok (.iload_n 3, 1) := by decide +kernel
theorem dX5_windOf_44 : decode cX5_windOf 44 = .ok (.aload_n 0, 1) := by decide +kernel
theorem dX5_windOf_45 : decode cX5_windOf 45 = .ok (.iload_n 1, 1) := by decide +kernel
theorem dX5_windOf_46 : decode cX5_windOf 46 = .ok (.iload_n 2, 1) := by decide +kernel
theorem dX5_windOf_47 : decode cX5_windOf 47 = .ok (.iload 4, 2) := by decide +kernel
theorem dX5_windOf_49 : decode cX5_windOf 49 = .ok (.invokevirtual 83, 3) := by decide +kernel
theorem dX5_windOf_52 : decode cX5_windOf 52 = .ok (.ifCond .ge 7, 3) := by decide +kernel
theorem dX5_windOf_55 : decode cX5_windOf 55 = .ok (.iconst 0, 1) := by decide +kernel
theorem dX5_windOf_56 : decode cX5_windOf 56 = .ok (.goto 10, 3) := by decide +kernel
theorem dX5_windOf_59 : decode cX5_windOf 59 = .ok (.iload_n 3, 1) := by decide +kernel
theorem dX5_windOf_60 : decode cX5_windOf 60 = .ok (.iload 5, 2) := by decide +kernel
theorem dX5_windOf_62 : decode cX5_windOf 62 = .ok (.imul, 1) := by decide +kernel
theorem dX5_windOf_63 : decode cX5_windOf 63 = .ok (.bipush 100, 2) := by decide +kernel
theorem dX5_windOf_65 : decode cX5_windOf 65 = .ok (.idiv, 1) := by decide +kernel
theorem dX5_windOf_66 : decode cX5_windOf 66 = .ok (.isub, 1) := by decide +kernel
theorem dX5_windOf_67 : decode cX5_windOf 67 = .ok (.istore_n 3, 1) := by decide +kernel
theorem dX5_windOf_68 : decode cX5_windOf 68 = .ok (.iinc 4 1, 3) := by decide +kernel
theorem dX5_windOf_71 : decode cX5_windOf 71 = .ok (.goto (-61), 3) := by decide +kernel
theorem dX5_windOf_74 : decode cX5_windOf 74 = .ok (.iload_n 3, 1) := by decide +kernel
theorem dX5_windOf_75 : decode cX5_windOf 75 = .ok (.ireturn, 1) := by decide +kernel
set_option maxRecDepth 20000 in
theorem ggX5_power_X5_windOf : GoodIn wsX5_power wsX5_windOf := goodIn_r _ [6, 7, 8, 9, 10, 5, 11, 12, 13, 14, 1, 15, 16, 17, 18, 19, 20, 21, 22, 23, 24, 25, 26, 27, 28, 29, 30, 31, 32, 33] (by decide +kernel) (by decide +kernel)
set_option maxRecDepth 20000 in
theorem gX5_power_X5_windOf : GoodIn wsX5_power (wsV RX5 87 RX5 yX5_windOf wsX5_windOf) := goodIn_app (goodIn_of _ (by decide +kernel)) ggX5_power_X5_windOf
theorem dX5_power_0 : decode cX5_power 0 = .ok (.aload_n 0, 1) := by decide +kernel
theorem dX5_power_1 : decode cX5_power 1 = .ok (.iload_n 1, 1) := by decide +kernel
theorem dX5_power_2 : decode cX5_power 2 = .ok (.iload_n 2, 1) := by decide +kernel
theorem dX5_power_3 : decode cX5_power 3 = .ok (.invokevirtual 87, 3) := by decide +kernel
theorem dX5_power_6 : decode cX5_power 6 = .ok (.istore_n 3, 1) := by decide +kernel
theorem dX5_power_7 : decode cX5_power 7 = .ok (.aload_n 0, 1) := by decide +kernel
theorem dX5_power_8 : decode cX5_power 8 = .ok (.getfield 19, 3) := by decide +kernel
theorem dX5_power_11 : decode cX5_power 11 = .ok (.iload_n 1, 1) := by decide +kernel
theorem dX5_power_12 : decode cX5_power 12 = .ok (.iaload, 1) := by decide +kernel
theorem dX5_power_13 : decode cX5_power 13 = .ok (.ifCond .eq 14, 3) := by decide +kernel
theorem dX5_power_16 : decode cX5_power 16 = .ok (.iload_n 3, 1) := by decide +kernel
theorem dX5_power_17 : decode cX5_power 17 = .ok (.iconst 4, 1) := by decide +kernel
theorem dX5_power_18 : decode cX5_power 18 = .ok (.if_icmp .lt 9, 3) := by decide +kernel
theorem dX5_power_21 : decode cX5_power 21 = .ok (.iload_n 3, 1) := by decide +kernel
theorem dX5_power_22 : decode cX5_power 22 = .ok (.bipush 25, 2) := by decide +kernel
theorem dX5_power_24 : decode cX5_power 24 = .ok (.if_icmp .le 5, 3) := by decide +kernel
theorem dX5_power_27 : decode cX5_power 27 = .ok (.iconst 0, 1) := by decide +kernel
theorem dX5_power_28 : decode cX5_power 28 = .ok (.ireturn, 1) := by decide +kernel
theorem dX5_power_29 : decode cX5_power 29 = .ok (.iload_n 3, 1) := by decide +kernel
theorem dX5_power_30 : decode cX5_power 30 = .ok (.iload_n 3, 1) := by decide +kernel
theorem dX5_power_31 : decode cX5_power 31 = .ok (.imul, 1) := by decide +kernel
theorem dX5_power_32 : decode cX5_power 32 = .ok (.iload_n 3, 1) := by decide +kernel
theorem dX5_power_33 : decode cX5_power 33 = .ok (.imul, 1) := by decide +kernel
theorem dX5_power_34 : decode cX5_power 34 = .ok (.sipush 2000, 3) := by decide +kernel
theorem dX5_power_37 : decode cX5_power 37 = .ok (.if_icmp .le 9, 3) := by decide +kernel
theorem dX5_power_40 : decode cX5_power 40 = .ok (.sipush 2000, 3) := by decide +kernel
theorem dX5_power_43 : decode cX5_power 43 = .ok (.goto 8, 3) := by decide +kernel
theorem dX5_power_46 : decode cX5_power 46 = .ok (.iload_n 3, 1) := by decide +kernel
theorem dX5_power_47 : decode cX5_power 47 = .ok (.iload_n 3, 1) := by decide +kernel
theorem dX5_power_48 : decode cX5_power 48 = .ok (.imul, 1) := by decide +kernel
theorem dX5_power_49 : decode cX5_power 49 = .ok (.iload_n 3, 1) := by decide +kernel
theorem dX5_power_50 : decode cX5_power 50 = .ok (.imul, 1) := by decide +kernel
theorem dX5_power_51 : decode cX5_power 51 = .ok (.ireturn, 1) := by decide +kernel
theorem dX5_allTurn_0 : decode cX5_allTurn 0 = .ok (.iconst 0, 1) := by decide +kernel
theorem dX5_allTurn_1 : decode cX5_allTurn 1 = .ok (.istore_n 1, 1) := by decide +kernel
theorem dX5_allTurn_2 : decode cX5_allTurn 2 = .ok (.iload_n 1, 1) := by decide +kernel
theorem dX5_allTurn_3 : decode cX5_allTurn 3 = .ok (.aload_n 0, 1) := by decide +kernel
theorem dX5_allTurn_4 : decode cX5_allTurn 4 = .ok (.getfield 62, 3) := by decide +kernel
theorem dX5_allTurn_7 : decode cX5_allTurn 7 = .ok (.if_icmp .ge 23, 3) := by decide +kernel
theorem dX5_allTurn_10 : decode cX5_allTurn 10 = .ok (.aload_n 0, 1) := by decide +kernel
theorem dX5_allTurn_11 : decode cX5_allTurn 11 = .ok (.getfield 19, 3) := by decide +kernel
theorem dX5_allTurn_14 : decode cX5_allTurn 14 = .ok (.iload_n 1, 1) := by decide +kernel
theorem dX5_allTurn_15 : decode cX5_allTurn 15 = .ok (.iconst 1, 1) := by decide +kernel
theorem dX5_allTurn_16 : decode cX5_allTurn 16 = .ok (.aload_n 0, 1) := by decide +kernel
theorem dX5_allTurn_17 : decode cX5_allTurn 17 = .ok (.getfield 13, 3) := by decide +kernel
theorem dX5_allTurn_20 : decode cX5_allTurn 20 = .ok (.iload_n 1, 1) := by decide +kernel
theorem dX5_allTurn_21 : decode cX5_allTurn 21 = .ok (.iaload, 1) := by decide +kernel
theorem dX5_allTurn_22 : decode cX5_allTurn 22 = .ok (.isub, 1) := by decide +kernel
theorem dX5_allTurn_23 : decode cX5_allTurn 23 = .ok (.iastore, 1) := by decide +kernel
theorem dX5_allTurn_24 : decode cX5_allTurn 24 = .ok (.iinc 1 1, 3) := by decide +kernel
theorem dX5_allTurn_27 : decode cX5_allTurn 27 = .ok (.goto (-25), 3) := by decide +kernel
theorem dX5_allTurn_30 : decode cX5_allTurn 30 = .ok (.return_, 1) := by decide +kernel
theorem dX5_areBeside_0 : decode cX5_areBeside 0 = .ok (.iload_n 1, 1) := by decide +kernel
theorem dX5_areBeside_1 : decode cX5_areBeside 1 = .ok (.bipush 6, 2) := by decide +kernel
theorem dX5_areBeside_3 : decode cX5_areBeside 3 = .ok (.irem, 1) := by decide +kernel
theorem dX5_areBeside_4 : decode cX5_areBeside 4 = .ok (.iload_n 2, 1) := by decide +kernel
theorem dX5_areBeside_5 : decode cX5_areBeside 5 = .ok (.bipush 6, 2) := by decide +kernel
theorem dX5_areBeside_7 : decode cX5_areBeside 7 = .ok (.irem, 1) := by decide +kernel
theorem dX5_areBeside_8 : decode cX5_areBeside 8 = .ok (.isub, 1) := by decide +kernel
theorem dX5_areBeside_9 : decode cX5_areBeside 9 = .ok (.istore_n 3, 1) := by decide +kernel
theorem dX5_areBeside_10 : decode cX5_areBeside 10 = .ok (.iload_n 1, 1) := by decide +kernel
theorem dX5_areBeside_11 : decode cX5_areBeside 11 = .ok (.bipush 6, 2) := by decide +kernel
theorem dX5_areBeside_13 : decode cX5_areBeside 13 = .ok (.idiv, 1) := by decide +kernel
theorem dX5_areBeside_14 : decode cX5_areBeside 14 = .ok (.iload_n 2, 1) := by decide +kernel
theorem dX5_areBeside_15 : decode cX5_areBeside 15 = .ok (.bipush 6, 2) := by decide +kernel
theorem dX5_areBeside_17 : decode cX5_areBeside 17 = .ok (.idiv, 1) := by decide +kernel
theorem dX5_areBeside_18 : decode cX5_areBeside 18 = .ok (.isub, 1) := by decide +kernel
theorem dX5_areBeside_19 : decode cX5_areBeside 19 = .ok (.istore 4, 2) := by decide +kernel
theorem dX5_areBeside_21 : decode cX5_areBeside 21 = .ok (.iload_n 3, 1) := by decide +kernel
theorem dX5_areBeside_22 : decode cX5_areBeside 22 = .ok (.iload_n 3, 1) := by decide +kernel
theorem dX5_areBeside_23 : decode cX5_areBeside 23 = .ok (.imul, 1) := by decide +kernel
theorem dX5_areBeside_24 : decode cX5_areBeside 24 = .ok (.iload 4, 2) := by decide +kernel
theorem dX5_areBeside_26 : decode cX5_areBeside 26 = .ok (.iload 4, 2) := by decide +kernel
theorem dX5_areBeside_28 : decode cX5_areBeside 28 = .ok (.imul, 1) := by decide +kernel
theorem dX5_areBeside_29 : decode cX5_areBeside 29 = .ok (.iadd, 1) := by decide +kernel
theorem dX5_areBeside_30 : decode cX5_areBeside 30 = .ok (.iconst 1, 1) := by decide +kernel
theorem dX5_areBeside_31 : decode cX5_areBeside 31 = .ok (.if_icmp .ne 7, 3) := by decide +kernel
theorem dX5_areBeside_34 : decode cX5_areBeside 34 = .ok (.iconst 1, 1) := by decide +kernel
theorem dX5_areBeside_35 : decode cX5_areBeside 35 = .ok (.goto 4, 3) := by decide +kernel
theorem dX5_areBeside_38 : decode cX5_areBeside 38 = .ok (.iconst 0, 1) := by decide +kernel
theorem dX5_areBeside_39 : decode cX5_areBeside 39 = .ok (.ireturn, 1) := by decide +kernel
set_option maxRecDepth 20000 in
theorem ggX5_repairs_X5_allTurn : GoodIn wsX5_repairs wsX5_allTurn := goodIn_r _ [13, 6, 7, 14, 25, 26, 27, 28, 29, 30, 31, 32, 33, 34, 35, 36, 37, 38, 39, 40, 41, 42, 43] (by decide +kernel) (by decide +kernel)
set_option maxRecDepth 20000 in
theorem gX5_repairs_X5_allTurn : GoodIn wsX5_repairs (wsV RX5 91 RX5 yX5_allTurn wsX5_allTurn) := goodIn_app (goodIn_of _ (by decide +kernel)) ggX5_repairs_X5_allTurn
set_option maxRecDepth 20000 in
theorem ggX5_repairs_X5_wavesOf : GoodIn wsX5_repairs wsX5_wavesOf := goodIn_r _ [18, 19, 20, 25, 26, 27, 28, 29, 30, 31, 32, 33, 34, 35, 36, 37, 38, 39, 40, 41, 42, 43] (by decide +kernel) (by decide +kernel)
set_option maxRecDepth 20000 in
theorem gX5_repairs_X5_wavesOf : GoodIn wsX5_repairs (wsV RX5 76 RX5 yX5_wavesOf wsX5_wavesOf) := goodIn_app (goodIn_of _ (by decide +kernel)) ggX5_repairs_X5_wavesOf
set_option maxRecDepth 20000 in
theorem ggX5_repairs_X5_areBeside : GoodIn wsX5_repairs wsX5_areBeside := goodIn_r _ [24] (by decide +kernel) (by decide +kernel)
set_option maxRecDepth 20000 in
theorem gX5_repairs_X5_areBeside : GoodIn wsX5_repairs (wsV RX5 94 RX5 yX5_areBeside wsX5_areBeside) := goodIn_app (goodIn_of _ (by decide +kernel)) ggX5_repairs_X5_areBeside
theorem dX5_repairs_0 : decode cX5_repairs 0 = .ok (.aload_n 0, 1) := by decide +kernel
theorem dX5_repairs_1 : decode cX5_repairs 1 = .ok (.invokevirtual 91, 3) := by decide +kernel
theorem dX5_repairs_4 : decode cX5_repairs 4 = .ok (.iconst 0, 1) := by decide +kernel
theorem dX5_repairs_5 : decode cX5_repairs 5 = .ok (.istore_n 2, 1) := by decide +kernel
theorem dX5_repairs_6 : decode cX5_repairs 6 = .ok (.iload_n 2, 1) := by decide +kernel
theorem dX5_repairs_7 : decode cX5_repairs 7 = .ok (.iconst 3, 1) := by decide +kernel
theorem dX5_repairs_8 : decode cX5_repairs 8 = .ok (.if_icmp .ge 128, 3) := by decide +kernel
theorem dX5_repairs_11 : decode cX5_repairs 11 = .ok (.aload_n 0, 1) := by decide +kernel
theorem dX5_repairs_12 : decode cX5_repairs 12 = .ok (.getfield 46, 3) := by decide +kernel
theorem dX5_repairs_15 : decode cX5_repairs 15 = .ok (.iload_n 2, 1) := by decide +kernel
theorem dX5_repairs_16 : decode cX5_repairs 16 = .ok (.iaload, 1) := by decide +kernel
theorem dX5_repairs_17 : decode cX5_repairs 17 = .ok (.ifCond .lt 113, 3) := by decide +kernel
theorem dX5_repairs_20 : decode cX5_repairs 20 = .ok (.aload_n 0, 1) := by decide +kernel
theorem dX5_repairs_21 : decode cX5_repairs 21 = .ok (.iload_n 1, 1) := by decide +kernel
theorem dX5_repairs_22 : decode cX5_repairs 22 = .ok (.invokevirtual 76, 3) := by decide +kernel
theorem dX5_repairs_25 : decode cX5_repairs 25 = .ok (.iconst 4, 1) := by decide +kernel
theorem dX5_repairs_26 : decode cX5_repairs 26 = .ok (.if_icmp .gt 104, 3) := by decide +kernel
theorem dX5_repairs_29 : decode cX5_repairs 29 = .ok (.aload_n 0, 1) := by decide +kernel
theorem dX5_repairs_30 : decode cX5_repairs 30 = .ok (.getfield 52, 3) := by decide +kernel
theorem dX5_repairs_33 : decode cX5_repairs 33 = .ok (.iload_n 2, 1) := by decide +kernel
theorem dX5_repairs_34 : decode cX5_repairs 34 = .ok (.iaload, 1) := by decide +kernel
theorem dX5_repairs_35 : decode cX5_repairs 35 = .ok (.aload_n 0, 1) := by decide +kernel
theorem dX5_repairs_36 : decode cX5_repairs 36 = .ok (.getfield 43, 3) := by decide +kernel
theorem dX5_repairs_39 : decode cX5_repairs 39 = .ok (.iload_n 2, 1) := by decide +kernel
theorem dX5_repairs_40 : decode cX5_repairs 40 = .ok (.iaload, 1) := by decide +kernel
theorem dX5_repairs_41 : decode cX5_repairs 41 = .ok (.if_icmp .ge 89, 3) := by decide +kernel
theorem dX5_repairs_44 : decode cX5_repairs 44 = .ok (.aload_n 0, 1) := by decide +kernel
theorem dX5_repairs_45 : decode cX5_repairs 45 = .ok (.getfield 49, 3) := by decide +kernel
theorem dX5_repairs_48 : decode cX5_repairs 48 = .ok (.iload_n 2, 1) := by decide +kernel
theorem dX5_repairs_49 : decode cX5_repairs 49 = .ok (.dup2, 1) := by decide +kernel
theorem dX5_repairs_50 : decode cX5_repairs 50 = .ok (.iaload, 1) := by decide +kernel
theorem dX5_repairs_51 : decode cX5_repairs 51 = .ok (.iconst 1, 1) := by decide +kernel
theorem dX5_repairs_52 : decode cX5_repairs 52 = .ok (.isub, 1) := by decide +kernel
theorem dX5_repairs_53 : decode cX5_repairs 53 = .ok (.iastore, 1) := by decide +kernel
theorem dX5_repairs_54 : decode cX5_repairs 54 = .ok (.aload_n 0, 1) := by decide +kernel
theorem dX5_repairs_55 : decode cX5_repairs 55 = .ok (.getfield 52, 3) := by decide +kernel
theorem dX5_repairs_58 : decode cX5_repairs 58 = .ok (.iload_n 2, 1) := by decide +kernel
theorem dX5_repairs_59 : decode cX5_repairs 59 = .ok (.dup2, 1) := by decide +kernel
theorem dX5_repairs_60 : decode cX5_repairs 60 = .ok (.iaload, 1) := by decide +kernel
theorem dX5_repairs_61 : decode cX5_repairs 61 = .ok (.iconst 1, 1) := by decide +kernel
theorem dX5_repairs_62 : decode cX5_repairs 62 = .ok (.iadd, 1) := by decide +kernel
theorem dX5_repairs_63 : decode cX5_repairs 63 = .ok (.iastore, 1) := by decide +kernel
theorem dX5_repairs_64 : decode cX5_repairs 64 = .ok (.aload_n 0, 1) := by decide +kernel
theorem dX5_repairs_65 : decode cX5_repairs 65 = .ok (.getfield 55, 3) := by decide +kernel
theorem dX5_repairs_68 : decode cX5_repairs 68 = .ok (.iload_n 2, 1) := by decide +kernel
theorem dX5_repairs_69 : decode cX5_repairs 69 = .ok (.dup2, 1) := by decide +kernel
theorem dX5_repairs_70 : decode cX5_repairs 70 = .ok (.iaload, 1) := by decide +kernel
theorem dX5_repairs_71 : decode cX5_repairs 71 = .ok (.iconst 1, 1) := by decide +kernel
theorem dX5_repairs_72 : decode cX5_repairs 72 = .ok (.iadd, 1) := by decide +kernel
theorem dX5_repairs_73 : decode cX5_repairs 73 = .ok (.iastore, 1) := by decide +kernel
theorem dX5_repairs_74 : decode cX5_repairs 74 = .ok (.iconst 0, 1) := by decide +kernel
theorem dX5_repairs_75 : decode cX5_repairs 75 = .ok (.istore_n 3, 1) := by decide +kernel
theorem dX5_repairs_76 : decode cX5_repairs 76 = .ok (.iload_n 3, 1) := by decide +kernel
theorem dX5_repairs_77 : decode cX5_repairs 77 = .ok (.aload_n 0, 1) := by decide +kernel
theorem dX5_repairs_78 : decode cX5_repairs 78 = .ok (.getfield 62, 3) := by decide +kernel
theorem dX5_repairs_81 : decode cX5_repairs 81 = .ok (.if_icmp .ge 49, 3) := by decide +kernel
theorem dX5_repairs_84 : decode cX5_repairs 84 = .ok (.aload_n 0, 1) := by decide +kernel
theorem dX5_repairs_85 : decode cX5_repairs 85 = .ok (.getfield 19, 3) := by decide +kernel
theorem dX5_repairs_88 : decode cX5_repairs 88 = .ok (.iload_n 3, 1) := by decide +kernel
theorem dX5_repairs_89 : decode cX5_repairs 89 = .ok (.aload_n 0, 1) := by decide +kernel
theorem dX5_repairs_90 : decode cX5_repairs 90 = .ok (.aload_n 0, 1) := by decide +kernel
theorem dX5_repairs_91 : decode cX5_repairs 91 = .ok (.getfield 7, 3) := by decide +kernel
theorem dX5_repairs_94 : decode cX5_repairs 94 = .ok (.iload_n 3, 1) := by decide +kernel
theorem dX5_repairs_95 : decode cX5_repairs 95 = .ok (.iaload, 1) := by decide +kernel
theorem dX5_repairs_96 : decode cX5_repairs 96 = .ok (.aload_n 0, 1) := by decide +kernel
theorem dX5_repairs_97 : decode cX5_repairs 97 = .ok (.getfield 7, 3) := by decide +kernel
theorem dX5_repairs_100 : decode cX5_repairs 100 = .ok (.aload_n 0, 1) := by decide +kernel
theorem dX5_repairs_101 : decode cX5_repairs 101 = .ok (.getfield 46, 3) := by decide +kernel
theorem dX5_repairs_104 : decode cX5_repairs 104 = .ok (.iload_n 2, 1) := by decide +kernel
theorem dX5_repairs_105 : decode cX5_repairs 105 = .ok (.iaload, 1) := by decide +kernel
theorem dX5_repairs_106 : decode cX5_repairs 106 = .ok (.iaload, 1) := by decide +kernel
theorem dX5_repairs_107 : decode cX5_repairs 107 = .ok (.invokevirtual 94, 3) := by decide +kernel
theorem dX5_repairs_110 : decode cX5_repairs 110 = .ok (.ifCond .eq 7, 3) := by decide +kernel
theorem dX5_repairs_113 : decode cX5_repairs 113 = .ok (.iconst 0, 1) := by decide +kernel
theorem dX5_repairs_114 : decode cX5_repairs 114 = .ok (.goto 9, 3) := by decide +kernel
theorem dX5_repairs_117 : decode cX5_repairs 117 = .ok (.aload_n 0, 1) := by decide +kernel
theorem dX5_repairs_118 : decode cX5_repairs 118 = .ok (.getfield 19, 3) := by decide +kernel
theorem dX5_repairs_121 : decode cX5_repairs 121 = .ok (.iload_n 3, 1) := by decide +kernel
theorem dX5_repairs_122 : decode cX5_repairs 122 = .ok (.iaload, 1) := by decide +kernel
theorem dX5_repairs_123 : decode cX5_repairs 123 = .ok (.iastore, 1) := by decide +kernel
theorem dX5_repairs_124 : decode cX5_repairs 124 = .ok (.iinc 3 1, 3) := by decide +kernel
theorem dX5_repairs_127 : decode cX5_repairs 127 = .ok (.goto (-51), 3) := by decide +kernel
theorem dX5_repairs_130 : decode cX5_repairs 130 = .ok (.iinc 2 1, 3) := by decide +kernel
theorem dX5_repairs_133 : decode cX5_repairs 133 = .ok (.goto (-127), 3) := by decide +kernel
theorem dX5_repairs_136 : decode cX5_repairs 136 = .ok (.return_, 1) := by decide +kernel
theorem dX5_frees_0 : decode cX5_frees 0 = .ok (.iconst 0, 1) := by decide +kernel
theorem dX5_frees_1 : decode cX5_frees 1 = .ok (.istore_n 1, 1) := by decide +kernel
theorem dX5_frees_2 : decode cX5_frees 2 = .ok (.iload_n 1, 1) := by decide +kernel
theorem dX5_frees_3 : decode cX5_frees 3 = .ok (.iconst 3, 1) := by decide +kernel
theorem dX5_frees_4 : decode cX5_frees 4 = .ok (.if_icmp .ge 46, 3) := by decide +kernel
theorem dX5_frees_7 : decode cX5_frees 7 = .ok (.aload_n 0, 1) := by decide +kernel
theorem dX5_frees_8 : decode cX5_frees 8 = .ok (.getfield 46, 3) := by decide +kernel
theorem dX5_frees_11 : decode cX5_frees 11 = .ok (.iload_n 1, 1) := by decide +kernel
theorem dX5_frees_12 : decode cX5_frees 12 = .ok (.iaload, 1) := by decide +kernel
theorem dX5_frees_13 : decode cX5_frees 13 = .ok (.ifCond .lt 31, 3) := by decide +kernel
theorem dX5_frees_16 : decode cX5_frees 16 = .ok (.aload_n 0, 1) := by decide +kernel
theorem dX5_frees_17 : decode cX5_frees 17 = .ok (.getfield 49, 3) := by decide +kernel
theorem dX5_frees_20 : decode cX5_frees 20 = .ok (.iload_n 1, 1) := by decide +kernel
theorem dX5_frees_21 : decode cX5_frees 21 = .ok (.iaload, 1) := by decide +kernel
theorem dX5_frees_22 : decode cX5_frees 22 = .ok (.ifCond .ne 22, 3) := by decide +kernel
theorem dX5_frees_25 : decode cX5_frees 25 = .ok (.aload_n 0, 1) := by decide +kernel
theorem dX5_frees_26 : decode cX5_frees 26 = .ok (.getfield 13, 3) := by decide +kernel
theorem dX5_frees_29 : decode cX5_frees 29 = .ok (.aload_n 0, 1) := by decide +kernel
theorem dX5_frees_30 : decode cX5_frees 30 = .ok (.getfield 46, 3) := by decide +kernel
theorem dX5_frees_33 : decode cX5_frees 33 = .ok (.iload_n 1, 1) := by decide +kernel
theorem dX5_frees_34 : decode cX5_frees 34 = .ok (.iaload, 1) := by decide +kernel
theorem dX5_frees_35 : decode cX5_frees 35 = .ok (.iconst 0, 1) := by decide +kernel
theorem dX5_frees_36 : decode cX5_frees 36 = .ok (.iastore, 1) := by decide +kernel
theorem dX5_frees_37 : decode cX5_frees 37 = .ok (.aload_n 0, 1) := by decide +kernel
theorem dX5_frees_38 : decode cX5_frees 38 = .ok (.getfield 46, 3) := by decide +kernel
theorem dX5_frees_41 : decode cX5_frees 41 = .ok (.iload_n 1, 1) := by decide +kernel
theorem dX5_frees_42 : decode cX5_frees 42 = .ok (.iconst (-1), 1) := by decide +kernel
theorem dX5_frees_43 : decode cX5_frees 43 = .ok (.iastore, 1) := by decide +kernel
theorem dX5_frees_44 : decode cX5_frees 44 = .ok (.iinc 1 1, 3) := by decide +kernel
theorem dX5_frees_47 : decode cX5_frees 47 = .ok (.goto (-45), 3) := by decide +kernel
theorem dX5_frees_50 : decode cX5_frees 50 = .ok (.return_, 1) := by decide +kernel
theorem dX5_accounts_0 : decode cX5_accounts 0 = .ok (.aload_n 0, 1) := by decide +kernel
theorem dX5_accounts_1 : decode cX5_accounts 1 = .ok (.getfield 31, 3) := by decide +kernel
theorem dX5_accounts_4 : decode cX5_accounts 4 = .ok (.iload_n 1, 1) := by decide +kernel
theorem dX5_accounts_5 : decode cX5_accounts 5 = .ok (.iaload, 1) := by decide +kernel
theorem dX5_accounts_6 : decode cX5_accounts 6 = .ok (.ifCond .ge 7, 3) := by decide +kernel
theorem dX5_accounts_9 : decode cX5_accounts 9 = .ok (.iconst 0, 1) := by decide +kernel
theorem dX5_accounts_10 : decode cX5_accounts 10 = .ok (.goto 9, 3) := by decide +kernel
theorem dX5_accounts_13 : decode cX5_accounts 13 = .ok (.aload_n 0, 1) := by decide +kernel
theorem dX5_accounts_14 : decode cX5_accounts 14 = .ok (.getfield 31, 3) := by decide +kernel
theorem dX5_accounts_17 : decode cX5_accounts 17 = .ok (.iload_n 1, 1) := by decide +kernel
theorem dX5_accounts_18 : decode cX5_accounts 18 = .ok (.iaload, 1) := by decide +kernel
theorem dX5_accounts_19 : decode cX5_accounts 19 = .ok (.istore_n 2, 1) := by decide +kernel
theorem dX5_accounts_20 : decode cX5_accounts 20 = .ok (.iload_n 2, 1) := by decide +kernel
theorem dX5_accounts_21 : decode cX5_accounts 21 = .ok (.aload_n 0, 1) := by decide +kernel
theorem dX5_accounts_22 : decode cX5_accounts 22 = .ok (.getfield 37, 3) := by decide +kernel
theorem dX5_accounts_25 : decode cX5_accounts 25 = .ok (.iload_n 1, 1) := by decide +kernel
theorem dX5_accounts_26 : decode cX5_accounts 26 = .ok (.iaload, 1) := by decide +kernel
theorem dX5_accounts_27 : decode cX5_accounts 27 = .ok (.isub, 1) := by decide +kernel
theorem dX5_accounts_28 : decode cX5_accounts 28 = .ok (.istore_n 3, 1) := by decide +kernel
theorem dX5_accounts_29 : decode cX5_accounts 29 = .ok (.aload_n 0, 1) := by decide +kernel
theorem dX5_accounts_30 : decode cX5_accounts 30 = .ok (.getfield 40, 3) := by decide +kernel
theorem dX5_accounts_33 : decode cX5_accounts 33 = .ok (.iload_n 1, 1) := by decide +kernel
theorem dX5_accounts_34 : decode cX5_accounts 34 = .ok (.iload_n 2, 1) := by decide +kernel
theorem dX5_accounts_35 : decode cX5_accounts 35 = .ok (.aload_n 0, 1) := by decide +kernel
theorem dX5_accounts_36 : decode cX5_accounts 36 = .ok (.getfield 34, 3) := by decide +kernel
theorem dX5_accounts_39 : decode cX5_accounts 39 = .ok (.iload_n 1, 1) := by decide +kernel
theorem dX5_accounts_40 : decode cX5_accounts 40 = .ok (.iaload, 1) := by decide +kernel
theorem dX5_accounts_41 : decode cX5_accounts 41 = .ok (.imul, 1) := by decide +kernel
theorem dX5_accounts_42 : decode cX5_accounts 42 = .ok (.iload_n 3, 1) := by decide +kernel
theorem dX5_accounts_43 : decode cX5_accounts 43 = .ok (.ifCond .le 16, 3) := by decide +kernel
theorem dX5_accounts_46 : decode cX5_accounts 46 = .ok (.iconst 2, 1) := by decide +kernel
theorem dX5_accounts_47 : decode cX5_accounts 47 = .ok (.aload_n 0, 1) := by decide +kernel
theorem dX5_accounts_48 : decode cX5_accounts 48 = .ok (.getfield 34, 3) := by decide +kernel
theorem dX5_accounts_51 : decode cX5_accounts 51 = .ok (.iload_n 1, 1) := by decide +kernel
theorem dX5_accounts_52 : decode cX5_accounts 52 = .ok (.iaload, 1) := by decide +kernel
theorem dX5_accounts_53 : decode cX5_accounts 53 = .ok (.imul, 1) := by decide +kernel
theorem dX5_accounts_54 : decode cX5_accounts 54 = .ok (.iload_n 3, 1) := by decide +kernel
theorem dX5_accounts_55 : decode cX5_accounts 55 = .ok (.imul, 1) := by decide +kernel
theorem dX5_accounts_56 : decode cX5_accounts 56 = .ok (.goto 13, 3) := by decide +kernel
theorem dX5_accounts_59 : decode cX5_accounts 59 = .ok (.aload_n 0, 1) := by decide +kernel
theorem dX5_accounts_60 : decode cX5_accounts 60 = .ok (.getfield 34, 3) := by decide +kernel
theorem dX5_accounts_63 : decode cX5_accounts 63 = .ok (.iload_n 1, 1) := by decide +kernel
theorem dX5_accounts_64 : decode cX5_accounts 64 = .ok (.iaload, 1) := by decide +kernel
theorem dX5_accounts_65 : decode cX5_accounts 65 = .ok (.iconst 2, 1) := by decide +kernel
theorem dX5_accounts_66 : decode cX5_accounts 66 = .ok (.idiv, 1) := by decide +kernel
theorem dX5_accounts_67 : decode cX5_accounts 67 = .ok (.iload_n 3, 1) := by decide +kernel
theorem dX5_accounts_68 : decode cX5_accounts 68 = .ok (.imul, 1) := by decide +kernel
theorem dX5_accounts_69 : decode cX5_accounts 69 = .ok (.isub, 1) := by decide +kernel
theorem dX5_accounts_70 : decode cX5_accounts 70 = .ok (.iastore, 1) := by decide +kernel
theorem dX5_accounts_71 : decode cX5_accounts 71 = .ok (.return_, 1) := by decide +kernel
set_option maxRecDepth 20000 in
theorem ggX5_pass_X5_in : GoodIn wsX5_pass wsX5_in := goodIn_r _ [10] (by decide +kernel) (by decide +kernel)
set_option maxRecDepth 20000 in
theorem gX5_pass_X5_in : GoodIn wsX5_pass (wsV RX5 65 RX5 yX5_in wsX5_in) := goodIn_app (goodIn_of _ (by decide +kernel)) ggX5_pass_X5_in
set_option maxRecDepth 20000 in
theorem ggX5_pass_X5_fails : GoodIn wsX5_pass wsX5_fails := goodIn_r _ [14, 15, 65, 66, 67, 68, 69, 70, 71, 72, 73, 74, 75, 76, 77, 78, 79, 80, 81, 82, 83] (by decide +kernel) (by decide +kernel)
set_option maxRecDepth 20000 in
theorem gX5_pass_X5_fails : GoodIn wsX5_pass (wsV RX5 69 RX5 yX5_fails wsX5_fails) := goodIn_app (goodIn_of _ (by decide +kernel)) ggX5_pass_X5_fails
set_option maxRecDepth 20000 in
theorem ggX5_pass_X5_repairs : GoodIn wsX5_pass wsX5_repairs := goodIn_r _ [19, 20, 5, 21, 22, 23, 2, 24, 25, 26, 27, 28, 9, 29, 30, 31, 32, 33, 34, 35, 36, 37, 38, 39, 40, 65, 66, 67, 68, 69, 70, 71, 72, 73, 74, 75, 76, 77, 78, 79, 80, 81, 82, 83] (by decide +kernel) (by decide +kernel)
set_option maxRecDepth 20000 in
theorem gX5_pass_X5_repairs : GoodIn wsX5_pass (wsV RX5 98 RX5 yX5_repairs wsX5_repairs) := goodIn_app (goodIn_of _ (by decide +kernel)) ggX5_pass_X5_repairs
set_option maxRecDepth 20000 in
theorem ggX5_pass_X5_power : GoodIn wsX5_pass wsX5_power := goodIn_r _ [44, 24, 45, 46, 47, 9, 48, 36, 49, 50, 51, 52, 25, 53, 2, 65, 66, 67, 68, 69, 70, 71, 72, 73, 74, 75, 76, 77, 78, 79, 80, 81, 82, 83] (by decide +kernel) (by decide +kernel)
set_option maxRecDepth 20000 in
theorem gX5_pass_X5_power : GoodIn wsX5_pass (wsV RX5 102 RX5 yX5_power wsX5_power) := goodIn_app (goodIn_of _ (by decide +kernel)) ggX5_pass_X5_power
set_option maxRecDepth 20000 in
theorem ggX5_pass_X5_accounts : GoodIn wsX5_pass wsX5_accounts := goodIn_r _ [57, 58, 4, 59, 60, 65, 66, 67, 68, 69, 70, 71, 72, 73, 74, 75, 76, 77, 78, 79, 80, 81, 82, 83] (by decide +kernel) (by decide +kernel)
set_option maxRecDepth 20000 in
theorem gX5_pass_X5_accounts : GoodIn wsX5_pass (wsV RX5 105 RX5 yX5_accounts wsX5_accounts) := goodIn_app (goodIn_of _ (by decide +kernel)) ggX5_pass_X5_accounts
set_option maxRecDepth 20000 in
theorem ggX5_pass_X5_frees : GoodIn wsX5_pass wsX5_frees := goodIn_r _ [64, 20, 22, 30, 65, 66, 67, 68, 69, 70, 71, 72, 73, 74, 75, 76, 77, 78, 79, 80, 81, 82, 83] (by decide +kernel) (by decide +kernel)
set_option maxRecDepth 20000 in
theorem gX5_pass_X5_frees : GoodIn wsX5_pass (wsV RX5 108 RX5 yX5_frees wsX5_frees) := goodIn_app (goodIn_of _ (by decide +kernel)) ggX5_pass_X5_frees
theorem dX5_pass_0 : decode cX5_pass 0 = .ok (.aload_n 0, 1) := by decide +kernel
theorem dX5_pass_1 : decode cX5_pass 1 = .ok (.aload_n 0, 1) := by decide +kernel
theorem dX5_pass_2 : decode cX5_pass 2 = .ok (.iload_n 1, 1) := by decide +kernel
theorem dX5_pass_3 : decode cX5_pass 3 = .ok (.iconst 1, 1) := by decide +kernel
theorem dX5_pass_4 : decode cX5_pass 4 = .ok (.bipush 48, 2) := by decide +kernel
theorem dX5_pass_6 : decode cX5_pass 6 = .ok (.invokevirtual 65, 3) := by decide +kernel
theorem dX5_pass_9 : decode cX5_pass 9 = .ok (.ifCond .ne 7, 3) := by decide +kernel
theorem dX5_pass_12 : decode cX5_pass 12 = .ok (.iconst 1, 1) := by decide +kernel
theorem dX5_pass_13 : decode cX5_pass 13 = .ok (.goto 20, 3) := by decide +kernel
theorem dX5_pass_16 : decode cX5_pass 16 = .ok (.aload_n 0, 1) := by decide +kernel
theorem dX5_pass_17 : decode cX5_pass 17 = .ok (.getfield 73, 3) := by decide +kernel
theorem dX5_pass_20 : decode cX5_pass 20 = .ok (.iload_n 1, 1) := by decide +kernel
theorem dX5_pass_21 : decode cX5_pass 21 = .ok (.iadd, 1) := by decide +kernel
theorem dX5_pass_22 : decode cX5_pass 22 = .ok (.sipush 479, 3) := by decide +kernel
theorem dX5_pass_25 : decode cX5_pass 25 = .ok (.if_icmp .le 7, 3) := by decide +kernel
theorem dX5_pass_28 : decode cX5_pass 28 = .ok (.iconst 2, 1) := by decide +kernel
theorem dX5_pass_29 : decode cX5_pass 29 = .ok (.goto 4, 3) := by decide +kernel
theorem dX5_pass_32 : decode cX5_pass 32 = .ok (.iconst 0, 1) := by decide +kernel
theorem dX5_pass_33 : decode cX5_pass 33 = .ok (.invokevirtual 69, 3) := by decide +kernel
theorem dX5_pass_36 : decode cX5_pass 36 = .ok (.ifCond .eq 5, 3) := by decide +kernel
theorem dX5_pass_39 : decode cX5_pass 39 = .ok (.iconst (-1), 1) := by decide +kernel
theorem dX5_pass_40 : decode cX5_pass 40 = .ok (.ireturn, 1) := by decide +kernel
theorem dX5_pass_41 : decode cX5_pass 41 = .ok (.iconst 0, 1) := by decide +kernel
theorem dX5_pass_42 : decode cX5_pass 42 = .ok (.istore_n 2, 1) := by decide +kernel
theorem dX5_pass_43 : decode cX5_pass 43 = .ok (.iload_n 2, 1) := by decide +kernel
theorem dX5_pass_44 : decode cX5_pass 44 = .ok (.iload_n 1, 1) := by decide +kernel
theorem dX5_pass_45 : decode cX5_pass 45 = .ok (.if_icmp .ge 130, 3) := by decide +kernel
theorem dX5_pass_48 : decode cX5_pass 48 = .ok (.aload_n 0, 1) := by decide +kernel
theorem dX5_pass_49 : decode cX5_pass 49 = .ok (.aload_n 0, 1) := by decide +kernel
theorem dX5_pass_50 : decode cX5_pass 50 = .ok (.getfield 73, 3) := by decide +kernel
theorem dX5_pass_53 : decode cX5_pass 53 = .ok (.invokevirtual 98, 3) := by decide +kernel
theorem dX5_pass_56 : decode cX5_pass 56 = .ok (.iconst 0, 1) := by decide +kernel
theorem dX5_pass_57 : decode cX5_pass 57 = .ok (.istore_n 3, 1) := by decide +kernel
theorem dX5_pass_58 : decode cX5_pass 58 = .ok (.iload_n 3, 1) := by decide +kernel
theorem dX5_pass_59 : decode cX5_pass 59 = .ok (.aload_n 0, 1) := by decide +kernel
theorem dX5_pass_60 : decode cX5_pass 60 = .ok (.getfield 62, 3) := by decide +kernel
theorem dX5_pass_63 : decode cX5_pass 63 = .ok (.if_icmp .ge 45, 3) := by decide +kernel
theorem dX5_pass_66 : decode cX5_pass 66 = .ok (.aload_n 0, 1) := by decide +kernel
theorem dX5_pass_67 : decode cX5_pass 67 = .ok (.iload_n 3, 1) := by decide +kernel
theorem dX5_pass_68 : decode cX5_pass 68 = .ok (.aload_n 0, 1) := by decide +kernel
theorem dX5_pass_69 : decode cX5_pass 69 = .ok (.getfield 73, 3) := by decide +kernel
theorem dX5_pass_72 : decode cX5_pass 72 = .ok (.invokevirtual 102, 3) := by decide +kernel
theorem dX5_pass_75 : decode cX5_pass 75 = .ok (.istore 4, 2) := by decide +kernel
theorem dX5_pass_77 : decode cX5_pass 77 = .ok (.aload_n 0, 1) := by decide +kernel
theorem dX5_pass_78 : decode cX5_pass 78 = .ok (.getfield 16, 3) := by decide +kernel
theorem dX5_pass_81 : decode cX5_pass 81 = .ok (.iload_n 3, 1) := by decide +kernel
theorem dX5_pass_82 : decode cX5_pass 82 = .ok (.dup2, 1) := by decide +kernel
theorem dX5_pass_83 : decode cX5_pass 83 = .ok (.iaload, 1) := by decide +kernel
theorem dX5_pass_84 : decode cX5_pass 84 = .ok (.iload 4, 2) := by decide +kernel
theorem dX5_pass_86 : decode cX5_pass 86 = .ok (.iadd, 1) := by decide +kernel
theorem dX5_pass_87 : decode cX5_pass 87 = .ok (.iastore, 1) := by decide +kernel
theorem dX5_pass_88 : decode cX5_pass 88 = .ok (.aload_n 0, 1) := by decide +kernel
theorem dX5_pass_89 : decode cX5_pass 89 = .ok (.getfield 37, 3) := by decide +kernel
theorem dX5_pass_92 : decode cX5_pass 92 = .ok (.aload_n 0, 1) := by decide +kernel
theorem dX5_pass_93 : decode cX5_pass 93 = .ok (.getfield 73, 3) := by decide +kernel
theorem dX5_pass_96 : decode cX5_pass 96 = .ok (.dup2, 1) := by decide +kernel
theorem dX5_pass_97 : decode cX5_pass 97 = .ok (.iaload, 1) := by decide +kernel
theorem dX5_pass_98 : decode cX5_pass 98 = .ok (.iload 4, 2) := by decide +kernel
theorem dX5_pass_100 : decode cX5_pass 100 = .ok (.iadd, 1) := by decide +kernel
theorem dX5_pass_101 : decode cX5_pass 101 = .ok (.iastore, 1) := by decide +kernel
theorem dX5_pass_102 : decode cX5_pass 102 = .ok (.iinc 3 1, 3) := by decide +kernel
theorem dX5_pass_105 : decode cX5_pass 105 = .ok (.goto (-47), 3) := by decide +kernel
theorem dX5_pass_108 : decode cX5_pass 108 = .ok (.aload_n 0, 1) := by decide +kernel
theorem dX5_pass_109 : decode cX5_pass 109 = .ok (.aload_n 0, 1) := by decide +kernel
theorem dX5_pass_110 : decode cX5_pass 110 = .ok (.getfield 73, 3) := by decide +kernel
theorem dX5_pass_113 : decode cX5_pass 113 = .ok (.invokevirtual 105, 3) := by decide +kernel
theorem dX5_pass_116 : decode cX5_pass 116 = .ok (.aload_n 0, 1) := by decide +kernel
theorem dX5_pass_117 : decode cX5_pass 117 = .ok (.invokevirtual 108, 3) := by decide +kernel
theorem dX5_pass_120 : decode cX5_pass 120 = .ok (.aload_n 0, 1) := by decide +kernel
theorem dX5_pass_121 : decode cX5_pass 121 = .ok (.dup, 1) := by decide +kernel
theorem dX5_pass_122 : decode cX5_pass 122 = .ok (.getfield 73, 3) := by decide +kernel
theorem dX5_pass_125 : decode cX5_pass 125 = .ok (.iconst 1, 1) := by decide +kernel
theorem dX5_pass_126 : decode cX5_pass 126 = .ok (.iadd, 1) := by decide +kernel
theorem dX5_pass_127 : decode cX5_pass 127 = .ok (.putfield 73, 3) := by decide +kernel
theorem dX5_pass_130 : decode cX5_pass 130 = .ok (.iconst 0, 1) := by decide +kernel
theorem dX5_pass_131 : decode cX5_pass 131 = .ok (.istore_n 3, 1) := by decide +kernel
theorem dX5_pass_132 : decode cX5_pass 132 = .ok (.iload_n 3, 1) := by decide +kernel
theorem dX5_pass_133 : decode cX5_pass 133 = .ok (.iconst 3, 1) := by decide +kernel
theorem dX5_pass_134 : decode cX5_pass 134 = .ok (.if_icmp .ge 35, 3) := by decide +kernel
theorem dX5_pass_137 : decode cX5_pass 137 = .ok (.aload_n 0, 1) := by decide +kernel
theorem dX5_pass_138 : decode cX5_pass 138 = .ok (.getfield 52, 3) := by decide +kernel
theorem dX5_pass_141 : decode cX5_pass 141 = .ok (.iload_n 3, 1) := by decide +kernel
theorem dX5_pass_142 : decode cX5_pass 142 = .ok (.aload_n 0, 1) := by decide +kernel
theorem dX5_pass_143 : decode cX5_pass 143 = .ok (.getfield 73, 3) := by decide +kernel
theorem dX5_pass_146 : decode cX5_pass 146 = .ok (.bipush 24, 2) := by decide +kernel
theorem dX5_pass_148 : decode cX5_pass 148 = .ok (.irem, 1) := by decide +kernel
theorem dX5_pass_149 : decode cX5_pass 149 = .ok (.ifCond .ne 7, 3) := by decide +kernel
theorem dX5_pass_152 : decode cX5_pass 152 = .ok (.iconst 0, 1) := by decide +kernel
theorem dX5_pass_153 : decode cX5_pass 153 = .ok (.goto 9, 3) := by decide +kernel
theorem dX5_pass_156 : decode cX5_pass 156 = .ok (.aload_n 0, 1) := by decide +kernel
theorem dX5_pass_157 : decode cX5_pass 157 = .ok (.getfield 52, 3) := by decide +kernel
theorem dX5_pass_160 : decode cX5_pass 160 = .ok (.iload_n 3, 1) := by decide +kernel
theorem dX5_pass_161 : decode cX5_pass 161 = .ok (.iaload, 1) := by decide +kernel
theorem dX5_pass_162 : decode cX5_pass 162 = .ok (.iastore, 1) := by decide +kernel
theorem dX5_pass_163 : decode cX5_pass 163 = .ok (.iinc 3 1, 3) := by decide +kernel
theorem dX5_pass_166 : decode cX5_pass 166 = .ok (.goto (-34), 3) := by decide +kernel
theorem dX5_pass_169 : decode cX5_pass 169 = .ok (.iinc 2 1, 3) := by decide +kernel
theorem dX5_pass_172 : decode cX5_pass 172 = .ok (.goto (-129), 3) := by decide +kernel
theorem dX5_pass_175 : decode cX5_pass 175 = .ok (.aload_n 0, 1) := by decide +kernel
theorem dX5_pass_176 : decode cX5_pass 176 = .ok (.getfield 73, 3) := by decide +kernel
theorem dX5_pass_179 : decode cX5_pass 179 = .ok (.ireturn, 1) := by decide +kernel
set_option maxRecDepth 20000 in
theorem ggX5_windAt_X5_isTurbine : GoodIn wsX5_windAt wsX5_isTurbine := goodIn_r _ [6, 7, 8, 9, 10, 5, 11, 34, 35, 36, 37, 38, 39, 40, 41, 42, 43, 44, 45, 46, 47, 48, 49, 50, 51, 52] (by decide +kernel) (by decide +kernel)
set_option maxRecDepth 20000 in
theorem gX5_windAt_X5_isTurbine : GoodIn wsX5_windAt (wsV RX5 80 RX5 yX5_isTurbine wsX5_isTurbine) := goodIn_app (goodIn_of _ (by decide +kernel)) ggX5_windAt_X5_isTurbine
set_option maxRecDepth 20000 in
theorem ggX5_windAt_X5_fails : GoodIn wsX5_windAt wsX5_fails := goodIn_r _ [15, 16, 34, 35, 36, 37, 38, 39, 40, 41, 42, 43, 44, 45, 46, 47, 48, 49, 50, 51, 52] (by decide +kernel) (by decide +kernel)
set_option maxRecDepth 20000 in
theorem gX5_windAt_X5_fails : GoodIn wsX5_windAt (wsV RX5 69 RX5 yX5_fails wsX5_fails) := goodIn_app (goodIn_of _ (by decide +kernel)) ggX5_windAt_X5_fails
set_option maxRecDepth 20000 in
theorem ggX5_windAt_X5_allTurn : GoodIn wsX5_windAt wsX5_allTurn := goodIn_r _ [20, 7, 21, 22, 34, 35, 36, 37, 38, 39, 40, 41, 42, 43, 44, 45, 46, 47, 48, 49, 50, 51, 52] (by decide +kernel) (by decide +kernel)
set_option maxRecDepth 20000 in
theorem gX5_windAt_X5_allTurn : GoodIn wsX5_windAt (wsV RX5 91 RX5 yX5_allTurn wsX5_allTurn) := goodIn_app (goodIn_of _ (by decide +kernel)) ggX5_windAt_X5_allTurn
set_option maxRecDepth 20000 in
theorem ggX5_windAt_X5_windOf : GoodIn wsX5_windAt wsX5_windOf := goodIn_r _ [26, 27, 28, 29, 30, 5, 31, 32, 33, 7, 21, 34, 35, 36, 37, 38, 39, 40, 41, 42, 43, 44, 45, 46, 47, 48, 49, 50, 51, 52] (by decide +kernel) (by decide +kernel)
set_option maxRecDepth 20000 in
theorem gX5_windAt_X5_windOf : GoodIn wsX5_windAt (wsV RX5 87 RX5 yX5_windOf wsX5_windOf) := goodIn_app (goodIn_of _ (by decide +kernel)) ggX5_windAt_X5_windOf
theorem dX5_windAt_0 : decode cX5_windAt 0 = .ok (.aload_n 0, 1) := by decide +kernel
theorem dX5_windAt_1 : decode cX5_windAt 1 = .ok (.aload_n 0, 1) := by decide +kernel
theorem dX5_windAt_2 : decode cX5_windAt 2 = .ok (.iload_n 1, 1) := by decide +kernel
theorem dX5_windAt_3 : decode cX5_windAt 3 = .ok (.invokevirtual 80, 3) := by decide +kernel
theorem dX5_windAt_6 : decode cX5_windAt 6 = .ok (.ifCond .eq 7, 3) := by decide +kernel
theorem dX5_windAt_9 : decode cX5_windAt 9 = .ok (.iconst 0, 1) := by decide +kernel
theorem dX5_windAt_10 : decode cX5_windAt 10 = .ok (.goto 4, 3) := by decide +kernel
theorem dX5_windAt_13 : decode cX5_windAt 13 = .ok (.iconst 1, 1) := by decide +kernel
theorem dX5_windAt_14 : decode cX5_windAt 14 = .ok (.invokevirtual 69, 3) := by decide +kernel
theorem dX5_windAt_17 : decode cX5_windAt 17 = .ok (.ifCond .eq 5, 3) := by decide +kernel
theorem dX5_windAt_20 : decode cX5_windAt 20 = .ok (.iconst (-1), 1) := by decide +kernel
theorem dX5_windAt_21 : decode cX5_windAt 21 = .ok (.ireturn, 1) := by decide +kernel
theorem dX5_windAt_22 : decode cX5_windAt 22 = .ok (.aload_n 0, 1) := by decide +kernel
theorem dX5_windAt_23 : decode cX5_windAt 23 = .ok (.invokevirtual 91, 3) := by decide +kernel
theorem dX5_windAt_26 : decode cX5_windAt 26 = .ok (.aload_n 0, 1) := by decide +kernel
theorem dX5_windAt_27 : decode cX5_windAt 27 = .ok (.iload_n 1, 1) := by decide +kernel
theorem dX5_windAt_28 : decode cX5_windAt 28 = .ok (.aload_n 0, 1) := by decide +kernel
theorem dX5_windAt_29 : decode cX5_windAt 29 = .ok (.getfield 73, 3) := by decide +kernel
theorem dX5_windAt_32 : decode cX5_windAt 32 = .ok (.invokevirtual 87, 3) := by decide +kernel
theorem dX5_windAt_35 : decode cX5_windAt 35 = .ok (.ireturn, 1) := by decide +kernel
set_option maxRecDepth 20000 in
theorem ggX5_sum_X5_allTurn : GoodIn wsX5_sum wsX5_allTurn := goodIn_r _ [6, 1, 7, 8, 24, 25, 26, 27, 28, 29, 30, 31, 32, 33, 34, 35, 36, 37, 38, 39, 40, 41, 42] (by decide +kernel) (by decide +kernel)
set_option maxRecDepth 20000 in
theorem gX5_sum_X5_allTurn : GoodIn wsX5_sum (wsV RX5 91 RX5 yX5_allTurn wsX5_allTurn) := goodIn_app (goodIn_of _ (by decide +kernel)) ggX5_sum_X5_allTurn
set_option maxRecDepth 20000 in
theorem ggX5_sum_X5_power : GoodIn wsX5_sum wsX5_power := goodIn_r _ [12, 7, 13, 14, 15, 5, 16, 17, 18, 19, 20, 21, 22, 23, 1, 24, 25, 26, 27, 28, 29, 30, 31, 32, 33, 34, 35, 36, 37, 38, 39, 40, 41, 42] (by decide +kernel) (by decide +kernel)
set_option maxRecDepth 20000 in
theorem gX5_sum_X5_power : GoodIn wsX5_sum (wsV RX5 102 RX5 yX5_power wsX5_power) := goodIn_app (goodIn_of _ (by decide +kernel)) ggX5_sum_X5_power
theorem dX5_sum_0 : decode cX5_sum 0 = .ok (.aload_n 0, 1) := by decide +kernel
theorem dX5_sum_1 : decode cX5_sum 1 = .ok (.invokevirtual 91, 3) := by decide +kernel
theorem dX5_sum_4 : decode cX5_sum 4 = .ok (.iconst 0, 1) := by decide +kernel
theorem dX5_sum_5 : decode cX5_sum 5 = .ok (.istore_n 2, 1) := by decide +kernel
theorem dX5_sum_6 : decode cX5_sum 6 = .ok (.iconst 0, 1) := by decide +kernel
theorem dX5_sum_7 : decode cX5_sum 7 = .ok (.istore_n 3, 1) := by decide +kernel
theorem dX5_sum_8 : decode cX5_sum 8 = .ok (.iload_n 3, 1) := by decide +kernel
theorem dX5_sum_9 : decode cX5_sum 9 = .ok (.aload_n 0, 1) := by decide +kernel
theorem dX5_sum_10 : decode cX5_sum 10 = .ok (.getfield 62, 3) := by decide +kernel
theorem dX5_sum_13 : decode cX5_sum 13 = .ok (.if_icmp .ge 18, 3) := by decide +kernel
theorem dX5_sum_16 : decode cX5_sum 16 = .ok (.iload_n 2, 1) := by decide +kernel
theorem dX5_sum_17 : decode cX5_sum 17 = .ok (.aload_n 0, 1) := by decide +kernel
theorem dX5_sum_18 : decode cX5_sum 18 = .ok (.iload_n 3, 1) := by decide +kernel
theorem dX5_sum_19 : decode cX5_sum 19 = .ok (.iload_n 1, 1) := by decide +kernel
theorem dX5_sum_20 : decode cX5_sum 20 = .ok (.invokevirtual 102, 3) := by decide +kernel
theorem dX5_sum_23 : decode cX5_sum 23 = .ok (.iadd, 1) := by decide +kernel
theorem dX5_sum_24 : decode cX5_sum 24 = .ok (.istore_n 2, 1) := by decide +kernel
theorem dX5_sum_25 : decode cX5_sum 25 = .ok (.iinc 3 1, 3) := by decide +kernel
theorem dX5_sum_28 : decode cX5_sum 28 = .ok (.goto (-20), 3) := by decide +kernel
theorem dX5_sum_31 : decode cX5_sum 31 = .ok (.iload_n 2, 1) := by decide +kernel
theorem dX5_sum_32 : decode cX5_sum 32 = .ok (.ireturn, 1) := by decide +kernel
set_option maxRecDepth 20000 in
theorem ggX5_foretold_X5_in : GoodIn wsX5_foretold wsX5_in := goodIn_r _ [6] (by decide +kernel) (by decide +kernel)
set_option maxRecDepth 20000 in
theorem gX5_foretold_X5_in : GoodIn wsX5_foretold (wsV RX5 65 RX5 yX5_in wsX5_in) := goodIn_app (goodIn_of _ (by decide +kernel)) ggX5_foretold_X5_in
set_option maxRecDepth 20000 in
theorem ggX5_foretold_X5_fails : GoodIn wsX5_foretold wsX5_fails := goodIn_r _ [10, 11, 38, 39, 40, 41, 42, 43, 44, 45, 46, 47, 48, 49, 50, 51, 52, 53, 54, 55, 56] (by decide +kernel) (by decide +kernel)
set_option maxRecDepth 20000 in
theorem gX5_foretold_X5_fails : GoodIn wsX5_foretold (wsV RX5 69 RX5 yX5_fails wsX5_fails) := goodIn_app (goodIn_of _ (by decide +kernel)) ggX5_foretold_X5_fails
set_option maxRecDepth 20000 in
theorem ggX5_foretold_X5_sum : GoodIn wsX5_foretold wsX5_sum := goodIn_r _ [15, 16, 17, 18, 19, 5, 20, 21, 22, 23, 24, 25, 26, 27, 28, 29, 30, 31, 32, 33, 34, 35, 36, 37, 38, 39, 40, 41, 42, 43, 44, 45, 46, 47, 48, 49, 50, 51, 52, 53, 54, 55, 56] (by decide +kernel) (by decide +kernel)
set_option maxRecDepth 20000 in
theorem gX5_foretold_X5_sum : GoodIn wsX5_foretold (wsV RX5 111 RX5 yX5_sum wsX5_sum) := goodIn_app (goodIn_of _ (by decide +kernel)) ggX5_foretold_X5_sum
theorem dX5_foretold_0 : decode cX5_foretold 0 = .ok (.aload_n 0, 1) := by decide +kernel
theorem dX5_foretold_1 : decode cX5_foretold 1 = .ok (.aload_n 0, 1) := by decide +kernel
theorem dX5_foretold_2 : decode cX5_foretold 2 = .ok (.iload_n 1, 1) := by decide +kernel
theorem dX5_foretold_3 : decode cX5_foretold 3 = .ok (.aload_n 0, 1) := by decide +kernel
theorem dX5_foretold_4 : decode cX5_foretold 4 = .ok (.getfield 73, 3) := by decide +kernel
theorem dX5_foretold_7 : decode cX5_foretold 7 = .ok (.sipush 479, 3) := by decide +kernel
theorem dX5_foretold_10 : decode cX5_foretold 10 = .ok (.invokevirtual 65, 3) := by decide +kernel
theorem dX5_foretold_13 : decode cX5_foretold 13 = .ok (.ifCond .eq 7, 3) := by decide +kernel
theorem dX5_foretold_16 : decode cX5_foretold 16 = .ok (.iconst 0, 1) := by decide +kernel
theorem dX5_foretold_17 : decode cX5_foretold 17 = .ok (.goto 4, 3) := by decide +kernel
theorem dX5_foretold_20 : decode cX5_foretold 20 = .ok (.iconst 1, 1) := by decide +kernel
theorem dX5_foretold_21 : decode cX5_foretold 21 = .ok (.invokevirtual 69, 3) := by decide +kernel
theorem dX5_foretold_24 : decode cX5_foretold 24 = .ok (.ifCond .eq 7, 3) := by decide +kernel
theorem dX5_foretold_27 : decode cX5_foretold 27 = .ok (.iconst (-1), 1) := by decide +kernel
theorem dX5_foretold_28 : decode cX5_foretold 28 = .ok (.goto 8, 3) := by decide +kernel
theorem dX5_foretold_31 : decode cX5_foretold 31 = .ok (.aload_n 0, 1) := by decide +kernel
theorem dX5_foretold_32 : decode cX5_foretold 32 = .ok (.iload_n 1, 1) := by decide +kernel
theorem dX5_foretold_33 : decode cX5_foretold 33 = .ok (.invokevirtual 111, 3) := by decide +kernel
theorem dX5_foretold_36 : decode cX5_foretold 36 = .ok (.ireturn, 1) := by decide +kernel
set_option maxRecDepth 20000 in
theorem ggX5_foretoldAnew_X5_in : GoodIn wsX5_foretoldAnew wsX5_in := goodIn_r _ [6] (by decide +kernel) (by decide +kernel)
set_option maxRecDepth 20000 in
theorem gX5_foretoldAnew_X5_in : GoodIn wsX5_foretoldAnew (wsV RX5 65 RX5 yX5_in wsX5_in) := goodIn_app (goodIn_of _ (by decide +kernel)) ggX5_foretoldAnew_X5_in
set_option maxRecDepth 20000 in
theorem ggX5_foretoldAnew_X5_fails : GoodIn wsX5_foretoldAnew wsX5_fails := goodIn_r _ [10, 11, 38, 39, 40, 41, 42, 43, 44, 45, 46, 47, 48, 49, 50, 51, 52, 53, 54, 55, 56] (by decide +kernel) (by decide +kernel)
set_option maxRecDepth 20000 in
theorem gX5_foretoldAnew_X5_fails : GoodIn wsX5_foretoldAnew (wsV RX5 69 RX5 yX5_fails wsX5_fails) := goodIn_app (goodIn_of _ (by decide +kernel)) ggX5_foretoldAnew_X5_fails
set_option maxRecDepth 20000 in
theorem ggX5_foretoldAnew_X5_sum : GoodIn wsX5_foretoldAnew wsX5_sum := goodIn_r _ [15, 16, 17, 18, 19, 5, 20, 21, 22, 23, 24, 25, 26, 27, 28, 29, 30, 31, 32, 33, 34, 35, 36, 37, 38, 39, 40, 41, 42, 43, 44, 45, 46, 47, 48, 49, 50, 51, 52, 53, 54, 55, 56] (by decide +kernel) (by decide +kernel)
set_option maxRecDepth 20000 in
theorem gX5_foretoldAnew_X5_sum : GoodIn wsX5_foretoldAnew (wsV RX5 111 RX5 yX5_sum wsX5_sum) := goodIn_app (goodIn_of _ (by decide +kernel)) ggX5_foretoldAnew_X5_sum
theorem dX5_foretoldAnew_0 : decode cX5_foretoldAnew 0 = .ok (.aload_n 0, 1) := by decide +kernel
theorem dX5_foretoldAnew_1 : decode cX5_foretoldAnew 1 = .ok (.aload_n 0, 1) := by decide +kernel
theorem dX5_foretoldAnew_2 : decode cX5_foretoldAnew 2 = .ok (.iload_n 1, 1) := by decide +kernel
theorem dX5_foretoldAnew_3 : decode cX5_foretoldAnew 3 = .ok (.aload_n 0, 1) := by decide +kernel
theorem dX5_foretoldAnew_4 : decode cX5_foretoldAnew 4 = .ok (.getfield 73, 3) := by decide +kernel
theorem dX5_foretoldAnew_7 : decode cX5_foretoldAnew 7 = .ok (.sipush 479, 3) := by decide +kernel
theorem dX5_foretoldAnew_10 : decode cX5_foretoldAnew 10 = .ok (.invokevirtual 65, 3) := by decide +kernel
theorem dX5_foretoldAnew_13 : decode cX5_foretoldAnew 13 = .ok (.ifCond .eq 7, 3) := by decide +kernel
theorem dX5_foretoldAnew_16 : decode cX5_foretoldAnew 16 = .ok (.iconst 0, 1) := by decide +kernel
theorem dX5_foretoldAnew_17 : decode cX5_foretoldAnew 17 = .ok (.goto 4, 3) := by decide +kernel
theorem dX5_foretoldAnew_20 : decode cX5_foretoldAnew 20 = .ok (.iconst 1, 1) := by decide +kernel
theorem dX5_foretoldAnew_21 : decode cX5_foretoldAnew 21 = .ok (.invokevirtual 69, 3) := by decide +kernel
theorem dX5_foretoldAnew_24 : decode cX5_foretoldAnew 24 = .ok (.ifCond .eq 7, 3) := by decide +kernel
theorem dX5_foretoldAnew_27 : decode cX5_foretoldAnew 27 = .ok (.iconst (-1), 1) := by decide +kernel
theorem dX5_foretoldAnew_28 : decode cX5_foretoldAnew 28 = .ok (.goto 8, 3) := by decide +kernel
theorem dX5_foretoldAnew_31 : decode cX5_foretoldAnew 31 = .ok (.aload_n 0, 1) := by decide +kernel
theorem dX5_foretoldAnew_32 : decode cX5_foretoldAnew 32 = .ok (.iload_n 1, 1) := by decide +kernel
theorem dX5_foretoldAnew_33 : decode cX5_foretoldAnew 33 = .ok (.invokevirtual 111, 3) := by decide +kernel
theorem dX5_foretoldAnew_36 : decode cX5_foretoldAnew 36 = .ok (.ireturn, 1) := by decide +kernel
set_option maxRecDepth 20000 in
theorem ggX5_ofHour_X5_in : GoodIn wsX5_ofHour wsX5_in := goodIn_r _ [9] (by decide +kernel) (by decide +kernel)
set_option maxRecDepth 20000 in
theorem gX5_ofHour_X5_in : GoodIn wsX5_ofHour (wsV RX5 65 RX5 yX5_in wsX5_in) := goodIn_app (goodIn_of _ (by decide +kernel)) ggX5_ofHour_X5_in
set_option maxRecDepth 20000 in
theorem ggX5_ofHour_X5_fails : GoodIn wsX5_ofHour wsX5_fails := goodIn_r _ [13, 14, 15, 16, 17, 18, 19, 20, 21, 22, 23, 24, 25, 26, 27, 28, 29, 30, 31, 32, 33] (by decide +kernel) (by decide +kernel)
set_option maxRecDepth 20000 in
theorem gX5_ofHour_X5_fails : GoodIn wsX5_ofHour (wsV RX5 69 RX5 yX5_fails wsX5_fails) := goodIn_app (goodIn_of _ (by decide +kernel)) ggX5_ofHour_X5_fails
theorem dX5_ofHour_0 : decode cX5_ofHour 0 = .ok (.aload_n 0, 1) := by decide +kernel
theorem dX5_ofHour_1 : decode cX5_ofHour 1 = .ok (.iload_n 1, 1) := by decide +kernel
theorem dX5_ofHour_2 : decode cX5_ofHour 2 = .ok (.iconst 0, 1) := by decide +kernel
theorem dX5_ofHour_3 : decode cX5_ofHour 3 = .ok (.aload_n 0, 1) := by decide +kernel
theorem dX5_ofHour_4 : decode cX5_ofHour 4 = .ok (.getfield 73, 3) := by decide +kernel
theorem dX5_ofHour_7 : decode cX5_ofHour 7 = .ok (.iconst 1, 1) := by decide +kernel
theorem dX5_ofHour_8 : decode cX5_ofHour 8 = .ok (.isub, 1) := by decide +kernel
theorem dX5_ofHour_9 : decode cX5_ofHour 9 = .ok (.invokevirtual 65, 3) := by decide +kernel
theorem dX5_ofHour_12 : decode cX5_ofHour 12 = .ok (.ifCond .eq 17, 3) := by decide +kernel
theorem dX5_ofHour_15 : decode cX5_ofHour 15 = .ok (.aload_n 0, 1) := by decide +kernel
theorem dX5_ofHour_16 : decode cX5_ofHour 16 = .ok (.iload_n 2, 1) := by decide +kernel
theorem dX5_ofHour_17 : decode cX5_ofHour 17 = .ok (.iconst 0, 1) := by decide +kernel
theorem dX5_ofHour_18 : decode cX5_ofHour 18 = .ok (.iconst 3, 1) := by decide +kernel
theorem dX5_ofHour_19 : decode cX5_ofHour 19 = .ok (.invokevirtual 65, 3) := by decide +kernel
theorem dX5_ofHour_22 : decode cX5_ofHour 22 = .ok (.ifCond .eq 7, 3) := by decide +kernel
theorem dX5_ofHour_25 : decode cX5_ofHour 25 = .ok (.iconst 1, 1) := by decide +kernel
theorem dX5_ofHour_26 : decode cX5_ofHour 26 = .ok (.goto 4, 3) := by decide +kernel
theorem dX5_ofHour_29 : decode cX5_ofHour 29 = .ok (.iconst 0, 1) := by decide +kernel
theorem dX5_ofHour_30 : decode cX5_ofHour 30 = .ok (.istore_n 3, 1) := by decide +kernel
theorem dX5_ofHour_31 : decode cX5_ofHour 31 = .ok (.aload_n 0, 1) := by decide +kernel
theorem dX5_ofHour_32 : decode cX5_ofHour 32 = .ok (.iload_n 3, 1) := by decide +kernel
theorem dX5_ofHour_33 : decode cX5_ofHour 33 = .ok (.ifCond .eq 7, 3) := by decide +kernel
theorem dX5_ofHour_36 : decode cX5_ofHour 36 = .ok (.iconst 0, 1) := by decide +kernel
theorem dX5_ofHour_37 : decode cX5_ofHour 37 = .ok (.goto 4, 3) := by decide +kernel
theorem dX5_ofHour_40 : decode cX5_ofHour 40 = .ok (.iconst 1, 1) := by decide +kernel
theorem dX5_ofHour_41 : decode cX5_ofHour 41 = .ok (.invokevirtual 69, 3) := by decide +kernel
theorem dX5_ofHour_44 : decode cX5_ofHour 44 = .ok (.ifCond .eq 5, 3) := by decide +kernel
theorem dX5_ofHour_47 : decode cX5_ofHour 47 = .ok (.iconst (-1), 1) := by decide +kernel
theorem dX5_ofHour_48 : decode cX5_ofHour 48 = .ok (.ireturn, 1) := by decide +kernel
theorem dX5_ofHour_49 : decode cX5_ofHour 49 = .ok (.aload_n 0, 1) := by decide +kernel
theorem dX5_ofHour_50 : decode cX5_ofHour 50 = .ok (.getfield 31, 3) := by decide +kernel
theorem dX5_ofHour_53 : decode cX5_ofHour 53 = .ok (.iload_n 1, 1) := by decide +kernel
theorem dX5_ofHour_54 : decode cX5_ofHour 54 = .ok (.iaload, 1) := by decide +kernel
theorem dX5_ofHour_55 : decode cX5_ofHour 55 = .ok (.ifCond .ge 7, 3) := by decide +kernel
theorem dX5_ofHour_58 : decode cX5_ofHour 58 = .ok (.iconst 0, 1) := by decide +kernel
theorem dX5_ofHour_59 : decode cX5_ofHour 59 = .ok (.goto 9, 3) := by decide +kernel
theorem dX5_ofHour_62 : decode cX5_ofHour 62 = .ok (.aload_n 0, 1) := by decide +kernel
theorem dX5_ofHour_63 : decode cX5_ofHour 63 = .ok (.getfield 31, 3) := by decide +kernel
theorem dX5_ofHour_66 : decode cX5_ofHour 66 = .ok (.iload_n 1, 1) := by decide +kernel
theorem dX5_ofHour_67 : decode cX5_ofHour 67 = .ok (.iaload, 1) := by decide +kernel
theorem dX5_ofHour_68 : decode cX5_ofHour 68 = .ok (.istore 4, 2) := by decide +kernel
theorem dX5_ofHour_70 : decode cX5_ofHour 70 = .ok (.iload_n 2, 1) := by decide +kernel
theorem dX5_ofHour_71 : decode cX5_ofHour 71 = .ok (.ifCond .ne 12, 3) := by decide +kernel
theorem dX5_ofHour_74 : decode cX5_ofHour 74 = .ok (.aload_n 0, 1) := by decide +kernel
theorem dX5_ofHour_75 : decode cX5_ofHour 75 = .ok (.getfield 37, 3) := by decide +kernel
theorem dX5_ofHour_78 : decode cX5_ofHour 78 = .ok (.iload_n 1, 1) := by decide +kernel
theorem dX5_ofHour_79 : decode cX5_ofHour 79 = .ok (.iaload, 1) := by decide +kernel
theorem dX5_ofHour_80 : decode cX5_ofHour 80 = .ok (.goto 36, 3) := by decide +kernel
theorem dX5_ofHour_83 : decode cX5_ofHour 83 = .ok (.iload_n 2, 1) := by decide +kernel
theorem dX5_ofHour_84 : decode cX5_ofHour 84 = .ok (.iconst 1, 1) := by decide +kernel
theorem dX5_ofHour_85 : decode cX5_ofHour 85 = .ok (.if_icmp .ne 8, 3) := by decide +kernel
theorem dX5_ofHour_88 : decode cX5_ofHour 88 = .ok (.iload 4, 2) := by decide +kernel
theorem dX5_ofHour_90 : decode cX5_ofHour 90 = .ok (.goto 26, 3) := by decide +kernel
theorem dX5_ofHour_93 : decode cX5_ofHour 93 = .ok (.iload_n 2, 1) := by decide +kernel
theorem dX5_ofHour_94 : decode cX5_ofHour 94 = .ok (.iconst 2, 1) := by decide +kernel
theorem dX5_ofHour_95 : decode cX5_ofHour 95 = .ok (.if_icmp .ne 15, 3) := by decide +kernel
theorem dX5_ofHour_98 : decode cX5_ofHour 98 = .ok (.iload 4, 2) := by decide +kernel
theorem dX5_ofHour_100 : decode cX5_ofHour 100 = .ok (.aload_n 0, 1) := by decide +kernel
theorem dX5_ofHour_101 : decode cX5_ofHour 101 = .ok (.getfield 37, 3) := by decide +kernel
theorem dX5_ofHour_104 : decode cX5_ofHour 104 = .ok (.iload_n 1, 1) := by decide +kernel
theorem dX5_ofHour_105 : decode cX5_ofHour 105 = .ok (.iaload, 1) := by decide +kernel
theorem dX5_ofHour_106 : decode cX5_ofHour 106 = .ok (.isub, 1) := by decide +kernel
theorem dX5_ofHour_107 : decode cX5_ofHour 107 = .ok (.goto 9, 3) := by decide +kernel
theorem dX5_ofHour_110 : decode cX5_ofHour 110 = .ok (.aload_n 0, 1) := by decide +kernel
theorem dX5_ofHour_111 : decode cX5_ofHour 111 = .ok (.getfield 40, 3) := by decide +kernel
theorem dX5_ofHour_114 : decode cX5_ofHour 114 = .ok (.iload_n 1, 1) := by decide +kernel
theorem dX5_ofHour_115 : decode cX5_ofHour 115 = .ok (.iaload, 1) := by decide +kernel
theorem dX5_ofHour_116 : decode cX5_ofHour 116 = .ok (.ireturn, 1) := by decide +kernel
set_option maxRecDepth 20000 in
theorem ggX5_ratio_X5_in : GoodIn wsX5_ratio wsX5_in := goodIn_r _ [9] (by decide +kernel) (by decide +kernel)
set_option maxRecDepth 20000 in
theorem gX5_ratio_X5_in : GoodIn wsX5_ratio (wsV RX5 65 RX5 yX5_in wsX5_in) := goodIn_app (goodIn_of _ (by decide +kernel)) ggX5_ratio_X5_in
set_option maxRecDepth 20000 in
theorem ggX5_ratio_X5_fails : GoodIn wsX5_ratio wsX5_fails := goodIn_r _ [13, 14, 15, 16, 17, 18, 19, 20, 21, 22, 23, 24, 25, 26, 27, 28, 29, 30, 31, 32, 33] (by decide +kernel) (by decide +kernel)
set_option maxRecDepth 20000 in
theorem gX5_ratio_X5_fails : GoodIn wsX5_ratio (wsV RX5 69 RX5 yX5_fails wsX5_fails) := goodIn_app (goodIn_of _ (by decide +kernel)) ggX5_ratio_X5_fails
theorem dX5_ratio_0 : decode cX5_ratio 0 = .ok (.aload_n 0, 1) := by decide +kernel
theorem dX5_ratio_1 : decode cX5_ratio 1 = .ok (.aload_n 0, 1) := by decide +kernel
theorem dX5_ratio_2 : decode cX5_ratio 2 = .ok (.iload_n 1, 1) := by decide +kernel
theorem dX5_ratio_3 : decode cX5_ratio 3 = .ok (.iconst 0, 1) := by decide +kernel
theorem dX5_ratio_4 : decode cX5_ratio 4 = .ok (.aload_n 0, 1) := by decide +kernel
theorem dX5_ratio_5 : decode cX5_ratio 5 = .ok (.getfield 73, 3) := by decide +kernel
theorem dX5_ratio_8 : decode cX5_ratio 8 = .ok (.iconst 1, 1) := by decide +kernel
theorem dX5_ratio_9 : decode cX5_ratio 9 = .ok (.isub, 1) := by decide +kernel
theorem dX5_ratio_10 : decode cX5_ratio 10 = .ok (.invokevirtual 65, 3) := by decide +kernel
theorem dX5_ratio_13 : decode cX5_ratio 13 = .ok (.ifCond .eq 7, 3) := by decide +kernel
theorem dX5_ratio_16 : decode cX5_ratio 16 = .ok (.iconst 0, 1) := by decide +kernel
theorem dX5_ratio_17 : decode cX5_ratio 17 = .ok (.goto 4, 3) := by decide +kernel
theorem dX5_ratio_20 : decode cX5_ratio 20 = .ok (.iconst 1, 1) := by decide +kernel
theorem dX5_ratio_21 : decode cX5_ratio 21 = .ok (.invokevirtual 69, 3) := by decide +kernel
theorem dX5_ratio_24 : decode cX5_ratio 24 = .ok (.ifCond .eq 6, 3) := by decide +kernel
theorem dX5_ratio_27 : decode cX5_ratio 27 = .ok (.ldc 114, 2) := by decide +kernel
theorem dX5_ratio_29 : decode cX5_ratio 29 = .ok (.freturn, 1) := by decide +kernel
theorem dX5_ratio_30 : decode cX5_ratio 30 = .ok (.aload_n 0, 1) := by decide +kernel
theorem dX5_ratio_31 : decode cX5_ratio 31 = .ok (.getfield 31, 3) := by decide +kernel
theorem dX5_ratio_34 : decode cX5_ratio 34 = .ok (.iload_n 1, 1) := by decide +kernel
theorem dX5_ratio_35 : decode cX5_ratio 35 = .ok (.iaload, 1) := by decide +kernel
theorem dX5_ratio_36 : decode cX5_ratio 36 = .ok (.ifCond .gt 7, 3) := by decide +kernel
theorem dX5_ratio_39 : decode cX5_ratio 39 = .ok (.fconst 0, 1) := by decide +kernel
theorem dX5_ratio_40 : decode cX5_ratio 40 = .ok (.goto 18, 3) := by decide +kernel
theorem dX5_ratio_43 : decode cX5_ratio 43 = .ok (.aload_n 0, 1) := by decide +kernel
theorem dX5_ratio_44 : decode cX5_ratio 44 = .ok (.getfield 37, 3) := by decide +kernel
theorem dX5_ratio_47 : decode cX5_ratio 47 = .ok (.iload_n 1, 1) := by decide +kernel
theorem dX5_ratio_48 : decode cX5_ratio 48 = .ok (.iaload, 1) := by decide +kernel
theorem dX5_ratio_49 : decode cX5_ratio 49 = .ok (.i2f, 1) := by decide +kernel
theorem dX5_ratio_50 : decode cX5_ratio 50 = .ok (.aload_n 0, 1) := by decide +kernel
theorem dX5_ratio_51 : decode cX5_ratio 51 = .ok (.getfield 31, 3) := by decide +kernel
theorem dX5_ratio_54 : decode cX5_ratio 54 = .ok (.iload_n 1, 1) := by decide +kernel
theorem dX5_ratio_55 : decode cX5_ratio 55 = .ok (.iaload, 1) := by decide +kernel
theorem dX5_ratio_56 : decode cX5_ratio 56 = .ok (.i2f, 1) := by decide +kernel
theorem dX5_ratio_57 : decode cX5_ratio 57 = .ok (.fdiv, 1) := by decide +kernel
theorem dX5_ratio_58 : decode cX5_ratio 58 = .ok (.freturn, 1) := by decide +kernel
set_option maxRecDepth 20000 in
theorem ggX5_ofBoat_X5_in : GoodIn wsX5_ofBoat wsX5_in := goodIn_r _ [9] (by decide +kernel) (by decide +kernel)
set_option maxRecDepth 20000 in
theorem gX5_ofBoat_X5_in : GoodIn wsX5_ofBoat (wsV RX5 65 RX5 yX5_in wsX5_in) := goodIn_app (goodIn_of _ (by decide +kernel)) ggX5_ofBoat_X5_in
set_option maxRecDepth 20000 in
theorem ggX5_ofBoat_X5_fails : GoodIn wsX5_ofBoat wsX5_fails := goodIn_r _ [13, 14, 15, 16, 17, 18, 19, 20, 21, 22, 23, 24, 25, 26, 27, 28, 29, 30, 31, 32, 33] (by decide +kernel) (by decide +kernel)
set_option maxRecDepth 20000 in
theorem gX5_ofBoat_X5_fails : GoodIn wsX5_ofBoat (wsV RX5 69 RX5 yX5_fails wsX5_fails) := goodIn_app (goodIn_of _ (by decide +kernel)) ggX5_ofBoat_X5_fails
theorem dX5_ofBoat_0 : decode cX5_ofBoat 0 = .ok (.aload_n 0, 1) := by decide +kernel
theorem dX5_ofBoat_1 : decode cX5_ofBoat 1 = .ok (.aload_n 0, 1) := by decide +kernel
theorem dX5_ofBoat_2 : decode cX5_ofBoat 2 = .ok (.iload_n 1, 1) := by decide +kernel
theorem dX5_ofBoat_3 : decode cX5_ofBoat 3 = .ok (.iconst 0, 1) := by decide +kernel
theorem dX5_ofBoat_4 : decode cX5_ofBoat 4 = .ok (.iconst 2, 1) := by decide +kernel
theorem dX5_ofBoat_5 : decode cX5_ofBoat 5 = .ok (.invokevirtual 65, 3) := by decide +kernel
theorem dX5_ofBoat_8 : decode cX5_ofBoat 8 = .ok (.ifCond .ne 7, 3) := by decide +kernel
theorem dX5_ofBoat_11 : decode cX5_ofBoat 11 = .ok (.iconst 1, 1) := by decide +kernel
theorem dX5_ofBoat_12 : decode cX5_ofBoat 12 = .ok (.goto 18, 3) := by decide +kernel
theorem dX5_ofBoat_15 : decode cX5_ofBoat 15 = .ok (.aload_n 0, 1) := by decide +kernel
theorem dX5_ofBoat_16 : decode cX5_ofBoat 16 = .ok (.iload_n 2, 1) := by decide +kernel
theorem dX5_ofBoat_17 : decode cX5_ofBoat 17 = .ok (.iconst 0, 1) := by decide +kernel
theorem dX5_ofBoat_18 : decode cX5_ofBoat 18 = .ok (.iconst 3, 1) := by decide +kernel
theorem dX5_ofBoat_19 : decode cX5_ofBoat 19 = .ok (.invokevirtual 65, 3) := by decide +kernel
theorem dX5_ofBoat_22 : decode cX5_ofBoat 22 = .ok (.ifCond .eq 7, 3) := by decide +kernel
theorem dX5_ofBoat_25 : decode cX5_ofBoat 25 = .ok (.iconst 0, 1) := by decide +kernel
theorem dX5_ofBoat_26 : decode cX5_ofBoat 26 = .ok (.goto 4, 3) := by decide +kernel
theorem dX5_ofBoat_29 : decode cX5_ofBoat 29 = .ok (.iconst 2, 1) := by decide +kernel
theorem dX5_ofBoat_30 : decode cX5_ofBoat 30 = .ok (.invokevirtual 69, 3) := by decide +kernel
theorem dX5_ofBoat_33 : decode cX5_ofBoat 33 = .ok (.ifCond .eq 5, 3) := by decide +kernel
theorem dX5_ofBoat_36 : decode cX5_ofBoat 36 = .ok (.iconst (-1), 1) := by decide +kernel
theorem dX5_ofBoat_37 : decode cX5_ofBoat 37 = .ok (.ireturn, 1) := by decide +kernel
theorem dX5_ofBoat_38 : decode cX5_ofBoat 38 = .ok (.iload_n 2, 1) := by decide +kernel
theorem dX5_ofBoat_39 : decode cX5_ofBoat 39 = .ok (.ifCond .ne 12, 3) := by decide +kernel
theorem dX5_ofBoat_42 : decode cX5_ofBoat 42 = .ok (.aload_n 0, 1) := by decide +kernel
theorem dX5_ofBoat_43 : decode cX5_ofBoat 43 = .ok (.getfield 46, 3) := by decide +kernel
theorem dX5_ofBoat_46 : decode cX5_ofBoat 46 = .ok (.iload_n 1, 1) := by decide +kernel
theorem dX5_ofBoat_47 : decode cX5_ofBoat 47 = .ok (.iaload, 1) := by decide +kernel
theorem dX5_ofBoat_48 : decode cX5_ofBoat 48 = .ok (.goto 50, 3) := by decide +kernel
theorem dX5_ofBoat_51 : decode cX5_ofBoat 51 = .ok (.iload_n 2, 1) := by decide +kernel
theorem dX5_ofBoat_52 : decode cX5_ofBoat 52 = .ok (.iconst 1, 1) := by decide +kernel
theorem dX5_ofBoat_53 : decode cX5_ofBoat 53 = .ok (.if_icmp .ne 25, 3) := by decide +kernel
theorem dX5_ofBoat_56 : decode cX5_ofBoat 56 = .ok (.aload_n 0, 1) := by decide +kernel
theorem dX5_ofBoat_57 : decode cX5_ofBoat 57 = .ok (.getfield 46, 3) := by decide +kernel
theorem dX5_ofBoat_60 : decode cX5_ofBoat 60 = .ok (.iload_n 1, 1) := by decide +kernel
theorem dX5_ofBoat_61 : decode cX5_ofBoat 61 = .ok (.iaload, 1) := by decide +kernel
theorem dX5_ofBoat_62 : decode cX5_ofBoat 62 = .ok (.ifCond .ge 7, 3) := by decide +kernel
theorem dX5_ofBoat_65 : decode cX5_ofBoat 65 = .ok (.iconst 0, 1) := by decide +kernel
theorem dX5_ofBoat_66 : decode cX5_ofBoat 66 = .ok (.goto 32, 3) := by decide +kernel
theorem dX5_ofBoat_69 : decode cX5_ofBoat 69 = .ok (.aload_n 0, 1) := by decide +kernel
theorem dX5_ofBoat_70 : decode cX5_ofBoat 70 = .ok (.getfield 49, 3) := by decide +kernel
theorem dX5_ofBoat_73 : decode cX5_ofBoat 73 = .ok (.iload_n 1, 1) := by decide +kernel
theorem dX5_ofBoat_74 : decode cX5_ofBoat 74 = .ok (.iaload, 1) := by decide +kernel
theorem dX5_ofBoat_75 : decode cX5_ofBoat 75 = .ok (.goto 23, 3) := by decide +kernel
theorem dX5_ofBoat_78 : decode cX5_ofBoat 78 = .ok (.iload_n 2, 1) := by decide +kernel
theorem dX5_ofBoat_79 : decode cX5_ofBoat 79 = .ok (.iconst 2, 1) := by decide +kernel
theorem dX5_ofBoat_80 : decode cX5_ofBoat 80 = .ok (.if_icmp .ne 12, 3) := by decide +kernel
theorem dX5_ofBoat_83 : decode cX5_ofBoat 83 = .ok (.aload_n 0, 1) := by decide +kernel
theorem dX5_ofBoat_84 : decode cX5_ofBoat 84 = .ok (.getfield 52, 3) := by decide +kernel
theorem dX5_ofBoat_87 : decode cX5_ofBoat 87 = .ok (.iload_n 1, 1) := by decide +kernel
theorem dX5_ofBoat_88 : decode cX5_ofBoat 88 = .ok (.iaload, 1) := by decide +kernel
theorem dX5_ofBoat_89 : decode cX5_ofBoat 89 = .ok (.goto 9, 3) := by decide +kernel
theorem dX5_ofBoat_92 : decode cX5_ofBoat 92 = .ok (.aload_n 0, 1) := by decide +kernel
theorem dX5_ofBoat_93 : decode cX5_ofBoat 93 = .ok (.getfield 55, 3) := by decide +kernel
theorem dX5_ofBoat_96 : decode cX5_ofBoat 96 = .ok (.iload_n 1, 1) := by decide +kernel
theorem dX5_ofBoat_97 : decode cX5_ofBoat 97 = .ok (.iaload, 1) := by decide +kernel
theorem dX5_ofBoat_98 : decode cX5_ofBoat 98 = .ok (.ireturn, 1) := by decide +kernel
set_option maxRecDepth 20000 in
theorem ggX5_ofTurbine_X5_isTurbine : GoodIn wsX5_ofTurbine wsX5_isTurbine := goodIn_r _ [8, 9, 10, 11, 12, 7, 13, 19, 20, 21, 22, 23, 24, 25, 26, 27, 28, 29, 30, 31, 32, 33, 34, 35, 36, 37] (by decide +kernel) (by decide +kernel)
set_option maxRecDepth 20000 in
theorem gX5_ofTurbine_X5_isTurbine : GoodIn wsX5_ofTurbine (wsV RX5 80 RX5 yX5_isTurbine wsX5_isTurbine) := goodIn_app (goodIn_of _ (by decide +kernel)) ggX5_ofTurbine_X5_isTurbine
set_option maxRecDepth 20000 in
theorem ggX5_ofTurbine_X5_in : GoodIn wsX5_ofTurbine wsX5_in := goodIn_r _ [13] (by decide +kernel) (by decide +kernel)
set_option maxRecDepth 20000 in
theorem gX5_ofTurbine_X5_in : GoodIn wsX5_ofTurbine (wsV RX5 65 RX5 yX5_in wsX5_in) := goodIn_app (goodIn_of _ (by decide +kernel)) ggX5_ofTurbine_X5_in
set_option maxRecDepth 20000 in
theorem ggX5_ofTurbine_X5_fails : GoodIn wsX5_ofTurbine wsX5_fails := goodIn_r _ [17, 18, 19, 20, 21, 22, 23, 24, 25, 26, 27, 28, 29, 30, 31, 32, 33, 34, 35, 36, 37] (by decide +kernel) (by decide +kernel)
set_option maxRecDepth 20000 in
theorem gX5_ofTurbine_X5_fails : GoodIn wsX5_ofTurbine (wsV RX5 69 RX5 yX5_fails wsX5_fails) := goodIn_app (goodIn_of _ (by decide +kernel)) ggX5_ofTurbine_X5_fails
theorem dX5_ofTurbine_0 : decode cX5_ofTurbine 0 = .ok (.aload_n 0, 1) := by decide +kernel
theorem dX5_ofTurbine_1 : decode cX5_ofTurbine 1 = .ok (.aload_n 0, 1) := by decide +kernel
theorem dX5_ofTurbine_2 : decode cX5_ofTurbine 2 = .ok (.iload_n 1, 1) := by decide +kernel
theorem dX5_ofTurbine_3 : decode cX5_ofTurbine 3 = .ok (.invokevirtual 80, 3) := by decide +kernel
theorem dX5_ofTurbine_6 : decode cX5_ofTurbine 6 = .ok (.ifCond .ne 7, 3) := by decide +kernel
theorem dX5_ofTurbine_9 : decode cX5_ofTurbine 9 = .ok (.iconst 1, 1) := by decide +kernel
theorem dX5_ofTurbine_10 : decode cX5_ofTurbine 10 = .ok (.goto 18, 3) := by decide +kernel
theorem dX5_ofTurbine_13 : decode cX5_ofTurbine 13 = .ok (.aload_n 0, 1) := by decide +kernel
theorem dX5_ofTurbine_14 : decode cX5_ofTurbine 14 = .ok (.iload_n 2, 1) := by decide +kernel
theorem dX5_ofTurbine_15 : decode cX5_ofTurbine 15 = .ok (.iconst 0, 1) := by decide +kernel
theorem dX5_ofTurbine_16 : decode cX5_ofTurbine 16 = .ok (.iconst 2, 1) := by decide +kernel
theorem dX5_ofTurbine_17 : decode cX5_ofTurbine 17 = .ok (.invokevirtual 65, 3) := by decide +kernel
theorem dX5_ofTurbine_20 : decode cX5_ofTurbine 20 = .ok (.ifCond .eq 7, 3) := by decide +kernel
theorem dX5_ofTurbine_23 : decode cX5_ofTurbine 23 = .ok (.iconst 0, 1) := by decide +kernel
theorem dX5_ofTurbine_24 : decode cX5_ofTurbine 24 = .ok (.goto 4, 3) := by decide +kernel
theorem dX5_ofTurbine_27 : decode cX5_ofTurbine 27 = .ok (.iconst 2, 1) := by decide +kernel
theorem dX5_ofTurbine_28 : decode cX5_ofTurbine 28 = .ok (.invokevirtual 69, 3) := by decide +kernel
theorem dX5_ofTurbine_31 : decode cX5_ofTurbine 31 = .ok (.ifCond .eq 5, 3) := by decide +kernel
theorem dX5_ofTurbine_34 : decode cX5_ofTurbine 34 = .ok (.iconst (-1), 1) := by decide +kernel
theorem dX5_ofTurbine_35 : decode cX5_ofTurbine 35 = .ok (.ireturn, 1) := by decide +kernel
theorem dX5_ofTurbine_36 : decode cX5_ofTurbine 36 = .ok (.iload_n 2, 1) := by decide +kernel
theorem dX5_ofTurbine_37 : decode cX5_ofTurbine 37 = .ok (.ifCond .ne 12, 3) := by decide +kernel
theorem dX5_ofTurbine_40 : decode cX5_ofTurbine 40 = .ok (.aload_n 0, 1) := by decide +kernel
theorem dX5_ofTurbine_41 : decode cX5_ofTurbine 41 = .ok (.getfield 7, 3) := by decide +kernel
theorem dX5_ofTurbine_44 : decode cX5_ofTurbine 44 = .ok (.iload_n 1, 1) := by decide +kernel
theorem dX5_ofTurbine_45 : decode cX5_ofTurbine 45 = .ok (.iaload, 1) := by decide +kernel
theorem dX5_ofTurbine_46 : decode cX5_ofTurbine 46 = .ok (.goto 23, 3) := by decide +kernel
theorem dX5_ofTurbine_49 : decode cX5_ofTurbine 49 = .ok (.iload_n 2, 1) := by decide +kernel
theorem dX5_ofTurbine_50 : decode cX5_ofTurbine 50 = .ok (.iconst 1, 1) := by decide +kernel
theorem dX5_ofTurbine_51 : decode cX5_ofTurbine 51 = .ok (.if_icmp .ne 12, 3) := by decide +kernel
theorem dX5_ofTurbine_54 : decode cX5_ofTurbine 54 = .ok (.aload_n 0, 1) := by decide +kernel
theorem dX5_ofTurbine_55 : decode cX5_ofTurbine 55 = .ok (.getfield 13, 3) := by decide +kernel
theorem dX5_ofTurbine_58 : decode cX5_ofTurbine 58 = .ok (.iload_n 1, 1) := by decide +kernel
theorem dX5_ofTurbine_59 : decode cX5_ofTurbine 59 = .ok (.iaload, 1) := by decide +kernel
theorem dX5_ofTurbine_60 : decode cX5_ofTurbine 60 = .ok (.goto 9, 3) := by decide +kernel
theorem dX5_ofTurbine_63 : decode cX5_ofTurbine 63 = .ok (.aload_n 0, 1) := by decide +kernel
theorem dX5_ofTurbine_64 : decode cX5_ofTurbine 64 = .ok (.getfield 16, 3) := by decide +kernel
theorem dX5_ofTurbine_67 : decode cX5_ofTurbine 67 = .ok (.iload_n 1, 1) := by decide +kernel
theorem dX5_ofTurbine_68 : decode cX5_ofTurbine 68 = .ok (.iaload, 1) := by decide +kernel
theorem dX5_ofTurbine_69 : decode cX5_ofTurbine 69 = .ok (.ireturn, 1) := by decide +kernel
set_option maxRecDepth 20000 in
theorem ggX5_brought_X5_fails : GoodIn wsX5_brought wsX5_fails := goodIn_r _ [7, 8, 9, 10, 11, 12, 13, 14, 15, 16, 17, 18, 19, 20, 21, 22, 23, 24, 25, 26, 27] (by decide +kernel) (by decide +kernel)
set_option maxRecDepth 20000 in
theorem gX5_brought_X5_fails : GoodIn wsX5_brought (wsV RX5 69 RX5 yX5_fails wsX5_fails) := goodIn_app (goodIn_of _ (by decide +kernel)) ggX5_brought_X5_fails
theorem dX5_brought_0 : decode cX5_brought 0 = .ok (.aload_n 0, 1) := by decide +kernel
theorem dX5_brought_1 : decode cX5_brought 1 = .ok (.iconst 0, 1) := by decide +kernel
theorem dX5_brought_2 : decode cX5_brought 2 = .ok (.invokevirtual 69, 3) := by decide +kernel
theorem dX5_brought_5 : decode cX5_brought 5 = .ok (.pop, 1) := by decide +kernel
theorem dX5_brought_6 : decode cX5_brought 6 = .ok (.lconst 0, 1) := by decide +kernel
theorem dX5_brought_7 : decode cX5_brought 7 = .ok (.lstore_n 1, 1) := by decide +kernel
theorem dX5_brought_8 : decode cX5_brought 8 = .ok (.iconst 0, 1) := by decide +kernel
theorem dX5_brought_9 : decode cX5_brought 9 = .ok (.istore_n 3, 1) := by decide +kernel
theorem dX5_brought_10 : decode cX5_brought 10 = .ok (.iload_n 3, 1) := by decide +kernel
theorem dX5_brought_11 : decode cX5_brought 11 = .ok (.aload_n 0, 1) := by decide +kernel
theorem dX5_brought_12 : decode cX5_brought 12 = .ok (.getfield 73, 3) := by decide +kernel
theorem dX5_brought_15 : decode cX5_brought 15 = .ok (.if_icmp .ge 19, 3) := by decide +kernel
theorem dX5_brought_18 : decode cX5_brought 18 = .ok (.lload_n 1, 1) := by decide +kernel
theorem dX5_brought_19 : decode cX5_brought 19 = .ok (.aload_n 0, 1) := by decide +kernel
theorem dX5_brought_20 : decode cX5_brought 20 = .ok (.getfield 40, 3) := by decide +kernel
theorem dX5_brought_23 : decode cX5_brought 23 = .ok (.iload_n 3, 1) := by decide +kernel
theorem dX5_brought_24 : decode cX5_brought 24 = .ok (.iaload, 1) := by decide +kernel
theorem dX5_brought_25 : decode cX5_brought 25 = .ok (.i2l, 1) := by decide +kernel
theorem dX5_brought_26 : decode cX5_brought 26 = .ok (.ladd, 1) := by decide +kernel
theorem dX5_brought_27 : decode cX5_brought 27 = .ok (.lstore_n 1, 1) := by decide +kernel
theorem dX5_brought_28 : decode cX5_brought 28 = .ok (.iinc 3 1, 3) := by decide +kernel
theorem dX5_brought_31 : decode cX5_brought 31 = .ok (.goto (-21), 3) := by decide +kernel
theorem dX5_brought_34 : decode cX5_brought 34 = .ok (.lload_n 1, 1) := by decide +kernel
theorem dX5_brought_35 : decode cX5_brought 35 = .ok (.lreturn, 1) := by decide +kernel
