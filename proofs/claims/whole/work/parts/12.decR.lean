theorem d_R_init_0 : decode c_R_init 0 = .ok (.aload_n 0, 1) := by decide +kernel
theorem d_R_init_1 : decode c_R_init 1 = .ok (.invokespecial 1, 3) := by decide +kernel
theorem d_R_init_4 : decode c_R_init 4 = .ok (.aload_n 0, 1) := by decide +kernel
theorem d_R_init_5 : decode c_R_init 5 = .ok (.sipush 256, 3) := by decide +kernel
theorem d_R_init_8 : decode c_R_init 8 = .ok (.newarray .boolean, 2) := by decide +kernel
theorem d_R_init_10 : decode c_R_init 10 = .ok (.putfield 7, 3) := by decide +kernel
theorem d_R_init_13 : decode c_R_init 13 = .ok (.aload_n 0, 1) := by decide +kernel
theorem d_R_init_14 : decode c_R_init 14 = .ok (.bipush 16, 2) := by decide +kernel
theorem d_R_init_16 : decode c_R_init 16 = .ok (.newarray .int, 2) := by decide +kernel
theorem d_R_init_18 : decode c_R_init 18 = .ok (.putfield 13, 3) := by decide +kernel
theorem d_R_init_21 : decode c_R_init 21 = .ok (.aload_n 0, 1) := by decide +kernel
theorem d_R_init_22 : decode c_R_init 22 = .ok (.bipush 16, 2) := by decide +kernel
theorem d_R_init_24 : decode c_R_init 24 = .ok (.newarray .int, 2) := by decide +kernel
theorem d_R_init_26 : decode c_R_init 26 = .ok (.putfield 17, 3) := by decide +kernel
theorem d_R_init_29 : decode c_R_init 29 = .ok (.aload_n 0, 1) := by decide +kernel
theorem d_R_init_30 : decode c_R_init 30 = .ok (.bipush 16, 2) := by decide +kernel
theorem d_R_init_32 : decode c_R_init 32 = .ok (.newarray .boolean, 2) := by decide +kernel
theorem d_R_init_34 : decode c_R_init 34 = .ok (.putfield 20, 3) := by decide +kernel
theorem d_R_init_37 : decode c_R_init 37 = .ok (.aload_n 0, 1) := by decide +kernel
theorem d_R_init_38 : decode c_R_init 38 = .ok (.bipush 16, 2) := by decide +kernel
theorem d_R_init_40 : decode c_R_init 40 = .ok (.newarray .boolean, 2) := by decide +kernel
theorem d_R_init_42 : decode c_R_init 42 = .ok (.putfield 23, 3) := by decide +kernel
theorem d_R_init_45 : decode c_R_init 45 = .ok (.aload_n 0, 1) := by decide +kernel
theorem d_R_init_46 : decode c_R_init 46 = .ok (.sipush 256, 3) := by decide +kernel
theorem d_R_init_49 : decode c_R_init 49 = .ok (.newarray .boolean, 2) := by decide +kernel
theorem d_R_init_51 : decode c_R_init 51 = .ok (.putfield 26, 3) := by decide +kernel
theorem d_R_init_54 : decode c_R_init 54 = .ok (.aload_n 0, 1) := by decide +kernel
theorem d_R_init_55 : decode c_R_init 55 = .ok (.sipush 256, 3) := by decide +kernel
theorem d_R_init_58 : decode c_R_init 58 = .ok (.newarray .boolean, 2) := by decide +kernel
theorem d_R_init_60 : decode c_R_init 60 = .ok (.putfield 29, 3) := by decide +kernel
theorem d_R_init_63 : decode c_R_init 63 = .ok (.aload_n 0, 1) := by decide +kernel
theorem d_R_init_64 : decode c_R_init 64 = .ok (.sipush 166, 3) := by decide +kernel
theorem d_R_init_67 : decode c_R_init 67 = .ok (.newarray .int, 2) := by decide +kernel
theorem d_R_init_69 : decode c_R_init 69 = .ok (.putfield 32, 3) := by decide +kernel
theorem d_R_init_72 : decode c_R_init 72 = .ok (.aload_n 0, 1) := by decide +kernel
theorem d_R_init_73 : decode c_R_init 73 = .ok (.sipush 166, 3) := by decide +kernel
theorem d_R_init_76 : decode c_R_init 76 = .ok (.newarray .int, 2) := by decide +kernel
theorem d_R_init_78 : decode c_R_init 78 = .ok (.putfield 35, 3) := by decide +kernel
theorem d_R_init_81 : decode c_R_init 81 = .ok (.aload_n 0, 1) := by decide +kernel
theorem d_R_init_82 : decode c_R_init 82 = .ok (.sipush 166, 3) := by decide +kernel
theorem d_R_init_85 : decode c_R_init 85 = .ok (.newarray .int, 2) := by decide +kernel
theorem d_R_init_87 : decode c_R_init 87 = .ok (.putfield 38, 3) := by decide +kernel
theorem d_R_init_90 : decode c_R_init 90 = .ok (.aload_n 0, 1) := by decide +kernel
theorem d_R_init_91 : decode c_R_init 91 = .ok (.sipush 400, 3) := by decide +kernel
theorem d_R_init_94 : decode c_R_init 94 = .ok (.newarray .int, 2) := by decide +kernel
theorem d_R_init_96 : decode c_R_init 96 = .ok (.putfield 41, 3) := by decide +kernel
theorem d_R_init_99 : decode c_R_init 99 = .ok (.aload_n 0, 1) := by decide +kernel
theorem d_R_init_100 : decode c_R_init 100 = .ok (.sipush 400, 3) := by decide +kernel
theorem d_R_init_103 : decode c_R_init 103 = .ok (.newarray .int, 2) := by decide +kernel
theorem d_R_init_105 : decode c_R_init 105 = .ok (.putfield 44, 3) := by decide +kernel
theorem d_R_init_108 : decode c_R_init 108 = .ok (.aload_n 0, 1) := by decide +kernel
theorem d_R_init_109 : decode c_R_init 109 = .ok (.sipush 240, 3) := by decide +kernel
theorem d_R_init_112 : decode c_R_init 112 = .ok (.newarray .int, 2) := by decide +kernel
theorem d_R_init_114 : decode c_R_init 114 = .ok (.putfield 47, 3) := by decide +kernel
theorem d_R_init_117 : decode c_R_init 117 = .ok (.aload_n 0, 1) := by decide +kernel
theorem d_R_init_118 : decode c_R_init 118 = .ok (.sipush 240, 3) := by decide +kernel
theorem d_R_init_121 : decode c_R_init 121 = .ok (.newarray .int, 2) := by decide +kernel
theorem d_R_init_123 : decode c_R_init 123 = .ok (.putfield 50, 3) := by decide +kernel
theorem d_R_init_126 : decode c_R_init 126 = .ok (.aload_n 0, 1) := by decide +kernel
theorem d_R_init_127 : decode c_R_init 127 = .ok (.sipush 240, 3) := by decide +kernel
theorem d_R_init_130 : decode c_R_init 130 = .ok (.newarray .int, 2) := by decide +kernel
theorem d_R_init_132 : decode c_R_init 132 = .ok (.putfield 53, 3) := by decide +kernel
theorem d_R_init_135 : decode c_R_init 135 = .ok (.aload_n 0, 1) := by decide +kernel
theorem d_R_init_136 : decode c_R_init 136 = .ok (.bipush 13, 2) := by decide +kernel
theorem d_R_init_138 : decode c_R_init 138 = .ok (.newarray .int, 2) := by decide +kernel
theorem d_R_init_140 : decode c_R_init 140 = .ok (.putfield 56, 3) := by decide +kernel
theorem d_R_init_143 : decode c_R_init 143 = .ok (.aload_n 0, 1) := by decide +kernel
theorem d_R_init_144 : decode c_R_init 144 = .ok (.sipush 166, 3) := by decide +kernel
theorem d_R_init_147 : decode c_R_init 147 = .ok (.newarray .int, 2) := by decide +kernel
theorem d_R_init_149 : decode c_R_init 149 = .ok (.putfield 59, 3) := by decide +kernel
theorem d_R_init_152 : decode c_R_init 152 = .ok (.aload_n 0, 1) := by decide +kernel
theorem d_R_init_153 : decode c_R_init 153 = .ok (.sipush 166, 3) := by decide +kernel
theorem d_R_init_156 : decode c_R_init 156 = .ok (.newarray .int, 2) := by decide +kernel
theorem d_R_init_158 : decode c_R_init 158 = .ok (.putfield 62, 3) := by decide +kernel
theorem d_R_init_161 : decode c_R_init 161 = .ok (.aload_n 0, 1) := by decide +kernel
theorem d_R_init_162 : decode c_R_init 162 = .ok (.sipush 166, 3) := by decide +kernel
theorem d_R_init_165 : decode c_R_init 165 = .ok (.newarray .int, 2) := by decide +kernel
theorem d_R_init_167 : decode c_R_init 167 = .ok (.putfield 65, 3) := by decide +kernel
theorem d_R_init_170 : decode c_R_init 170 = .ok (.aload_n 0, 1) := by decide +kernel
theorem d_R_init_171 : decode c_R_init 171 = .ok (.sipush 1500, 3) := by decide +kernel
theorem d_R_init_174 : decode c_R_init 174 = .ok (.newarray .int, 2) := by decide +kernel
theorem d_R_init_176 : decode c_R_init 176 = .ok (.putfield 68, 3) := by decide +kernel
theorem d_R_init_179 : decode c_R_init 179 = .ok (.iconst 0, 1) := by decide +kernel
theorem d_R_init_180 : decode c_R_init 180 = .ok (.istore_n 1, 1) := by decide +kernel
theorem d_R_init_181 : decode c_R_init 181 = .ok (.iload_n 1, 1) := by decide +kernel
theorem d_R_init_182 : decode c_R_init 182 = .ok (.bipush 16, 2) := by decide +kernel
theorem d_R_init_184 : decode c_R_init 184 = .ok (.if_icmp .ge 23, 3) := by decide +kernel
theorem d_R_init_187 : decode c_R_init 187 = .ok (.aload_n 0, 1) := by decide +kernel
theorem d_R_init_188 : decode c_R_init 188 = .ok (.getfield 13, 3) := by decide +kernel
theorem d_R_init_191 : decode c_R_init 191 = .ok (.iload_n 1, 1) := by decide +kernel
theorem d_R_init_192 : decode c_R_init 192 = .ok (.iload_n 1, 1) := by decide +kernel
theorem d_R_init_193 : decode c_R_init 193 = .ok (.iastore, 1) := by decide +kernel
theorem d_R_init_194 : decode c_R_init 194 = .ok (.aload_n 0, 1) := by decide +kernel
theorem d_R_init_195 : decode c_R_init 195 = .ok (.getfield 17, 3) := by decide +kernel
theorem d_R_init_198 : decode c_R_init 198 = .ok (.iload_n 1, 1) := by decide +kernel
theorem d_R_init_199 : decode c_R_init 199 = .ok (.iconst (-1), 1) := by decide +kernel
theorem d_R_init_200 : decode c_R_init 200 = .ok (.iastore, 1) := by decide +kernel
theorem d_R_init_201 : decode c_R_init 201 = .ok (.iinc 1 1, 3) := by decide +kernel
theorem d_R_init_204 : decode c_R_init 204 = .ok (.goto (-23), 3) := by decide +kernel
theorem d_R_init_207 : decode c_R_init 207 = .ok (.return_, 1) := by decide +kernel
theorem d_R_thrown_0 : decode c_R_thrown 0 = .ok (.aload_n 0, 1) := by decide +kernel
theorem d_R_thrown_1 : decode c_R_thrown 1 = .ok (.getfield 71, 3) := by decide +kernel
theorem d_R_thrown_4 : decode c_R_thrown 4 = .ok (.ireturn, 1) := by decide +kernel
theorem d_R_throwing_0 : decode c_R_throwing 0 = .ok (.aload_n 0, 1) := by decide +kernel
theorem d_R_throwing_1 : decode c_R_throwing 1 = .ok (.iload_n 1, 1) := by decide +kernel
theorem d_R_throwing_2 : decode c_R_throwing 2 = .ok (.ifCond .eq 7, 3) := by decide +kernel
theorem d_R_throwing_5 : decode c_R_throwing 5 = .ok (.iconst 1, 1) := by decide +kernel
theorem d_R_throwing_6 : decode c_R_throwing 6 = .ok (.goto 12, 3) := by decide +kernel
theorem d_R_throwing_9 : decode c_R_throwing 9 = .ok (.iload_n 2, 1) := by decide +kernel
theorem d_R_throwing_10 : decode c_R_throwing 10 = .ok (.ifCond .eq 7, 3) := by decide +kernel
theorem d_R_throwing_13 : decode c_R_throwing 13 = .ok (.iconst 2, 1) := by decide +kernel
theorem d_R_throwing_14 : decode c_R_throwing 14 = .ok (.goto 4, 3) := by decide +kernel
theorem d_R_throwing_17 : decode c_R_throwing 17 = .ok (.iconst 0, 1) := by decide +kernel
theorem d_R_throwing_18 : decode c_R_throwing 18 = .ok (.putfield 71, 3) := by decide +kernel
theorem d_R_throwing_21 : decode c_R_throwing 21 = .ok (.aload_n 0, 1) := by decide +kernel
theorem d_R_throwing_22 : decode c_R_throwing 22 = .ok (.getfield 71, 3) := by decide +kernel
theorem d_R_throwing_25 : decode c_R_throwing 25 = .ok (.ifCond .le 7, 3) := by decide +kernel
theorem d_R_throwing_28 : decode c_R_throwing 28 = .ok (.iconst 1, 1) := by decide +kernel
theorem d_R_throwing_29 : decode c_R_throwing 29 = .ok (.goto 4, 3) := by decide +kernel
theorem d_R_throwing_32 : decode c_R_throwing 32 = .ok (.iconst 0, 1) := by decide +kernel
theorem d_R_throwing_33 : decode c_R_throwing 33 = .ok (.ireturn, 1) := by decide +kernel
theorem d_R_in_0 : decode c_R_in 0 = .ok (.iload_n 0, 1) := by decide +kernel
theorem d_R_in_1 : decode c_R_in 1 = .ok (.iload_n 1, 1) := by decide +kernel
theorem d_R_in_2 : decode c_R_in 2 = .ok (.if_icmp .lt 12, 3) := by decide +kernel
theorem d_R_in_5 : decode c_R_in 5 = .ok (.iload_n 0, 1) := by decide +kernel
theorem d_R_in_6 : decode c_R_in 6 = .ok (.iload_n 2, 1) := by decide +kernel
theorem d_R_in_7 : decode c_R_in 7 = .ok (.if_icmp .gt 7, 3) := by decide +kernel
theorem d_R_in_10 : decode c_R_in 10 = .ok (.iconst 1, 1) := by decide +kernel
theorem d_R_in_11 : decode c_R_in 11 = .ok (.goto 4, 3) := by decide +kernel
theorem d_R_in_14 : decode c_R_in 14 = .ok (.iconst 0, 1) := by decide +kernel
theorem d_R_in_15 : decode c_R_in 15 = .ok (.ireturn, 1) := by decide +kernel
theorem d_R_isContext_0 : decode c_R_isContext 0 = .ok (.iload_n 0, 1) := by decide +kernel
theorem d_R_isContext_1 : decode c_R_isContext 1 = .ok (.iconst 0, 1) := by decide +kernel
theorem d_R_isContext_2 : decode c_R_isContext 2 = .ok (.bipush 15, 2) := by decide +kernel
theorem d_R_isContext_4 : decode c_R_isContext 4 = .ok (.invokestatic 75, 3) := by decide +kernel
theorem d_R_isContext_7 : decode c_R_isContext 7 = .ok (.ireturn, 1) := by decide +kernel
theorem d_R_close_0 : decode c_R_close 0 = .ok (.iconst 0, 1) := by decide +kernel
theorem d_R_close_1 : decode c_R_close 1 = .ok (.istore_n 2, 1) := by decide +kernel
theorem d_R_close_2 : decode c_R_close 2 = .ok (.iload_n 2, 1) := by decide +kernel
theorem d_R_close_3 : decode c_R_close 3 = .ok (.bipush 16, 2) := by decide +kernel
theorem d_R_close_5 : decode c_R_close 5 = .ok (.if_icmp .ge 66, 3) := by decide +kernel
theorem d_R_close_8 : decode c_R_close 8 = .ok (.iconst 0, 1) := by decide +kernel
theorem d_R_close_9 : decode c_R_close 9 = .ok (.istore_n 3, 1) := by decide +kernel
theorem d_R_close_10 : decode c_R_close 10 = .ok (.iload_n 3, 1) := by decide +kernel
theorem d_R_close_11 : decode c_R_close 11 = .ok (.sipush 256, 3) := by decide +kernel
theorem d_R_close_14 : decode c_R_close 14 = .ok (.if_icmp .ge 51, 3) := by decide +kernel
theorem d_R_close_17 : decode c_R_close 17 = .ok (.aload_n 1, 1) := by decide +kernel
theorem d_R_close_18 : decode c_R_close 18 = .ok (.iload_n 3, 1) := by decide +kernel
theorem d_R_close_19 : decode c_R_close 19 = .ok (.aload_n 1, 1) := by decide +kernel
theorem d_R_close_20 : decode c_R_close 20 = .ok (.iload_n 3, 1) := by decide +kernel
theorem d_R_close_21 : decode c_R_close 21 = .ok (.baload, 1) := by decide +kernel
theorem d_R_close_22 : decode c_R_close 22 = .ok (.ifCond .ne 31, 3) := by decide +kernel
theorem d_R_close_25 : decode c_R_close 25 = .ok (.aload_n 1, 1) := by decide +kernel
theorem d_R_close_26 : decode c_R_close 26 = .ok (.iload_n 3, 1) := by decide +kernel
theorem d_R_close_27 : decode c_R_close 27 = .ok (.bipush 16, 2) := by decide +kernel
theorem d_R_close_29 : decode c_R_close 29 = .ok (.idiv, 1) := by decide +kernel
theorem d_R_close_30 : decode c_R_close 30 = .ok (.bipush 16, 2) := by decide +kernel
theorem d_R_close_32 : decode c_R_close 32 = .ok (.imul, 1) := by decide +kernel
theorem d_R_close_33 : decode c_R_close 33 = .ok (.iload_n 2, 1) := by decide +kernel
theorem d_R_close_34 : decode c_R_close 34 = .ok (.iadd, 1) := by decide +kernel
theorem d_R_close_35 : decode c_R_close 35 = .ok (.baload, 1) := by decide +kernel
theorem d_R_close_36 : decode c_R_close 36 = .ok (.ifCond .eq 21, 3) := by decide +kernel
theorem d_R_close_39 : decode c_R_close 39 = .ok (.aload_n 1, 1) := by decide +kernel
theorem d_R_close_40 : decode c_R_close 40 = .ok (.bipush 16, 2) := by decide +kernel
theorem d_R_close_42 : decode c_R_close 42 = .ok (.iload_n 2, 1) := by decide +kernel
theorem d_R_close_43 : decode c_R_close 43 = .ok (.imul, 1) := by decide +kernel
theorem d_R_close_44 : decode c_R_close 44 = .ok (.iload_n 3, 1) := by decide +kernel
theorem d_R_close_45 : decode c_R_close 45 = .ok (.bipush 16, 2) := by decide +kernel
theorem d_R_close_47 : decode c_R_close 47 = .ok (.irem, 1) := by decide +kernel
theorem d_R_close_48 : decode c_R_close 48 = .ok (.iadd, 1) := by decide +kernel
theorem d_R_close_49 : decode c_R_close 49 = .ok (.baload, 1) := by decide +kernel
theorem d_R_close_50 : decode c_R_close 50 = .ok (.ifCond .eq 7, 3) := by decide +kernel
theorem d_R_close_53 : decode c_R_close 53 = .ok (.iconst 1, 1) := by decide +kernel
theorem d_R_close_54 : decode c_R_close 54 = .ok (.goto 4, 3) := by decide +kernel
theorem d_R_close_57 : decode c_R_close 57 = .ok (.iconst 0, 1) := by decide +kernel
theorem d_R_close_58 : decode c_R_close 58 = .ok (.bastore, 1) := by decide +kernel
theorem d_R_close_59 : decode c_R_close 59 = .ok (.iinc 3 1, 3) := by decide +kernel
theorem d_R_close_62 : decode c_R_close 62 = .ok (.goto (-52), 3) := by decide +kernel
theorem d_R_close_65 : decode c_R_close 65 = .ok (.iinc 2 1, 3) := by decide +kernel
theorem d_R_close_68 : decode c_R_close 68 = .ok (.goto (-66), 3) := by decide +kernel
theorem d_R_close_71 : decode c_R_close 71 = .ok (.return_, 1) := by decide +kernel
theorem d_R_findOver_0 : decode c_R_findOver 0 = .ok (.iconst 0, 1) := by decide +kernel
theorem d_R_findOver_1 : decode c_R_findOver 1 = .ok (.istore_n 1, 1) := by decide +kernel
theorem d_R_findOver_2 : decode c_R_findOver 2 = .ok (.iload_n 1, 1) := by decide +kernel
theorem d_R_findOver_3 : decode c_R_findOver 3 = .ok (.sipush 256, 3) := by decide +kernel
theorem d_R_findOver_6 : decode c_R_findOver 6 = .ok (.if_icmp .ge 16, 3) := by decide +kernel
theorem d_R_findOver_9 : decode c_R_findOver 9 = .ok (.aload_n 0, 1) := by decide +kernel
theorem d_R_findOver_10 : decode c_R_findOver 10 = .ok (.getfield 26, 3) := by decide +kernel
theorem d_R_findOver_13 : decode c_R_findOver 13 = .ok (.iload_n 1, 1) := by decide +kernel
theorem d_R_findOver_14 : decode c_R_findOver 14 = .ok (.iconst 0, 1) := by decide +kernel
theorem d_R_findOver_15 : decode c_R_findOver 15 = .ok (.bastore, 1) := by decide +kernel
theorem d_R_findOver_16 : decode c_R_findOver 16 = .ok (.iinc 1 1, 3) := by decide +kernel
theorem d_R_findOver_19 : decode c_R_findOver 19 = .ok (.goto (-17), 3) := by decide +kernel
theorem d_R_findOver_22 : decode c_R_findOver 22 = .ok (.iconst 0, 1) := by decide +kernel
theorem d_R_findOver_23 : decode c_R_findOver 23 = .ok (.istore_n 1, 1) := by decide +kernel
theorem d_R_findOver_24 : decode c_R_findOver 24 = .ok (.iload_n 1, 1) := by decide +kernel
theorem d_R_findOver_25 : decode c_R_findOver 25 = .ok (.sipush 256, 3) := by decide +kernel
theorem d_R_findOver_28 : decode c_R_findOver 28 = .ok (.if_icmp .ge 46, 3) := by decide +kernel
theorem d_R_findOver_31 : decode c_R_findOver 31 = .ok (.aload_n 0, 1) := by decide +kernel
theorem d_R_findOver_32 : decode c_R_findOver 32 = .ok (.getfield 7, 3) := by decide +kernel
theorem d_R_findOver_35 : decode c_R_findOver 35 = .ok (.iload_n 1, 1) := by decide +kernel
theorem d_R_findOver_36 : decode c_R_findOver 36 = .ok (.baload, 1) := by decide +kernel
theorem d_R_findOver_37 : decode c_R_findOver 37 = .ok (.ifCond .eq 31, 3) := by decide +kernel
theorem d_R_findOver_40 : decode c_R_findOver 40 = .ok (.aload_n 0, 1) := by decide +kernel
theorem d_R_findOver_41 : decode c_R_findOver 41 = .ok (.getfield 26, 3) := by decide +kernel
theorem d_R_findOver_44 : decode c_R_findOver 44 = .ok (.bipush 16, 2) := by decide +kernel
theorem d_R_findOver_46 : decode c_R_findOver 46 = .ok (.aload_n 0, 1) := by decide +kernel
theorem d_R_findOver_47 : decode c_R_findOver 47 = .ok (.getfield 13, 3) := by decide +kernel
theorem d_R_findOver_50 : decode c_R_findOver 50 = .ok (.iload_n 1, 1) := by decide +kernel
theorem d_R_findOver_51 : decode c_R_findOver 51 = .ok (.bipush 16, 2) := by decide +kernel
theorem d_R_findOver_53 : decode c_R_findOver 53 = .ok (.idiv, 1) := by decide +kernel
theorem d_R_findOver_54 : decode c_R_findOver 54 = .ok (.iaload, 1) := by decide +kernel
theorem d_R_findOver_55 : decode c_R_findOver 55 = .ok (.imul, 1) := by decide +kernel
theorem d_R_findOver_56 : decode c_R_findOver 56 = .ok (.aload_n 0, 1) := by decide +kernel
theorem d_R_findOver_57 : decode c_R_findOver 57 = .ok (.getfield 13, 3) := by decide +kernel
theorem d_R_findOver_60 : decode c_R_findOver 60 = .ok (.iload_n 1, 1) := by decide +kernel
theorem d_R_findOver_61 : decode c_R_findOver 61 = .ok (.bipush 16, 2) := by decide +kernel
theorem d_R_findOver_63 : decode c_R_findOver 63 = .ok (.irem, 1) := by decide +kernel
theorem d_R_findOver_64 : decode c_R_findOver 64 = .ok (.iaload, 1) := by decide +kernel
theorem d_R_findOver_65 : decode c_R_findOver 65 = .ok (.iadd, 1) := by decide +kernel
theorem d_R_findOver_66 : decode c_R_findOver 66 = .ok (.iconst 1, 1) := by decide +kernel
theorem d_R_findOver_67 : decode c_R_findOver 67 = .ok (.bastore, 1) := by decide +kernel
theorem d_R_findOver_68 : decode c_R_findOver 68 = .ok (.iinc 1 1, 3) := by decide +kernel
theorem d_R_findOver_71 : decode c_R_findOver 71 = .ok (.goto (-47), 3) := by decide +kernel
theorem d_R_findOver_74 : decode c_R_findOver 74 = .ok (.aload_n 0, 1) := by decide +kernel
theorem d_R_findOver_75 : decode c_R_findOver 75 = .ok (.aload_n 0, 1) := by decide +kernel
theorem d_R_findOver_76 : decode c_R_findOver 76 = .ok (.getfield 26, 3) := by decide +kernel
theorem d_R_findOver_79 : decode c_R_findOver 79 = .ok (.invokevirtual 79, 3) := by decide +kernel
theorem d_R_findOver_82 : decode c_R_findOver 82 = .ok (.return_, 1) := by decide +kernel
theorem d_R_isOver_0 : decode c_R_isOver 0 = .ok (.aload_n 0, 1) := by decide +kernel
theorem d_R_isOver_1 : decode c_R_isOver 1 = .ok (.invokevirtual 83, 3) := by decide +kernel
theorem d_R_isOver_4 : decode c_R_isOver 4 = .ok (.aload_n 0, 1) := by decide +kernel
theorem d_R_isOver_5 : decode c_R_isOver 5 = .ok (.getfield 26, 3) := by decide +kernel
theorem d_R_isOver_8 : decode c_R_isOver 8 = .ok (.bipush 16, 2) := by decide +kernel
theorem d_R_isOver_10 : decode c_R_isOver 10 = .ok (.aload_n 0, 1) := by decide +kernel
theorem d_R_isOver_11 : decode c_R_isOver 11 = .ok (.getfield 13, 3) := by decide +kernel
theorem d_R_isOver_14 : decode c_R_isOver 14 = .ok (.iload_n 1, 1) := by decide +kernel
theorem d_R_isOver_15 : decode c_R_isOver 15 = .ok (.iaload, 1) := by decide +kernel
theorem d_R_isOver_16 : decode c_R_isOver 16 = .ok (.imul, 1) := by decide +kernel
theorem d_R_isOver_17 : decode c_R_isOver 17 = .ok (.aload_n 0, 1) := by decide +kernel
theorem d_R_isOver_18 : decode c_R_isOver 18 = .ok (.getfield 13, 3) := by decide +kernel
theorem d_R_isOver_21 : decode c_R_isOver 21 = .ok (.iload_n 2, 1) := by decide +kernel
theorem d_R_isOver_22 : decode c_R_isOver 22 = .ok (.iaload, 1) := by decide +kernel
theorem d_R_isOver_23 : decode c_R_isOver 23 = .ok (.iadd, 1) := by decide +kernel
theorem d_R_isOver_24 : decode c_R_isOver 24 = .ok (.baload, 1) := by decide +kernel
theorem d_R_isOver_25 : decode c_R_isOver 25 = .ok (.ireturn, 1) := by decide +kernel
theorem d_R_name_0 : decode c_R_name 0 = .ok (.aload_n 0, 1) := by decide +kernel
theorem d_R_name_1 : decode c_R_name 1 = .ok (.getfield 23, 3) := by decide +kernel
theorem d_R_name_4 : decode c_R_name 4 = .ok (.iload_n 1, 1) := by decide +kernel
theorem d_R_name_5 : decode c_R_name 5 = .ok (.iconst 1, 1) := by decide +kernel
theorem d_R_name_6 : decode c_R_name 6 = .ok (.bastore, 1) := by decide +kernel
theorem d_R_name_7 : decode c_R_name 7 = .ok (.aload_n 0, 1) := by decide +kernel
theorem d_R_name_8 : decode c_R_name 8 = .ok (.getfield 23, 3) := by decide +kernel
theorem d_R_name_11 : decode c_R_name 11 = .ok (.iload_n 2, 1) := by decide +kernel
theorem d_R_name_12 : decode c_R_name 12 = .ok (.iconst 1, 1) := by decide +kernel
theorem d_R_name_13 : decode c_R_name 13 = .ok (.bastore, 1) := by decide +kernel
theorem d_R_name_14 : decode c_R_name 14 = .ok (.aload_n 0, 1) := by decide +kernel
theorem d_R_name_15 : decode c_R_name 15 = .ok (.iconst 0, 1) := by decide +kernel
theorem d_R_name_16 : decode c_R_name 16 = .ok (.putfield 86, 3) := by decide +kernel
theorem d_R_name_19 : decode c_R_name 19 = .ok (.return_, 1) := by decide +kernel
theorem d_R_above_0 : decode c_R_above 0 = .ok (.aload_n 0, 1) := by decide +kernel
theorem d_R_above_1 : decode c_R_above 1 = .ok (.iload_n 1, 1) := by decide +kernel
theorem d_R_above_2 : decode c_R_above 2 = .ok (.invokestatic 90, 3) := by decide +kernel
theorem d_R_above_5 : decode c_R_above 5 = .ok (.ifCond .eq 10, 3) := by decide +kernel
theorem d_R_above_8 : decode c_R_above 8 = .ok (.iload_n 2, 1) := by decide +kernel
theorem d_R_above_9 : decode c_R_above 9 = .ok (.invokestatic 90, 3) := by decide +kernel
theorem d_R_above_12 : decode c_R_above 12 = .ok (.ifCond .ne 7, 3) := by decide +kernel
theorem d_R_above_15 : decode c_R_above 15 = .ok (.iconst 1, 1) := by decide +kernel
theorem d_R_above_16 : decode c_R_above 16 = .ok (.goto 4, 3) := by decide +kernel
theorem d_R_above_19 : decode c_R_above 19 = .ok (.iconst 0, 1) := by decide +kernel
theorem d_R_above_20 : decode c_R_above 20 = .ok (.iconst 0, 1) := by decide +kernel
theorem d_R_above_21 : decode c_R_above 21 = .ok (.invokevirtual 94, 3) := by decide +kernel
theorem d_R_above_24 : decode c_R_above 24 = .ok (.ifCond .eq 5, 3) := by decide +kernel
theorem d_R_above_27 : decode c_R_above 27 = .ok (.iconst 0, 1) := by decide +kernel
theorem d_R_above_28 : decode c_R_above 28 = .ok (.ireturn, 1) := by decide +kernel
theorem d_R_above_29 : decode c_R_above 29 = .ok (.aload_n 0, 1) := by decide +kernel
theorem d_R_above_30 : decode c_R_above 30 = .ok (.getfield 7, 3) := by decide +kernel
theorem d_R_above_33 : decode c_R_above 33 = .ok (.bipush 16, 2) := by decide +kernel
theorem d_R_above_35 : decode c_R_above 35 = .ok (.iload_n 1, 1) := by decide +kernel
theorem d_R_above_36 : decode c_R_above 36 = .ok (.imul, 1) := by decide +kernel
theorem d_R_above_37 : decode c_R_above 37 = .ok (.iload_n 2, 1) := by decide +kernel
theorem d_R_above_38 : decode c_R_above 38 = .ok (.iadd, 1) := by decide +kernel
theorem d_R_above_39 : decode c_R_above 39 = .ok (.baload, 1) := by decide +kernel
theorem d_R_above_40 : decode c_R_above 40 = .ok (.ifCond .eq 5, 3) := by decide +kernel
theorem d_R_above_43 : decode c_R_above 43 = .ok (.iconst 0, 1) := by decide +kernel
theorem d_R_above_44 : decode c_R_above 44 = .ok (.ireturn, 1) := by decide +kernel
theorem d_R_above_45 : decode c_R_above 45 = .ok (.aload_n 0, 1) := by decide +kernel
theorem d_R_above_46 : decode c_R_above 46 = .ok (.getfield 13, 3) := by decide +kernel
theorem d_R_above_49 : decode c_R_above 49 = .ok (.iload_n 1, 1) := by decide +kernel
theorem d_R_above_50 : decode c_R_above 50 = .ok (.iaload, 1) := by decide +kernel
theorem d_R_above_51 : decode c_R_above 51 = .ok (.aload_n 0, 1) := by decide +kernel
theorem d_R_above_52 : decode c_R_above 52 = .ok (.getfield 13, 3) := by decide +kernel
theorem d_R_above_55 : decode c_R_above 55 = .ok (.iload_n 2, 1) := by decide +kernel
theorem d_R_above_56 : decode c_R_above 56 = .ok (.iaload, 1) := by decide +kernel
theorem d_R_above_57 : decode c_R_above 57 = .ok (.if_icmp .eq 12, 3) := by decide +kernel
theorem d_R_above_60 : decode c_R_above 60 = .ok (.aload_n 0, 1) := by decide +kernel
theorem d_R_above_61 : decode c_R_above 61 = .ok (.iload_n 2, 1) := by decide +kernel
theorem d_R_above_62 : decode c_R_above 62 = .ok (.iload_n 1, 1) := by decide +kernel
theorem d_R_above_63 : decode c_R_above 63 = .ok (.invokevirtual 98, 3) := by decide +kernel
theorem d_R_above_66 : decode c_R_above 66 = .ok (.ifCond .eq 5, 3) := by decide +kernel
theorem d_R_above_69 : decode c_R_above 69 = .ok (.iconst (-1), 1) := by decide +kernel
theorem d_R_above_70 : decode c_R_above 70 = .ok (.ireturn, 1) := by decide +kernel
theorem d_R_above_71 : decode c_R_above 71 = .ok (.aload_n 0, 1) := by decide +kernel
theorem d_R_above_72 : decode c_R_above 72 = .ok (.getfield 7, 3) := by decide +kernel
theorem d_R_above_75 : decode c_R_above 75 = .ok (.bipush 16, 2) := by decide +kernel
theorem d_R_above_77 : decode c_R_above 77 = .ok (.iload_n 1, 1) := by decide +kernel
theorem d_R_above_78 : decode c_R_above 78 = .ok (.imul, 1) := by decide +kernel
theorem d_R_above_79 : decode c_R_above 79 = .ok (.iload_n 2, 1) := by decide +kernel
theorem d_R_above_80 : decode c_R_above 80 = .ok (.iadd, 1) := by decide +kernel
theorem d_R_above_81 : decode c_R_above 81 = .ok (.iconst 1, 1) := by decide +kernel
theorem d_R_above_82 : decode c_R_above 82 = .ok (.bastore, 1) := by decide +kernel
theorem d_R_above_83 : decode c_R_above 83 = .ok (.aload_n 0, 1) := by decide +kernel
theorem d_R_above_84 : decode c_R_above 84 = .ok (.iload_n 1, 1) := by decide +kernel
theorem d_R_above_85 : decode c_R_above 85 = .ok (.iload_n 2, 1) := by decide +kernel
theorem d_R_above_86 : decode c_R_above 86 = .ok (.invokevirtual 102, 3) := by decide +kernel
theorem d_R_above_89 : decode c_R_above 89 = .ok (.iconst 1, 1) := by decide +kernel
theorem d_R_above_90 : decode c_R_above 90 = .ok (.ireturn, 1) := by decide +kernel
theorem d_R_same_0 : decode c_R_same 0 = .ok (.aload_n 0, 1) := by decide +kernel
theorem d_R_same_1 : decode c_R_same 1 = .ok (.iload_n 1, 1) := by decide +kernel
theorem d_R_same_2 : decode c_R_same 2 = .ok (.invokestatic 90, 3) := by decide +kernel
theorem d_R_same_5 : decode c_R_same 5 = .ok (.ifCond .eq 10, 3) := by decide +kernel
theorem d_R_same_8 : decode c_R_same 8 = .ok (.iload_n 2, 1) := by decide +kernel
theorem d_R_same_9 : decode c_R_same 9 = .ok (.invokestatic 90, 3) := by decide +kernel
theorem d_R_same_12 : decode c_R_same 12 = .ok (.ifCond .ne 7, 3) := by decide +kernel
theorem d_R_same_15 : decode c_R_same 15 = .ok (.iconst 1, 1) := by decide +kernel
theorem d_R_same_16 : decode c_R_same 16 = .ok (.goto 4, 3) := by decide +kernel
theorem d_R_same_19 : decode c_R_same 19 = .ok (.iconst 0, 1) := by decide +kernel
theorem d_R_same_20 : decode c_R_same 20 = .ok (.iconst 0, 1) := by decide +kernel
theorem d_R_same_21 : decode c_R_same 21 = .ok (.invokevirtual 94, 3) := by decide +kernel
theorem d_R_same_24 : decode c_R_same 24 = .ok (.ifCond .eq 5, 3) := by decide +kernel
theorem d_R_same_27 : decode c_R_same 27 = .ok (.iconst 0, 1) := by decide +kernel
theorem d_R_same_28 : decode c_R_same 28 = .ok (.ireturn, 1) := by decide +kernel
theorem d_R_same_29 : decode c_R_same 29 = .ok (.aload_n 0, 1) := by decide +kernel
theorem d_R_same_30 : decode c_R_same 30 = .ok (.getfield 13, 3) := by decide +kernel
theorem d_R_same_33 : decode c_R_same 33 = .ok (.iload_n 1, 1) := by decide +kernel
theorem d_R_same_34 : decode c_R_same 34 = .ok (.iaload, 1) := by decide +kernel
theorem d_R_same_35 : decode c_R_same 35 = .ok (.aload_n 0, 1) := by decide +kernel
theorem d_R_same_36 : decode c_R_same 36 = .ok (.getfield 13, 3) := by decide +kernel
theorem d_R_same_39 : decode c_R_same 39 = .ok (.iload_n 2, 1) := by decide +kernel
theorem d_R_same_40 : decode c_R_same 40 = .ok (.iaload, 1) := by decide +kernel
theorem d_R_same_41 : decode c_R_same 41 = .ok (.if_icmp .ne 5, 3) := by decide +kernel
theorem d_R_same_44 : decode c_R_same 44 = .ok (.iconst 0, 1) := by decide +kernel
theorem d_R_same_45 : decode c_R_same 45 = .ok (.ireturn, 1) := by decide +kernel
theorem d_R_same_46 : decode c_R_same 46 = .ok (.aload_n 0, 1) := by decide +kernel
theorem d_R_same_47 : decode c_R_same 47 = .ok (.iload_n 1, 1) := by decide +kernel
theorem d_R_same_48 : decode c_R_same 48 = .ok (.iload_n 2, 1) := by decide +kernel
theorem d_R_same_49 : decode c_R_same 49 = .ok (.invokevirtual 98, 3) := by decide +kernel
theorem d_R_same_52 : decode c_R_same 52 = .ok (.ifCond .ne 12, 3) := by decide +kernel
theorem d_R_same_55 : decode c_R_same 55 = .ok (.aload_n 0, 1) := by decide +kernel
theorem d_R_same_56 : decode c_R_same 56 = .ok (.iload_n 2, 1) := by decide +kernel
theorem d_R_same_57 : decode c_R_same 57 = .ok (.iload_n 1, 1) := by decide +kernel
theorem d_R_same_58 : decode c_R_same 58 = .ok (.invokevirtual 98, 3) := by decide +kernel
theorem d_R_same_61 : decode c_R_same 61 = .ok (.ifCond .eq 5, 3) := by decide +kernel
theorem d_R_same_64 : decode c_R_same 64 = .ok (.iconst (-1), 1) := by decide +kernel
theorem d_R_same_65 : decode c_R_same 65 = .ok (.ireturn, 1) := by decide +kernel
theorem d_R_same_66 : decode c_R_same 66 = .ok (.aload_n 0, 1) := by decide +kernel
theorem d_R_same_67 : decode c_R_same 67 = .ok (.getfield 13, 3) := by decide +kernel
theorem d_R_same_70 : decode c_R_same 70 = .ok (.iload_n 1, 1) := by decide +kernel
theorem d_R_same_71 : decode c_R_same 71 = .ok (.iaload, 1) := by decide +kernel
theorem d_R_same_72 : decode c_R_same 72 = .ok (.istore_n 3, 1) := by decide +kernel
theorem d_R_same_73 : decode c_R_same 73 = .ok (.aload_n 0, 1) := by decide +kernel
theorem d_R_same_74 : decode c_R_same 74 = .ok (.getfield 13, 3) := by decide +kernel
theorem d_R_same_77 : decode c_R_same 77 = .ok (.iload_n 2, 1) := by decide +kernel
theorem d_R_same_78 : decode c_R_same 78 = .ok (.iaload, 1) := by decide +kernel
theorem d_R_same_79 : decode c_R_same 79 = .ok (.istore 4, 2) := by decide +kernel
theorem d_R_same_81 : decode c_R_same 81 = .ok (.iload_n 3, 1) := by decide +kernel
theorem d_R_same_82 : decode c_R_same 82 = .ok (.iload 4, 2) := by decide +kernel
theorem d_R_same_84 : decode c_R_same 84 = .ok (.if_icmp .ge 7, 3) := by decide +kernel
theorem d_R_same_87 : decode c_R_same 87 = .ok (.iload_n 3, 1) := by decide +kernel
theorem d_R_same_88 : decode c_R_same 88 = .ok (.goto 5, 3) := by decide +kernel
theorem d_R_same_91 : decode c_R_same 91 = .ok (.iload 4, 2) := by decide +kernel
theorem d_R_same_93 : decode c_R_same 93 = .ok (.istore 5, 2) := by decide +kernel
theorem d_R_same_95 : decode c_R_same 95 = .ok (.iconst 0, 1) := by decide +kernel
theorem d_R_same_96 : decode c_R_same 96 = .ok (.istore 6, 2) := by decide +kernel
theorem d_R_same_98 : decode c_R_same 98 = .ok (.iload 6, 2) := by decide +kernel
theorem d_R_same_100 : decode c_R_same 100 = .ok (.bipush 16, 2) := by decide +kernel
theorem d_R_same_102 : decode c_R_same 102 = .ok (.if_icmp .ge 41, 3) := by decide +kernel
theorem d_R_same_105 : decode c_R_same 105 = .ok (.aload_n 0, 1) := by decide +kernel
theorem d_R_same_106 : decode c_R_same 106 = .ok (.getfield 13, 3) := by decide +kernel
theorem d_R_same_109 : decode c_R_same 109 = .ok (.iload 6, 2) := by decide +kernel
theorem d_R_same_111 : decode c_R_same 111 = .ok (.iaload, 1) := by decide +kernel
theorem d_R_same_112 : decode c_R_same 112 = .ok (.iload_n 3, 1) := by decide +kernel
theorem d_R_same_113 : decode c_R_same 113 = .ok (.if_icmp .eq 15, 3) := by decide +kernel
theorem d_R_same_116 : decode c_R_same 116 = .ok (.aload_n 0, 1) := by decide +kernel
theorem d_R_same_117 : decode c_R_same 117 = .ok (.getfield 13, 3) := by decide +kernel
theorem d_R_same_120 : decode c_R_same 120 = .ok (.iload 6, 2) := by decide +kernel
theorem d_R_same_122 : decode c_R_same 122 = .ok (.iaload, 1) := by decide +kernel
theorem d_R_same_123 : decode c_R_same 123 = .ok (.iload 4, 2) := by decide +kernel
theorem d_R_same_125 : decode c_R_same 125 = .ok (.if_icmp .ne 12, 3) := by decide +kernel
theorem d_R_same_128 : decode c_R_same 128 = .ok (.aload_n 0, 1) := by decide +kernel
theorem d_R_same_129 : decode c_R_same 129 = .ok (.getfield 13, 3) := by decide +kernel
theorem d_R_same_132 : decode c_R_same 132 = .ok (.iload 6, 2) := by decide +kernel
theorem d_R_same_134 : decode c_R_same 134 = .ok (.iload 5, 2) := by decide +kernel
theorem d_R_same_136 : decode c_R_same 136 = .ok (.iastore, 1) := by decide +kernel
theorem d_R_same_137 : decode c_R_same 137 = .ok (.iinc 6 1, 3) := by decide +kernel
theorem d_R_same_140 : decode c_R_same 140 = .ok (.goto (-42), 3) := by decide +kernel
theorem d_R_same_143 : decode c_R_same 143 = .ok (.aload_n 0, 1) := by decide +kernel
theorem d_R_same_144 : decode c_R_same 144 = .ok (.iload_n 1, 1) := by decide +kernel
theorem d_R_same_145 : decode c_R_same 145 = .ok (.iload_n 2, 1) := by decide +kernel
theorem d_R_same_146 : decode c_R_same 146 = .ok (.invokevirtual 102, 3) := by decide +kernel
theorem d_R_same_149 : decode c_R_same 149 = .ok (.iconst 1, 1) := by decide +kernel
theorem d_R_same_150 : decode c_R_same 150 = .ok (.ireturn, 1) := by decide +kernel
theorem d_R_phase_0 : decode c_R_phase 0 = .ok (.aload_n 0, 1) := by decide +kernel
theorem d_R_phase_1 : decode c_R_phase 1 = .ok (.iload_n 1, 1) := by decide +kernel
theorem d_R_phase_2 : decode c_R_phase 2 = .ok (.invokestatic 90, 3) := by decide +kernel
theorem d_R_phase_5 : decode c_R_phase 5 = .ok (.ifCond .ne 7, 3) := by decide +kernel
theorem d_R_phase_8 : decode c_R_phase 8 = .ok (.iconst 1, 1) := by decide +kernel
theorem d_R_phase_9 : decode c_R_phase 9 = .ok (.goto 4, 3) := by decide +kernel
theorem d_R_phase_12 : decode c_R_phase 12 = .ok (.iconst 0, 1) := by decide +kernel
theorem d_R_phase_13 : decode c_R_phase 13 = .ok (.iload_n 2, 1) := by decide +kernel
theorem d_R_phase_14 : decode c_R_phase 14 = .ok (.iconst (-1), 1) := by decide +kernel
theorem d_R_phase_15 : decode c_R_phase 15 = .ok (.iconst 5, 1) := by decide +kernel
theorem d_R_phase_16 : decode c_R_phase 16 = .ok (.invokestatic 75, 3) := by decide +kernel
theorem d_R_phase_19 : decode c_R_phase 19 = .ok (.ifCond .ne 7, 3) := by decide +kernel
theorem d_R_phase_22 : decode c_R_phase 22 = .ok (.iconst 1, 1) := by decide +kernel
theorem d_R_phase_23 : decode c_R_phase 23 = .ok (.goto 4, 3) := by decide +kernel
theorem d_R_phase_26 : decode c_R_phase 26 = .ok (.iconst 0, 1) := by decide +kernel
theorem d_R_phase_27 : decode c_R_phase 27 = .ok (.invokevirtual 94, 3) := by decide +kernel
theorem d_R_phase_30 : decode c_R_phase 30 = .ok (.ifCond .eq 5, 3) := by decide +kernel
theorem d_R_phase_33 : decode c_R_phase 33 = .ok (.iconst 0, 1) := by decide +kernel
theorem d_R_phase_34 : decode c_R_phase 34 = .ok (.ireturn, 1) := by decide +kernel
theorem d_R_phase_35 : decode c_R_phase 35 = .ok (.aload_n 0, 1) := by decide +kernel
theorem d_R_phase_36 : decode c_R_phase 36 = .ok (.getfield 17, 3) := by decide +kernel
theorem d_R_phase_39 : decode c_R_phase 39 = .ok (.iload_n 1, 1) := by decide +kernel
theorem d_R_phase_40 : decode c_R_phase 40 = .ok (.iaload, 1) := by decide +kernel
theorem d_R_phase_41 : decode c_R_phase 41 = .ok (.istore_n 3, 1) := by decide +kernel
theorem d_R_phase_42 : decode c_R_phase 42 = .ok (.aload_n 0, 1) := by decide +kernel
theorem d_R_phase_43 : decode c_R_phase 43 = .ok (.getfield 17, 3) := by decide +kernel
theorem d_R_phase_46 : decode c_R_phase 46 = .ok (.iload_n 1, 1) := by decide +kernel
theorem d_R_phase_47 : decode c_R_phase 47 = .ok (.iload_n 2, 1) := by decide +kernel
theorem d_R_phase_48 : decode c_R_phase 48 = .ok (.iastore, 1) := by decide +kernel
theorem d_R_phase_49 : decode c_R_phase 49 = .ok (.aload_n 0, 1) := by decide +kernel
theorem d_R_phase_50 : decode c_R_phase 50 = .ok (.iload_n 1, 1) := by decide +kernel
theorem d_R_phase_51 : decode c_R_phase 51 = .ok (.iload_n 1, 1) := by decide +kernel
theorem d_R_phase_52 : decode c_R_phase 52 = .ok (.invokevirtual 102, 3) := by decide +kernel
theorem d_R_phase_55 : decode c_R_phase 55 = .ok (.iload_n 3, 1) := by decide +kernel
theorem d_R_phase_56 : decode c_R_phase 56 = .ok (.ireturn, 1) := by decide +kernel
theorem d_R_hide_0 : decode c_R_hide 0 = .ok (.aload_n 0, 1) := by decide +kernel
theorem d_R_hide_1 : decode c_R_hide 1 = .ok (.iload_n 1, 1) := by decide +kernel
theorem d_R_hide_2 : decode c_R_hide 2 = .ok (.invokestatic 90, 3) := by decide +kernel
theorem d_R_hide_5 : decode c_R_hide 5 = .ok (.ifCond .ne 7, 3) := by decide +kernel
theorem d_R_hide_8 : decode c_R_hide 8 = .ok (.iconst 1, 1) := by decide +kernel
theorem d_R_hide_9 : decode c_R_hide 9 = .ok (.goto 4, 3) := by decide +kernel
theorem d_R_hide_12 : decode c_R_hide 12 = .ok (.iconst 0, 1) := by decide +kernel
theorem d_R_hide_13 : decode c_R_hide 13 = .ok (.iconst 0, 1) := by decide +kernel
theorem d_R_hide_14 : decode c_R_hide 14 = .ok (.invokevirtual 94, 3) := by decide +kernel
theorem d_R_hide_17 : decode c_R_hide 17 = .ok (.ifCond .eq 5, 3) := by decide +kernel
theorem d_R_hide_20 : decode c_R_hide 20 = .ok (.iconst 0, 1) := by decide +kernel
theorem d_R_hide_21 : decode c_R_hide 21 = .ok (.ireturn, 1) := by decide +kernel
theorem d_R_hide_22 : decode c_R_hide 22 = .ok (.aload_n 0, 1) := by decide +kernel
theorem d_R_hide_23 : decode c_R_hide 23 = .ok (.getfield 20, 3) := by decide +kernel
theorem d_R_hide_26 : decode c_R_hide 26 = .ok (.iload_n 1, 1) := by decide +kernel
theorem d_R_hide_27 : decode c_R_hide 27 = .ok (.baload, 1) := by decide +kernel
theorem d_R_hide_28 : decode c_R_hide 28 = .ok (.istore_n 3, 1) := by decide +kernel
theorem d_R_hide_29 : decode c_R_hide 29 = .ok (.aload_n 0, 1) := by decide +kernel
theorem d_R_hide_30 : decode c_R_hide 30 = .ok (.getfield 20, 3) := by decide +kernel
theorem d_R_hide_33 : decode c_R_hide 33 = .ok (.iload_n 1, 1) := by decide +kernel
theorem d_R_hide_34 : decode c_R_hide 34 = .ok (.iload_n 2, 1) := by decide +kernel
theorem d_R_hide_35 : decode c_R_hide 35 = .ok (.bastore, 1) := by decide +kernel
theorem d_R_hide_36 : decode c_R_hide 36 = .ok (.aload_n 0, 1) := by decide +kernel
theorem d_R_hide_37 : decode c_R_hide 37 = .ok (.iconst 0, 1) := by decide +kernel
theorem d_R_hide_38 : decode c_R_hide 38 = .ok (.putfield 86, 3) := by decide +kernel
theorem d_R_hide_41 : decode c_R_hide 41 = .ok (.aload_n 0, 1) := by decide +kernel
theorem d_R_hide_42 : decode c_R_hide 42 = .ok (.getfield 23, 3) := by decide +kernel
theorem d_R_hide_45 : decode c_R_hide 45 = .ok (.iload_n 1, 1) := by decide +kernel
theorem d_R_hide_46 : decode c_R_hide 46 = .ok (.aload_n 0, 1) := by decide +kernel
theorem d_R_hide_47 : decode c_R_hide 47 = .ok (.getfield 23, 3) := by decide +kernel
theorem d_R_hide_50 : decode c_R_hide 50 = .ok (.iload_n 1, 1) := by decide +kernel
theorem d_R_hide_51 : decode c_R_hide 51 = .ok (.baload, 1) := by decide +kernel
theorem d_R_hide_52 : decode c_R_hide 52 = .ok (.ifCond .ne 8, 3) := by decide +kernel
theorem d_R_hide_55 : decode c_R_hide 55 = .ok (.iload_n 3, 1) := by decide +kernel
theorem d_R_hide_56 : decode c_R_hide 56 = .ok (.iload_n 2, 1) := by decide +kernel
theorem d_R_hide_57 : decode c_R_hide 57 = .ok (.if_icmp .eq 7, 3) := by decide +kernel
theorem d_R_hide_60 : decode c_R_hide 60 = .ok (.iconst 1, 1) := by decide +kernel
theorem d_R_hide_61 : decode c_R_hide 61 = .ok (.goto 4, 3) := by decide +kernel
theorem d_R_hide_64 : decode c_R_hide 64 = .ok (.iconst 0, 1) := by decide +kernel
theorem d_R_hide_65 : decode c_R_hide 65 = .ok (.bastore, 1) := by decide +kernel
theorem d_R_hide_66 : decode c_R_hide 66 = .ok (.iload_n 3, 1) := by decide +kernel
theorem d_R_hide_67 : decode c_R_hide 67 = .ok (.iload_n 2, 1) := by decide +kernel
theorem d_R_hide_68 : decode c_R_hide 68 = .ok (.if_icmp .eq 7, 3) := by decide +kernel
theorem d_R_hide_71 : decode c_R_hide 71 = .ok (.iconst 1, 1) := by decide +kernel
theorem d_R_hide_72 : decode c_R_hide 72 = .ok (.goto 4, 3) := by decide +kernel
theorem d_R_hide_75 : decode c_R_hide 75 = .ok (.iconst 0, 1) := by decide +kernel
theorem d_R_hide_76 : decode c_R_hide 76 = .ok (.ireturn, 1) := by decide +kernel
theorem d_R_group_0 : decode c_R_group 0 = .ok (.aload_n 0, 1) := by decide +kernel
theorem d_R_group_1 : decode c_R_group 1 = .ok (.iload_n 1, 1) := by decide +kernel
theorem d_R_group_2 : decode c_R_group 2 = .ok (.invokestatic 90, 3) := by decide +kernel
theorem d_R_group_5 : decode c_R_group 5 = .ok (.ifCond .ne 7, 3) := by decide +kernel
theorem d_R_group_8 : decode c_R_group 8 = .ok (.iconst 1, 1) := by decide +kernel
theorem d_R_group_9 : decode c_R_group 9 = .ok (.goto 4, 3) := by decide +kernel
theorem d_R_group_12 : decode c_R_group 12 = .ok (.iconst 0, 1) := by decide +kernel
theorem d_R_group_13 : decode c_R_group 13 = .ok (.iconst 0, 1) := by decide +kernel
theorem d_R_group_14 : decode c_R_group 14 = .ok (.invokevirtual 94, 3) := by decide +kernel
theorem d_R_group_17 : decode c_R_group 17 = .ok (.ifCond .eq 7, 3) := by decide +kernel
theorem d_R_group_20 : decode c_R_group 20 = .ok (.iconst 0, 1) := by decide +kernel
theorem d_R_group_21 : decode c_R_group 21 = .ok (.goto 9, 3) := by decide +kernel
theorem d_R_group_24 : decode c_R_group 24 = .ok (.aload_n 0, 1) := by decide +kernel
theorem d_R_group_25 : decode c_R_group 25 = .ok (.getfield 13, 3) := by decide +kernel
theorem d_R_group_28 : decode c_R_group 28 = .ok (.iload_n 1, 1) := by decide +kernel
theorem d_R_group_29 : decode c_R_group 29 = .ok (.iaload, 1) := by decide +kernel
theorem d_R_group_30 : decode c_R_group 30 = .ok (.ireturn, 1) := by decide +kernel
theorem d_R_phaseOf_0 : decode c_R_phaseOf 0 = .ok (.iconst (-1), 1) := by decide +kernel
theorem d_R_phaseOf_1 : decode c_R_phaseOf 1 = .ok (.istore_n 2, 1) := by decide +kernel
theorem d_R_phaseOf_2 : decode c_R_phaseOf 2 = .ok (.iconst 0, 1) := by decide +kernel
theorem d_R_phaseOf_3 : decode c_R_phaseOf 3 = .ok (.istore_n 3, 1) := by decide +kernel
theorem d_R_phaseOf_4 : decode c_R_phaseOf 4 = .ok (.iload_n 3, 1) := by decide +kernel
theorem d_R_phaseOf_5 : decode c_R_phaseOf 5 = .ok (.bipush 16, 2) := by decide +kernel
theorem d_R_phaseOf_7 : decode c_R_phaseOf 7 = .ok (.if_icmp .ge 49, 3) := by decide +kernel
theorem d_R_phaseOf_10 : decode c_R_phaseOf 10 = .ok (.aload_n 0, 1) := by decide +kernel
theorem d_R_phaseOf_11 : decode c_R_phaseOf 11 = .ok (.getfield 13, 3) := by decide +kernel
theorem d_R_phaseOf_14 : decode c_R_phaseOf 14 = .ok (.iload_n 3, 1) := by decide +kernel
theorem d_R_phaseOf_15 : decode c_R_phaseOf 15 = .ok (.iaload, 1) := by decide +kernel
theorem d_R_phaseOf_16 : decode c_R_phaseOf 16 = .ok (.iload_n 1, 1) := by decide +kernel
theorem d_R_phaseOf_17 : decode c_R_phaseOf 17 = .ok (.if_icmp .ne 33, 3) := by decide +kernel
theorem d_R_phaseOf_20 : decode c_R_phaseOf 20 = .ok (.aload_n 0, 1) := by decide +kernel
theorem d_R_phaseOf_21 : decode c_R_phaseOf 21 = .ok (.getfield 17, 3) := by decide +kernel
theorem d_R_phaseOf_24 : decode c_R_phaseOf 24 = .ok (.iload_n 3, 1) := by decide +kernel
theorem d_R_phaseOf_25 : decode c_R_phaseOf 25 = .ok (.iaload, 1) := by decide +kernel
theorem d_R_phaseOf_26 : decode c_R_phaseOf 26 = .ok (.ifCond .lt 24, 3) := by decide +kernel
theorem d_R_phaseOf_29 : decode c_R_phaseOf 29 = .ok (.iload_n 2, 1) := by decide +kernel
theorem d_R_phaseOf_30 : decode c_R_phaseOf 30 = .ok (.ifCond .lt 13, 3) := by decide +kernel
theorem d_R_phaseOf_33 : decode c_R_phaseOf 33 = .ok (.aload_n 0, 1) := by decide +kernel
theorem d_R_phaseOf_34 : decode c_R_phaseOf 34 = .ok (.getfield 17, 3) := by decide +kernel
theorem d_R_phaseOf_37 : decode c_R_phaseOf 37 = .ok (.iload_n 3, 1) := by decide +kernel
theorem d_R_phaseOf_38 : decode c_R_phaseOf 38 = .ok (.iaload, 1) := by decide +kernel
theorem d_R_phaseOf_39 : decode c_R_phaseOf 39 = .ok (.iload_n 2, 1) := by decide +kernel
theorem d_R_phaseOf_40 : decode c_R_phaseOf 40 = .ok (.if_icmp .ge 10, 3) := by decide +kernel
theorem d_R_phaseOf_43 : decode c_R_phaseOf 43 = .ok (.aload_n 0, 1) := by decide +kernel
theorem d_R_phaseOf_44 : decode c_R_phaseOf 44 = .ok (.getfield 17, 3) := by decide +kernel
theorem d_R_phaseOf_47 : decode c_R_phaseOf 47 = .ok (.iload_n 3, 1) := by decide +kernel
theorem d_R_phaseOf_48 : decode c_R_phaseOf 48 = .ok (.iaload, 1) := by decide +kernel
theorem d_R_phaseOf_49 : decode c_R_phaseOf 49 = .ok (.istore_n 2, 1) := by decide +kernel
theorem d_R_phaseOf_50 : decode c_R_phaseOf 50 = .ok (.iinc 3 1, 3) := by decide +kernel
theorem d_R_phaseOf_53 : decode c_R_phaseOf 53 = .ok (.goto (-49), 3) := by decide +kernel
theorem d_R_phaseOf_56 : decode c_R_phaseOf 56 = .ok (.iload_n 2, 1) := by decide +kernel
theorem d_R_phaseOf_57 : decode c_R_phaseOf 57 = .ok (.ireturn, 1) := by decide +kernel
theorem d_R_isHidden_0 : decode c_R_isHidden 0 = .ok (.iconst 1, 1) := by decide +kernel
theorem d_R_isHidden_1 : decode c_R_isHidden 1 = .ok (.istore_n 2, 1) := by decide +kernel
theorem d_R_isHidden_2 : decode c_R_isHidden 2 = .ok (.iconst 0, 1) := by decide +kernel
theorem d_R_isHidden_3 : decode c_R_isHidden 3 = .ok (.istore_n 3, 1) := by decide +kernel
theorem d_R_isHidden_4 : decode c_R_isHidden 4 = .ok (.iload_n 3, 1) := by decide +kernel
theorem d_R_isHidden_5 : decode c_R_isHidden 5 = .ok (.bipush 16, 2) := by decide +kernel
theorem d_R_isHidden_7 : decode c_R_isHidden 7 = .ok (.if_icmp .ge 38, 3) := by decide +kernel
theorem d_R_isHidden_10 : decode c_R_isHidden 10 = .ok (.iload_n 2, 1) := by decide +kernel
theorem d_R_isHidden_11 : decode c_R_isHidden 11 = .ok (.ifCond .eq 26, 3) := by decide +kernel
theorem d_R_isHidden_14 : decode c_R_isHidden 14 = .ok (.aload_n 0, 1) := by decide +kernel
theorem d_R_isHidden_15 : decode c_R_isHidden 15 = .ok (.getfield 13, 3) := by decide +kernel
theorem d_R_isHidden_18 : decode c_R_isHidden 18 = .ok (.iload_n 3, 1) := by decide +kernel
theorem d_R_isHidden_19 : decode c_R_isHidden 19 = .ok (.iaload, 1) := by decide +kernel
theorem d_R_isHidden_20 : decode c_R_isHidden 20 = .ok (.iload_n 1, 1) := by decide +kernel
theorem d_R_isHidden_21 : decode c_R_isHidden 21 = .ok (.if_icmp .ne 12, 3) := by decide +kernel
theorem d_R_isHidden_24 : decode c_R_isHidden 24 = .ok (.aload_n 0, 1) := by decide +kernel
theorem d_R_isHidden_25 : decode c_R_isHidden 25 = .ok (.getfield 20, 3) := by decide +kernel
theorem d_R_isHidden_28 : decode c_R_isHidden 28 = .ok (.iload_n 3, 1) := by decide +kernel
theorem d_R_isHidden_29 : decode c_R_isHidden 29 = .ok (.baload, 1) := by decide +kernel
theorem d_R_isHidden_30 : decode c_R_isHidden 30 = .ok (.ifCond .eq 7, 3) := by decide +kernel
theorem d_R_isHidden_33 : decode c_R_isHidden 33 = .ok (.iconst 1, 1) := by decide +kernel
theorem d_R_isHidden_34 : decode c_R_isHidden 34 = .ok (.goto 4, 3) := by decide +kernel
theorem d_R_isHidden_37 : decode c_R_isHidden 37 = .ok (.iconst 0, 1) := by decide +kernel
theorem d_R_isHidden_38 : decode c_R_isHidden 38 = .ok (.istore_n 2, 1) := by decide +kernel
theorem d_R_isHidden_39 : decode c_R_isHidden 39 = .ok (.iinc 3 1, 3) := by decide +kernel
theorem d_R_isHidden_42 : decode c_R_isHidden 42 = .ok (.goto (-38), 3) := by decide +kernel
theorem d_R_isHidden_45 : decode c_R_isHidden 45 = .ok (.iload_n 2, 1) := by decide +kernel
theorem d_R_isHidden_46 : decode c_R_isHidden 46 = .ok (.ireturn, 1) := by decide +kernel
theorem d_R_isThere_0 : decode c_R_isThere 0 = .ok (.iconst 0, 1) := by decide +kernel
theorem d_R_isThere_1 : decode c_R_isThere 1 = .ok (.istore_n 2, 1) := by decide +kernel
theorem d_R_isThere_2 : decode c_R_isThere 2 = .ok (.iconst 0, 1) := by decide +kernel
theorem d_R_isThere_3 : decode c_R_isThere 3 = .ok (.istore_n 3, 1) := by decide +kernel
theorem d_R_isThere_4 : decode c_R_isThere 4 = .ok (.iload_n 3, 1) := by decide +kernel
theorem d_R_isThere_5 : decode c_R_isThere 5 = .ok (.bipush 16, 2) := by decide +kernel
theorem d_R_isThere_7 : decode c_R_isThere 7 = .ok (.if_icmp .ge 38, 3) := by decide +kernel
theorem d_R_isThere_10 : decode c_R_isThere 10 = .ok (.iload_n 2, 1) := by decide +kernel
theorem d_R_isThere_11 : decode c_R_isThere 11 = .ok (.ifCond .ne 22, 3) := by decide +kernel
theorem d_R_isThere_14 : decode c_R_isThere 14 = .ok (.aload_n 0, 1) := by decide +kernel
theorem d_R_isThere_15 : decode c_R_isThere 15 = .ok (.getfield 13, 3) := by decide +kernel
theorem d_R_isThere_18 : decode c_R_isThere 18 = .ok (.iload_n 3, 1) := by decide +kernel
theorem d_R_isThere_19 : decode c_R_isThere 19 = .ok (.iaload, 1) := by decide +kernel
theorem d_R_isThere_20 : decode c_R_isThere 20 = .ok (.iload_n 1, 1) := by decide +kernel
theorem d_R_isThere_21 : decode c_R_isThere 21 = .ok (.if_icmp .ne 16, 3) := by decide +kernel
theorem d_R_isThere_24 : decode c_R_isThere 24 = .ok (.aload_n 0, 1) := by decide +kernel
theorem d_R_isThere_25 : decode c_R_isThere 25 = .ok (.getfield 23, 3) := by decide +kernel
theorem d_R_isThere_28 : decode c_R_isThere 28 = .ok (.iload_n 3, 1) := by decide +kernel
theorem d_R_isThere_29 : decode c_R_isThere 29 = .ok (.baload, 1) := by decide +kernel
theorem d_R_isThere_30 : decode c_R_isThere 30 = .ok (.ifCond .eq 7, 3) := by decide +kernel
theorem d_R_isThere_33 : decode c_R_isThere 33 = .ok (.iconst 1, 1) := by decide +kernel
theorem d_R_isThere_34 : decode c_R_isThere 34 = .ok (.goto 4, 3) := by decide +kernel
theorem d_R_isThere_37 : decode c_R_isThere 37 = .ok (.iconst 0, 1) := by decide +kernel
theorem d_R_isThere_38 : decode c_R_isThere 38 = .ok (.istore_n 2, 1) := by decide +kernel
theorem d_R_isThere_39 : decode c_R_isThere 39 = .ok (.iinc 3 1, 3) := by decide +kernel
theorem d_R_isThere_42 : decode c_R_isThere 42 = .ok (.goto (-38), 3) := by decide +kernel
theorem d_R_isThere_45 : decode c_R_isThere 45 = .ok (.iload_n 2, 1) := by decide +kernel
theorem d_R_isThere_46 : decode c_R_isThere 46 = .ok (.ireturn, 1) := by decide +kernel
theorem d_R_isDrawn_0 : decode c_R_isDrawn 0 = .ok (.aload_n 0, 1) := by decide +kernel
theorem d_R_isDrawn_1 : decode c_R_isDrawn 1 = .ok (.getfield 13, 3) := by decide +kernel
theorem d_R_isDrawn_4 : decode c_R_isDrawn 4 = .ok (.iload_n 1, 1) := by decide +kernel
theorem d_R_isDrawn_5 : decode c_R_isDrawn 5 = .ok (.iaload, 1) := by decide +kernel
theorem d_R_isDrawn_6 : decode c_R_isDrawn 6 = .ok (.iload_n 1, 1) := by decide +kernel
theorem d_R_isDrawn_7 : decode c_R_isDrawn 7 = .ok (.if_icmp .ne 23, 3) := by decide +kernel
theorem d_R_isDrawn_10 : decode c_R_isDrawn 10 = .ok (.aload_n 0, 1) := by decide +kernel
theorem d_R_isDrawn_11 : decode c_R_isDrawn 11 = .ok (.iload_n 1, 1) := by decide +kernel
theorem d_R_isDrawn_12 : decode c_R_isDrawn 12 = .ok (.invokevirtual 106, 3) := by decide +kernel
theorem d_R_isDrawn_15 : decode c_R_isDrawn 15 = .ok (.ifCond .eq 15, 3) := by decide +kernel
theorem d_R_isDrawn_18 : decode c_R_isDrawn 18 = .ok (.aload_n 0, 1) := by decide +kernel
theorem d_R_isDrawn_19 : decode c_R_isDrawn 19 = .ok (.iload_n 1, 1) := by decide +kernel
theorem d_R_isDrawn_20 : decode c_R_isDrawn 20 = .ok (.invokevirtual 109, 3) := by decide +kernel
theorem d_R_isDrawn_23 : decode c_R_isDrawn 23 = .ok (.ifCond .ne 7, 3) := by decide +kernel
theorem d_R_isDrawn_26 : decode c_R_isDrawn 26 = .ok (.iconst 1, 1) := by decide +kernel
theorem d_R_isDrawn_27 : decode c_R_isDrawn 27 = .ok (.goto 4, 3) := by decide +kernel
theorem d_R_isDrawn_30 : decode c_R_isDrawn 30 = .ok (.iconst 0, 1) := by decide +kernel
theorem d_R_isDrawn_31 : decode c_R_isDrawn 31 = .ok (.ireturn, 1) := by decide +kernel
theorem d_R_misfits_0 : decode c_R_misfits 0 = .ok (.aload_n 0, 1) := by decide +kernel
theorem d_R_misfits_1 : decode c_R_misfits 1 = .ok (.getfield 26, 3) := by decide +kernel
theorem d_R_misfits_4 : decode c_R_misfits 4 = .ok (.bipush 16, 2) := by decide +kernel
theorem d_R_misfits_6 : decode c_R_misfits 6 = .ok (.iload_n 1, 1) := by decide +kernel
theorem d_R_misfits_7 : decode c_R_misfits 7 = .ok (.imul, 1) := by decide +kernel
theorem d_R_misfits_8 : decode c_R_misfits 8 = .ok (.iload_n 2, 1) := by decide +kernel
theorem d_R_misfits_9 : decode c_R_misfits 9 = .ok (.iadd, 1) := by decide +kernel
theorem d_R_misfits_10 : decode c_R_misfits 10 = .ok (.baload, 1) := by decide +kernel
theorem d_R_misfits_11 : decode c_R_misfits 11 = .ok (.ifCond .eq 28, 3) := by decide +kernel
theorem d_R_misfits_14 : decode c_R_misfits 14 = .ok (.aload_n 0, 1) := by decide +kernel
theorem d_R_misfits_15 : decode c_R_misfits 15 = .ok (.iload_n 2, 1) := by decide +kernel
theorem d_R_misfits_16 : decode c_R_misfits 16 = .ok (.invokevirtual 112, 3) := by decide +kernel
theorem d_R_misfits_19 : decode c_R_misfits 19 = .ok (.ifCond .lt 20, 3) := by decide +kernel
theorem d_R_misfits_22 : decode c_R_misfits 22 = .ok (.aload_n 0, 1) := by decide +kernel
theorem d_R_misfits_23 : decode c_R_misfits 23 = .ok (.iload_n 1, 1) := by decide +kernel
theorem d_R_misfits_24 : decode c_R_misfits 24 = .ok (.invokevirtual 112, 3) := by decide +kernel
theorem d_R_misfits_27 : decode c_R_misfits 27 = .ok (.aload_n 0, 1) := by decide +kernel
theorem d_R_misfits_28 : decode c_R_misfits 28 = .ok (.iload_n 2, 1) := by decide +kernel
theorem d_R_misfits_29 : decode c_R_misfits 29 = .ok (.invokevirtual 112, 3) := by decide +kernel
theorem d_R_misfits_32 : decode c_R_misfits 32 = .ok (.if_icmp .le 7, 3) := by decide +kernel
theorem d_R_misfits_35 : decode c_R_misfits 35 = .ok (.iconst 1, 1) := by decide +kernel
theorem d_R_misfits_36 : decode c_R_misfits 36 = .ok (.goto 4, 3) := by decide +kernel
theorem d_R_misfits_39 : decode c_R_misfits 39 = .ok (.iconst 0, 1) := by decide +kernel
theorem d_R_misfits_40 : decode c_R_misfits 40 = .ok (.ireturn, 1) := by decide +kernel
theorem d_R_misfit_0 : decode c_R_misfit 0 = .ok (.aload_n 0, 1) := by decide +kernel
theorem d_R_misfit_1 : decode c_R_misfit 1 = .ok (.iload_n 1, 1) := by decide +kernel
theorem d_R_misfit_2 : decode c_R_misfit 2 = .ok (.ifCond .lt 12, 3) := by decide +kernel
theorem d_R_misfit_5 : decode c_R_misfit 5 = .ok (.iload_n 2, 1) := by decide +kernel
theorem d_R_misfit_6 : decode c_R_misfit 6 = .ok (.iconst 0, 1) := by decide +kernel
theorem d_R_misfit_7 : decode c_R_misfit 7 = .ok (.iconst 1, 1) := by decide +kernel
theorem d_R_misfit_8 : decode c_R_misfit 8 = .ok (.invokestatic 75, 3) := by decide +kernel
theorem d_R_misfit_11 : decode c_R_misfit 11 = .ok (.ifCond .ne 7, 3) := by decide +kernel
theorem d_R_misfit_14 : decode c_R_misfit 14 = .ok (.iconst 1, 1) := by decide +kernel
theorem d_R_misfit_15 : decode c_R_misfit 15 = .ok (.goto 4, 3) := by decide +kernel
theorem d_R_misfit_18 : decode c_R_misfit 18 = .ok (.iconst 0, 1) := by decide +kernel
theorem d_R_misfit_19 : decode c_R_misfit 19 = .ok (.iconst 0, 1) := by decide +kernel
theorem d_R_misfit_20 : decode c_R_misfit 20 = .ok (.invokevirtual 94, 3) := by decide +kernel
theorem d_R_misfit_23 : decode c_R_misfit 23 = .ok (.ifCond .eq 5, 3) := by decide +kernel
theorem d_R_misfit_26 : decode c_R_misfit 26 = .ok (.iconst 0, 1) := by decide +kernel
theorem d_R_misfit_27 : decode c_R_misfit 27 = .ok (.ireturn, 1) := by decide +kernel
theorem d_R_misfit_28 : decode c_R_misfit 28 = .ok (.aload_n 0, 1) := by decide +kernel
theorem d_R_misfit_29 : decode c_R_misfit 29 = .ok (.invokevirtual 83, 3) := by decide +kernel
theorem d_R_misfit_32 : decode c_R_misfit 32 = .ok (.iload_n 1, 1) := by decide +kernel
theorem d_R_misfit_33 : decode c_R_misfit 33 = .ok (.istore_n 3, 1) := by decide +kernel
theorem d_R_misfit_34 : decode c_R_misfit 34 = .ok (.iconst 0, 1) := by decide +kernel
theorem d_R_misfit_35 : decode c_R_misfit 35 = .ok (.istore 4, 2) := by decide +kernel
theorem d_R_misfit_37 : decode c_R_misfit 37 = .ok (.iload 4, 2) := by decide +kernel
theorem d_R_misfit_39 : decode c_R_misfit 39 = .ok (.sipush 256, 3) := by decide +kernel
theorem d_R_misfit_42 : decode c_R_misfit 42 = .ok (.if_icmp .ge 54, 3) := by decide +kernel
theorem d_R_misfit_45 : decode c_R_misfit 45 = .ok (.aload_n 0, 1) := by decide +kernel
theorem d_R_misfit_46 : decode c_R_misfit 46 = .ok (.iload 4, 2) := by decide +kernel
theorem d_R_misfit_48 : decode c_R_misfit 48 = .ok (.bipush 16, 2) := by decide +kernel
theorem d_R_misfit_50 : decode c_R_misfit 50 = .ok (.idiv, 1) := by decide +kernel
theorem d_R_misfit_51 : decode c_R_misfit 51 = .ok (.iload 4, 2) := by decide +kernel
theorem d_R_misfit_53 : decode c_R_misfit 53 = .ok (.bipush 16, 2) := by decide +kernel
theorem d_R_misfit_55 : decode c_R_misfit 55 = .ok (.irem, 1) := by decide +kernel
theorem d_R_misfit_56 : decode c_R_misfit 56 = .ok (.invokevirtual 116, 3) := by decide +kernel
theorem d_R_misfit_59 : decode c_R_misfit 59 = .ok (.ifCond .ne 6, 3) := by decide +kernel
theorem d_R_misfit_62 : decode c_R_misfit 62 = .ok (.goto 28, 3) := by decide +kernel
theorem d_R_misfit_65 : decode c_R_misfit 65 = .ok (.iload_n 3, 1) := by decide +kernel
theorem d_R_misfit_66 : decode c_R_misfit 66 = .ok (.ifCond .ne 21, 3) := by decide +kernel
theorem d_R_misfit_69 : decode c_R_misfit 69 = .ok (.iload_n 2, 1) := by decide +kernel
theorem d_R_misfit_70 : decode c_R_misfit 70 = .ok (.ifCond .ne 11, 3) := by decide +kernel
theorem d_R_misfit_73 : decode c_R_misfit 73 = .ok (.iload 4, 2) := by decide +kernel
theorem d_R_misfit_75 : decode c_R_misfit 75 = .ok (.bipush 16, 2) := by decide +kernel
theorem d_R_misfit_77 : decode c_R_misfit 77 = .ok (.idiv, 1) := by decide +kernel
theorem d_R_misfit_78 : decode c_R_misfit 78 = .ok (.goto 8, 3) := by decide +kernel
theorem d_R_misfit_81 : decode c_R_misfit 81 = .ok (.iload 4, 2) := by decide +kernel
theorem d_R_misfit_83 : decode c_R_misfit 83 = .ok (.bipush 16, 2) := by decide +kernel
theorem d_R_misfit_85 : decode c_R_misfit 85 = .ok (.irem, 1) := by decide +kernel
theorem d_R_misfit_86 : decode c_R_misfit 86 = .ok (.ireturn, 1) := by decide +kernel
theorem d_R_misfit_87 : decode c_R_misfit 87 = .ok (.iinc 3 (-1), 3) := by decide +kernel
theorem d_R_misfit_90 : decode c_R_misfit 90 = .ok (.iinc 4 1, 3) := by decide +kernel
theorem d_R_misfit_93 : decode c_R_misfit 93 = .ok (.goto (-56), 3) := by decide +kernel
theorem d_R_misfit_96 : decode c_R_misfit 96 = .ok (.iconst (-1), 1) := by decide +kernel
theorem d_R_misfit_97 : decode c_R_misfit 97 = .ok (.ireturn, 1) := by decide +kernel
theorem d_R_findLinks_0 : decode c_R_findLinks 0 = .ok (.iconst 0, 1) := by decide +kernel
theorem d_R_findLinks_1 : decode c_R_findLinks 1 = .ok (.istore_n 1, 1) := by decide +kernel
theorem d_R_findLinks_2 : decode c_R_findLinks 2 = .ok (.iload_n 1, 1) := by decide +kernel
theorem d_R_findLinks_3 : decode c_R_findLinks 3 = .ok (.sipush 256, 3) := by decide +kernel
theorem d_R_findLinks_6 : decode c_R_findLinks 6 = .ok (.if_icmp .ge 16, 3) := by decide +kernel
theorem d_R_findLinks_9 : decode c_R_findLinks 9 = .ok (.aload_n 0, 1) := by decide +kernel
theorem d_R_findLinks_10 : decode c_R_findLinks 10 = .ok (.getfield 29, 3) := by decide +kernel
theorem d_R_findLinks_13 : decode c_R_findLinks 13 = .ok (.iload_n 1, 1) := by decide +kernel
theorem d_R_findLinks_14 : decode c_R_findLinks 14 = .ok (.iconst 0, 1) := by decide +kernel
theorem d_R_findLinks_15 : decode c_R_findLinks 15 = .ok (.bastore, 1) := by decide +kernel
theorem d_R_findLinks_16 : decode c_R_findLinks 16 = .ok (.iinc 1 1, 3) := by decide +kernel
theorem d_R_findLinks_19 : decode c_R_findLinks 19 = .ok (.goto (-17), 3) := by decide +kernel
theorem d_R_findLinks_22 : decode c_R_findLinks 22 = .ok (.iconst 0, 1) := by decide +kernel
theorem d_R_findLinks_23 : decode c_R_findLinks 23 = .ok (.istore_n 1, 1) := by decide +kernel
theorem d_R_findLinks_24 : decode c_R_findLinks 24 = .ok (.iload_n 1, 1) := by decide +kernel
theorem d_R_findLinks_25 : decode c_R_findLinks 25 = .ok (.sipush 256, 3) := by decide +kernel
theorem d_R_findLinks_28 : decode c_R_findLinks 28 = .ok (.if_icmp .ge 46, 3) := by decide +kernel
theorem d_R_findLinks_31 : decode c_R_findLinks 31 = .ok (.aload_n 0, 1) := by decide +kernel
theorem d_R_findLinks_32 : decode c_R_findLinks 32 = .ok (.getfield 7, 3) := by decide +kernel
theorem d_R_findLinks_35 : decode c_R_findLinks 35 = .ok (.iload_n 1, 1) := by decide +kernel
theorem d_R_findLinks_36 : decode c_R_findLinks 36 = .ok (.baload, 1) := by decide +kernel
theorem d_R_findLinks_37 : decode c_R_findLinks 37 = .ok (.ifCond .eq 31, 3) := by decide +kernel
theorem d_R_findLinks_40 : decode c_R_findLinks 40 = .ok (.aload_n 0, 1) := by decide +kernel
theorem d_R_findLinks_41 : decode c_R_findLinks 41 = .ok (.getfield 29, 3) := by decide +kernel
theorem d_R_findLinks_44 : decode c_R_findLinks 44 = .ok (.bipush 16, 2) := by decide +kernel
theorem d_R_findLinks_46 : decode c_R_findLinks 46 = .ok (.aload_n 0, 1) := by decide +kernel
theorem d_R_findLinks_47 : decode c_R_findLinks 47 = .ok (.getfield 13, 3) := by decide +kernel
theorem d_R_findLinks_50 : decode c_R_findLinks 50 = .ok (.iload_n 1, 1) := by decide +kernel
theorem d_R_findLinks_51 : decode c_R_findLinks 51 = .ok (.bipush 16, 2) := by decide +kernel
theorem d_R_findLinks_53 : decode c_R_findLinks 53 = .ok (.idiv, 1) := by decide +kernel
theorem d_R_findLinks_54 : decode c_R_findLinks 54 = .ok (.iaload, 1) := by decide +kernel
theorem d_R_findLinks_55 : decode c_R_findLinks 55 = .ok (.imul, 1) := by decide +kernel
theorem d_R_findLinks_56 : decode c_R_findLinks 56 = .ok (.aload_n 0, 1) := by decide +kernel
theorem d_R_findLinks_57 : decode c_R_findLinks 57 = .ok (.getfield 13, 3) := by decide +kernel
theorem d_R_findLinks_60 : decode c_R_findLinks 60 = .ok (.iload_n 1, 1) := by decide +kernel
theorem d_R_findLinks_61 : decode c_R_findLinks 61 = .ok (.bipush 16, 2) := by decide +kernel
theorem d_R_findLinks_63 : decode c_R_findLinks 63 = .ok (.irem, 1) := by decide +kernel
theorem d_R_findLinks_64 : decode c_R_findLinks 64 = .ok (.iaload, 1) := by decide +kernel
theorem d_R_findLinks_65 : decode c_R_findLinks 65 = .ok (.iadd, 1) := by decide +kernel
theorem d_R_findLinks_66 : decode c_R_findLinks 66 = .ok (.iconst 1, 1) := by decide +kernel
theorem d_R_findLinks_67 : decode c_R_findLinks 67 = .ok (.bastore, 1) := by decide +kernel
theorem d_R_findLinks_68 : decode c_R_findLinks 68 = .ok (.iinc 1 1, 3) := by decide +kernel
theorem d_R_findLinks_71 : decode c_R_findLinks 71 = .ok (.goto (-47), 3) := by decide +kernel
theorem d_R_findLinks_74 : decode c_R_findLinks 74 = .ok (.iconst 0, 1) := by decide +kernel
theorem d_R_findLinks_75 : decode c_R_findLinks 75 = .ok (.istore_n 1, 1) := by decide +kernel
theorem d_R_findLinks_76 : decode c_R_findLinks 76 = .ok (.iload_n 1, 1) := by decide +kernel
theorem d_R_findLinks_77 : decode c_R_findLinks 77 = .ok (.bipush 16, 2) := by decide +kernel
theorem d_R_findLinks_79 : decode c_R_findLinks 79 = .ok (.if_icmp .ge 99, 3) := by decide +kernel
theorem d_R_findLinks_82 : decode c_R_findLinks 82 = .ok (.aload_n 0, 1) := by decide +kernel
theorem d_R_findLinks_83 : decode c_R_findLinks 83 = .ok (.getfield 13, 3) := by decide +kernel
theorem d_R_findLinks_86 : decode c_R_findLinks 86 = .ok (.iload_n 1, 1) := by decide +kernel
theorem d_R_findLinks_87 : decode c_R_findLinks 87 = .ok (.iaload, 1) := by decide +kernel
theorem d_R_findLinks_88 : decode c_R_findLinks 88 = .ok (.iload_n 1, 1) := by decide +kernel
theorem d_R_findLinks_89 : decode c_R_findLinks 89 = .ok (.if_icmp .ne 83, 3) := by decide +kernel
theorem d_R_findLinks_92 : decode c_R_findLinks 92 = .ok (.aload_n 0, 1) := by decide +kernel
theorem d_R_findLinks_93 : decode c_R_findLinks 93 = .ok (.iload_n 1, 1) := by decide +kernel
theorem d_R_findLinks_94 : decode c_R_findLinks 94 = .ok (.invokevirtual 109, 3) := by decide +kernel
theorem d_R_findLinks_97 : decode c_R_findLinks 97 = .ok (.ifCond .ne 6, 3) := by decide +kernel
theorem d_R_findLinks_100 : decode c_R_findLinks 100 = .ok (.goto 72, 3) := by decide +kernel
theorem d_R_findLinks_103 : decode c_R_findLinks 103 = .ok (.iconst 0, 1) := by decide +kernel
theorem d_R_findLinks_104 : decode c_R_findLinks 104 = .ok (.istore_n 2, 1) := by decide +kernel
theorem d_R_findLinks_105 : decode c_R_findLinks 105 = .ok (.iload_n 2, 1) := by decide +kernel
theorem d_R_findLinks_106 : decode c_R_findLinks 106 = .ok (.sipush 256, 3) := by decide +kernel
theorem d_R_findLinks_109 : decode c_R_findLinks 109 = .ok (.if_icmp .ge 63, 3) := by decide +kernel
theorem d_R_findLinks_112 : decode c_R_findLinks 112 = .ok (.aload_n 0, 1) := by decide +kernel
theorem d_R_findLinks_113 : decode c_R_findLinks 113 = .ok (.getfield 29, 3) := by decide +kernel
theorem d_R_findLinks_116 : decode c_R_findLinks 116 = .ok (.iload_n 2, 1) := by decide +kernel
theorem d_R_findLinks_117 : decode c_R_findLinks 117 = .ok (.aload_n 0, 1) := by decide +kernel
theorem d_R_findLinks_118 : decode c_R_findLinks 118 = .ok (.getfield 29, 3) := by decide +kernel
theorem d_R_findLinks_121 : decode c_R_findLinks 121 = .ok (.iload_n 2, 1) := by decide +kernel
theorem d_R_findLinks_122 : decode c_R_findLinks 122 = .ok (.baload, 1) := by decide +kernel
theorem d_R_findLinks_123 : decode c_R_findLinks 123 = .ok (.ifCond .ne 37, 3) := by decide +kernel
theorem d_R_findLinks_126 : decode c_R_findLinks 126 = .ok (.aload_n 0, 1) := by decide +kernel
theorem d_R_findLinks_127 : decode c_R_findLinks 127 = .ok (.getfield 29, 3) := by decide +kernel
theorem d_R_findLinks_130 : decode c_R_findLinks 130 = .ok (.iload_n 2, 1) := by decide +kernel
theorem d_R_findLinks_131 : decode c_R_findLinks 131 = .ok (.bipush 16, 2) := by decide +kernel
theorem d_R_findLinks_133 : decode c_R_findLinks 133 = .ok (.idiv, 1) := by decide +kernel
theorem d_R_findLinks_134 : decode c_R_findLinks 134 = .ok (.bipush 16, 2) := by decide +kernel
theorem d_R_findLinks_136 : decode c_R_findLinks 136 = .ok (.imul, 1) := by decide +kernel
theorem d_R_findLinks_137 : decode c_R_findLinks 137 = .ok (.iload_n 1, 1) := by decide +kernel
theorem d_R_findLinks_138 : decode c_R_findLinks 138 = .ok (.iadd, 1) := by decide +kernel
theorem d_R_findLinks_139 : decode c_R_findLinks 139 = .ok (.baload, 1) := by decide +kernel
theorem d_R_findLinks_140 : decode c_R_findLinks 140 = .ok (.ifCond .eq 24, 3) := by decide +kernel
theorem d_R_findLinks_143 : decode c_R_findLinks 143 = .ok (.aload_n 0, 1) := by decide +kernel
theorem d_R_findLinks_144 : decode c_R_findLinks 144 = .ok (.getfield 29, 3) := by decide +kernel
theorem d_R_findLinks_147 : decode c_R_findLinks 147 = .ok (.bipush 16, 2) := by decide +kernel
theorem d_R_findLinks_149 : decode c_R_findLinks 149 = .ok (.iload_n 1, 1) := by decide +kernel
theorem d_R_findLinks_150 : decode c_R_findLinks 150 = .ok (.imul, 1) := by decide +kernel
theorem d_R_findLinks_151 : decode c_R_findLinks 151 = .ok (.iload_n 2, 1) := by decide +kernel
theorem d_R_findLinks_152 : decode c_R_findLinks 152 = .ok (.bipush 16, 2) := by decide +kernel
theorem d_R_findLinks_154 : decode c_R_findLinks 154 = .ok (.irem, 1) := by decide +kernel
theorem d_R_findLinks_155 : decode c_R_findLinks 155 = .ok (.iadd, 1) := by decide +kernel
theorem d_R_findLinks_156 : decode c_R_findLinks 156 = .ok (.baload, 1) := by decide +kernel
theorem d_R_findLinks_157 : decode c_R_findLinks 157 = .ok (.ifCond .eq 7, 3) := by decide +kernel
theorem d_R_findLinks_160 : decode c_R_findLinks 160 = .ok (.iconst 1, 1) := by decide +kernel
theorem d_R_findLinks_161 : decode c_R_findLinks 161 = .ok (.goto 4, 3) := by decide +kernel
theorem d_R_findLinks_164 : decode c_R_findLinks 164 = .ok (.iconst 0, 1) := by decide +kernel
theorem d_R_findLinks_165 : decode c_R_findLinks 165 = .ok (.bastore, 1) := by decide +kernel
theorem d_R_findLinks_166 : decode c_R_findLinks 166 = .ok (.iinc 2 1, 3) := by decide +kernel
theorem d_R_findLinks_169 : decode c_R_findLinks 169 = .ok (.goto (-64), 3) := by decide +kernel
theorem d_R_findLinks_172 : decode c_R_findLinks 172 = .ok (.iinc 1 1, 3) := by decide +kernel
theorem d_R_findLinks_175 : decode c_R_findLinks 175 = .ok (.goto (-99), 3) := by decide +kernel
theorem d_R_findLinks_178 : decode c_R_findLinks 178 = .ok (.iconst 0, 1) := by decide +kernel
theorem d_R_findLinks_179 : decode c_R_findLinks 179 = .ok (.istore_n 1, 1) := by decide +kernel
theorem d_R_findLinks_180 : decode c_R_findLinks 180 = .ok (.iload_n 1, 1) := by decide +kernel
theorem d_R_findLinks_181 : decode c_R_findLinks 181 = .ok (.sipush 256, 3) := by decide +kernel
theorem d_R_findLinks_184 : decode c_R_findLinks 184 = .ok (.if_icmp .ge 51, 3) := by decide +kernel
theorem d_R_findLinks_187 : decode c_R_findLinks 187 = .ok (.aload_n 0, 1) := by decide +kernel
theorem d_R_findLinks_188 : decode c_R_findLinks 188 = .ok (.getfield 29, 3) := by decide +kernel
theorem d_R_findLinks_191 : decode c_R_findLinks 191 = .ok (.iload_n 1, 1) := by decide +kernel
theorem d_R_findLinks_192 : decode c_R_findLinks 192 = .ok (.aload_n 0, 1) := by decide +kernel
theorem d_R_findLinks_193 : decode c_R_findLinks 193 = .ok (.getfield 29, 3) := by decide +kernel
theorem d_R_findLinks_196 : decode c_R_findLinks 196 = .ok (.iload_n 1, 1) := by decide +kernel
theorem d_R_findLinks_197 : decode c_R_findLinks 197 = .ok (.baload, 1) := by decide +kernel
theorem d_R_findLinks_198 : decode c_R_findLinks 198 = .ok (.ifCond .eq 29, 3) := by decide +kernel
theorem d_R_findLinks_201 : decode c_R_findLinks 201 = .ok (.aload_n 0, 1) := by decide +kernel
theorem d_R_findLinks_202 : decode c_R_findLinks 202 = .ok (.iload_n 1, 1) := by decide +kernel
theorem d_R_findLinks_203 : decode c_R_findLinks 203 = .ok (.bipush 16, 2) := by decide +kernel
theorem d_R_findLinks_205 : decode c_R_findLinks 205 = .ok (.idiv, 1) := by decide +kernel
theorem d_R_findLinks_206 : decode c_R_findLinks 206 = .ok (.invokevirtual 119, 3) := by decide +kernel
theorem d_R_findLinks_209 : decode c_R_findLinks 209 = .ok (.ifCond .eq 18, 3) := by decide +kernel
theorem d_R_findLinks_212 : decode c_R_findLinks 212 = .ok (.aload_n 0, 1) := by decide +kernel
theorem d_R_findLinks_213 : decode c_R_findLinks 213 = .ok (.iload_n 1, 1) := by decide +kernel
theorem d_R_findLinks_214 : decode c_R_findLinks 214 = .ok (.bipush 16, 2) := by decide +kernel
theorem d_R_findLinks_216 : decode c_R_findLinks 216 = .ok (.irem, 1) := by decide +kernel
theorem d_R_findLinks_217 : decode c_R_findLinks 217 = .ok (.invokevirtual 119, 3) := by decide +kernel
theorem d_R_findLinks_220 : decode c_R_findLinks 220 = .ok (.ifCond .eq 7, 3) := by decide +kernel
theorem d_R_findLinks_223 : decode c_R_findLinks 223 = .ok (.iconst 1, 1) := by decide +kernel
theorem d_R_findLinks_224 : decode c_R_findLinks 224 = .ok (.goto 4, 3) := by decide +kernel
theorem d_R_findLinks_227 : decode c_R_findLinks 227 = .ok (.iconst 0, 1) := by decide +kernel
theorem d_R_findLinks_228 : decode c_R_findLinks 228 = .ok (.bastore, 1) := by decide +kernel
theorem d_R_findLinks_229 : decode c_R_findLinks 229 = .ok (.iinc 1 1, 3) := by decide +kernel
theorem d_R_findLinks_232 : decode c_R_findLinks 232 = .ok (.goto (-52), 3) := by decide +kernel
theorem d_R_findLinks_235 : decode c_R_findLinks 235 = .ok (.return_, 1) := by decide +kernel
theorem d_R_rowOf_0 : decode c_R_rowOf 0 = .ok (.iconst 0, 1) := by decide +kernel
theorem d_R_rowOf_1 : decode c_R_rowOf 1 = .ok (.istore_n 2, 1) := by decide +kernel
theorem d_R_rowOf_2 : decode c_R_rowOf 2 = .ok (.iconst 0, 1) := by decide +kernel
theorem d_R_rowOf_3 : decode c_R_rowOf 3 = .ok (.istore_n 3, 1) := by decide +kernel
theorem d_R_rowOf_4 : decode c_R_rowOf 4 = .ok (.iload_n 3, 1) := by decide +kernel
theorem d_R_rowOf_5 : decode c_R_rowOf 5 = .ok (.bipush 16, 2) := by decide +kernel
theorem d_R_rowOf_7 : decode c_R_rowOf 7 = .ok (.if_icmp .ge 97, 3) := by decide +kernel
theorem d_R_rowOf_10 : decode c_R_rowOf 10 = .ok (.iload_n 3, 1) := by decide +kernel
theorem d_R_rowOf_11 : decode c_R_rowOf 11 = .ok (.iload_n 1, 1) := by decide +kernel
theorem d_R_rowOf_12 : decode c_R_rowOf 12 = .ok (.if_icmp .eq 86, 3) := by decide +kernel
theorem d_R_rowOf_15 : decode c_R_rowOf 15 = .ok (.aload_n 0, 1) := by decide +kernel
theorem d_R_rowOf_16 : decode c_R_rowOf 16 = .ok (.iload_n 3, 1) := by decide +kernel
theorem d_R_rowOf_17 : decode c_R_rowOf 17 = .ok (.invokevirtual 119, 3) := by decide +kernel
theorem d_R_rowOf_20 : decode c_R_rowOf 20 = .ok (.ifCond .ne 6, 3) := by decide +kernel
theorem d_R_rowOf_23 : decode c_R_rowOf 23 = .ok (.goto 75, 3) := by decide +kernel
theorem d_R_rowOf_26 : decode c_R_rowOf 26 = .ok (.aload_n 0, 1) := by decide +kernel
theorem d_R_rowOf_27 : decode c_R_rowOf 27 = .ok (.getfield 29, 3) := by decide +kernel
theorem d_R_rowOf_30 : decode c_R_rowOf 30 = .ok (.bipush 16, 2) := by decide +kernel
theorem d_R_rowOf_32 : decode c_R_rowOf 32 = .ok (.iload_n 3, 1) := by decide +kernel
theorem d_R_rowOf_33 : decode c_R_rowOf 33 = .ok (.imul, 1) := by decide +kernel
theorem d_R_rowOf_34 : decode c_R_rowOf 34 = .ok (.iload_n 1, 1) := by decide +kernel
theorem d_R_rowOf_35 : decode c_R_rowOf 35 = .ok (.iadd, 1) := by decide +kernel
theorem d_R_rowOf_36 : decode c_R_rowOf 36 = .ok (.baload, 1) := by decide +kernel
theorem d_R_rowOf_37 : decode c_R_rowOf 37 = .ok (.ifCond .ne 24, 3) := by decide +kernel
theorem d_R_rowOf_40 : decode c_R_rowOf 40 = .ok (.aload_n 0, 1) := by decide +kernel
theorem d_R_rowOf_41 : decode c_R_rowOf 41 = .ok (.iload_n 3, 1) := by decide +kernel
theorem d_R_rowOf_42 : decode c_R_rowOf 42 = .ok (.invokevirtual 112, 3) := by decide +kernel
theorem d_R_rowOf_45 : decode c_R_rowOf 45 = .ok (.ifCond .lt 20, 3) := by decide +kernel
theorem d_R_rowOf_48 : decode c_R_rowOf 48 = .ok (.aload_n 0, 1) := by decide +kernel
theorem d_R_rowOf_49 : decode c_R_rowOf 49 = .ok (.iload_n 3, 1) := by decide +kernel
theorem d_R_rowOf_50 : decode c_R_rowOf 50 = .ok (.invokevirtual 112, 3) := by decide +kernel
theorem d_R_rowOf_53 : decode c_R_rowOf 53 = .ok (.aload_n 0, 1) := by decide +kernel
theorem d_R_rowOf_54 : decode c_R_rowOf 54 = .ok (.iload_n 1, 1) := by decide +kernel
theorem d_R_rowOf_55 : decode c_R_rowOf 55 = .ok (.invokevirtual 112, 3) := by decide +kernel
theorem d_R_rowOf_58 : decode c_R_rowOf 58 = .ok (.if_icmp .ge 7, 3) := by decide +kernel
theorem d_R_rowOf_61 : decode c_R_rowOf 61 = .ok (.iconst 1, 1) := by decide +kernel
theorem d_R_rowOf_62 : decode c_R_rowOf 62 = .ok (.goto 4, 3) := by decide +kernel
theorem d_R_rowOf_65 : decode c_R_rowOf 65 = .ok (.iconst 0, 1) := by decide +kernel
theorem d_R_rowOf_66 : decode c_R_rowOf 66 = .ok (.istore 4, 2) := by decide +kernel
theorem d_R_rowOf_68 : decode c_R_rowOf 68 = .ok (.iload 4, 2) := by decide +kernel
theorem d_R_rowOf_70 : decode c_R_rowOf 70 = .ok (.ifCond .eq 26, 3) := by decide +kernel
theorem d_R_rowOf_73 : decode c_R_rowOf 73 = .ok (.aload_n 0, 1) := by decide +kernel
theorem d_R_rowOf_74 : decode c_R_rowOf 74 = .ok (.getfield 32, 3) := by decide +kernel
theorem d_R_rowOf_77 : decode c_R_rowOf 77 = .ok (.iload_n 3, 1) := by decide +kernel
theorem d_R_rowOf_78 : decode c_R_rowOf 78 = .ok (.iaload, 1) := by decide +kernel
theorem d_R_rowOf_79 : decode c_R_rowOf 79 = .ok (.iconst 1, 1) := by decide +kernel
theorem d_R_rowOf_80 : decode c_R_rowOf 80 = .ok (.iadd, 1) := by decide +kernel
theorem d_R_rowOf_81 : decode c_R_rowOf 81 = .ok (.iload_n 2, 1) := by decide +kernel
theorem d_R_rowOf_82 : decode c_R_rowOf 82 = .ok (.if_icmp .le 14, 3) := by decide +kernel
theorem d_R_rowOf_85 : decode c_R_rowOf 85 = .ok (.aload_n 0, 1) := by decide +kernel
theorem d_R_rowOf_86 : decode c_R_rowOf 86 = .ok (.getfield 32, 3) := by decide +kernel
theorem d_R_rowOf_89 : decode c_R_rowOf 89 = .ok (.iload_n 3, 1) := by decide +kernel
theorem d_R_rowOf_90 : decode c_R_rowOf 90 = .ok (.iaload, 1) := by decide +kernel
theorem d_R_rowOf_91 : decode c_R_rowOf 91 = .ok (.iconst 1, 1) := by decide +kernel
theorem d_R_rowOf_92 : decode c_R_rowOf 92 = .ok (.iadd, 1) := by decide +kernel
theorem d_R_rowOf_93 : decode c_R_rowOf 93 = .ok (.goto 4, 3) := by decide +kernel
theorem d_R_rowOf_96 : decode c_R_rowOf 96 = .ok (.iload_n 2, 1) := by decide +kernel
theorem d_R_rowOf_97 : decode c_R_rowOf 97 = .ok (.istore_n 2, 1) := by decide +kernel
theorem d_R_rowOf_98 : decode c_R_rowOf 98 = .ok (.iinc 3 1, 3) := by decide +kernel
theorem d_R_rowOf_101 : decode c_R_rowOf 101 = .ok (.goto (-97), 3) := by decide +kernel
theorem d_R_rowOf_104 : decode c_R_rowOf 104 = .ok (.iload_n 2, 1) := by decide +kernel
theorem d_R_rowOf_105 : decode c_R_rowOf 105 = .ok (.ireturn, 1) := by decide +kernel
theorem d_R_findRows_0 : decode c_R_findRows 0 = .ok (.iconst 0, 1) := by decide +kernel
theorem d_R_findRows_1 : decode c_R_findRows 1 = .ok (.istore_n 1, 1) := by decide +kernel
theorem d_R_findRows_2 : decode c_R_findRows 2 = .ok (.iload_n 1, 1) := by decide +kernel
theorem d_R_findRows_3 : decode c_R_findRows 3 = .ok (.bipush 16, 2) := by decide +kernel
theorem d_R_findRows_5 : decode c_R_findRows 5 = .ok (.if_icmp .ge 28, 3) := by decide +kernel
theorem d_R_findRows_8 : decode c_R_findRows 8 = .ok (.aload_n 0, 1) := by decide +kernel
theorem d_R_findRows_9 : decode c_R_findRows 9 = .ok (.getfield 32, 3) := by decide +kernel
theorem d_R_findRows_12 : decode c_R_findRows 12 = .ok (.iload_n 1, 1) := by decide +kernel
theorem d_R_findRows_13 : decode c_R_findRows 13 = .ok (.aload_n 0, 1) := by decide +kernel
theorem d_R_findRows_14 : decode c_R_findRows 14 = .ok (.iload_n 1, 1) := by decide +kernel
theorem d_R_findRows_15 : decode c_R_findRows 15 = .ok (.invokevirtual 119, 3) := by decide +kernel
theorem d_R_findRows_18 : decode c_R_findRows 18 = .ok (.ifCond .eq 7, 3) := by decide +kernel
theorem d_R_findRows_21 : decode c_R_findRows 21 = .ok (.iconst 0, 1) := by decide +kernel
theorem d_R_findRows_22 : decode c_R_findRows 22 = .ok (.goto 4, 3) := by decide +kernel
theorem d_R_findRows_25 : decode c_R_findRows 25 = .ok (.iconst (-1), 1) := by decide +kernel
theorem d_R_findRows_26 : decode c_R_findRows 26 = .ok (.iastore, 1) := by decide +kernel
theorem d_R_findRows_27 : decode c_R_findRows 27 = .ok (.iinc 1 1, 3) := by decide +kernel
theorem d_R_findRows_30 : decode c_R_findRows 30 = .ok (.goto (-28), 3) := by decide +kernel
theorem d_R_findRows_33 : decode c_R_findRows 33 = .ok (.iconst 1, 1) := by decide +kernel
theorem d_R_findRows_34 : decode c_R_findRows 34 = .ok (.istore_n 1, 1) := by decide +kernel
theorem d_R_findRows_35 : decode c_R_findRows 35 = .ok (.iload_n 1, 1) := by decide +kernel
theorem d_R_findRows_36 : decode c_R_findRows 36 = .ok (.ifCond .eq 60, 3) := by decide +kernel
theorem d_R_findRows_39 : decode c_R_findRows 39 = .ok (.iconst 0, 1) := by decide +kernel
theorem d_R_findRows_40 : decode c_R_findRows 40 = .ok (.istore_n 1, 1) := by decide +kernel
theorem d_R_findRows_41 : decode c_R_findRows 41 = .ok (.iconst 0, 1) := by decide +kernel
theorem d_R_findRows_42 : decode c_R_findRows 42 = .ok (.istore_n 2, 1) := by decide +kernel
theorem d_R_findRows_43 : decode c_R_findRows 43 = .ok (.iload_n 2, 1) := by decide +kernel
theorem d_R_findRows_44 : decode c_R_findRows 44 = .ok (.bipush 16, 2) := by decide +kernel
theorem d_R_findRows_46 : decode c_R_findRows 46 = .ok (.if_icmp .ge 47, 3) := by decide +kernel
theorem d_R_findRows_49 : decode c_R_findRows 49 = .ok (.aload_n 0, 1) := by decide +kernel
theorem d_R_findRows_50 : decode c_R_findRows 50 = .ok (.iload_n 2, 1) := by decide +kernel
theorem d_R_findRows_51 : decode c_R_findRows 51 = .ok (.invokevirtual 119, 3) := by decide +kernel
theorem d_R_findRows_54 : decode c_R_findRows 54 = .ok (.ifCond .eq 33, 3) := by decide +kernel
theorem d_R_findRows_57 : decode c_R_findRows 57 = .ok (.aload_n 0, 1) := by decide +kernel
theorem d_R_findRows_58 : decode c_R_findRows 58 = .ok (.iload_n 2, 1) := by decide +kernel
theorem d_R_findRows_59 : decode c_R_findRows 59 = .ok (.invokevirtual 122, 3) := by decide +kernel
theorem d_R_findRows_62 : decode c_R_findRows 62 = .ok (.aload_n 0, 1) := by decide +kernel
theorem d_R_findRows_63 : decode c_R_findRows 63 = .ok (.getfield 32, 3) := by decide +kernel
theorem d_R_findRows_66 : decode c_R_findRows 66 = .ok (.iload_n 2, 1) := by decide +kernel
theorem d_R_findRows_67 : decode c_R_findRows 67 = .ok (.iaload, 1) := by decide +kernel
theorem d_R_findRows_68 : decode c_R_findRows 68 = .ok (.if_icmp .ne 6, 3) := by decide +kernel
theorem d_R_findRows_71 : decode c_R_findRows 71 = .ok (.goto 16, 3) := by decide +kernel
theorem d_R_findRows_74 : decode c_R_findRows 74 = .ok (.aload_n 0, 1) := by decide +kernel
theorem d_R_findRows_75 : decode c_R_findRows 75 = .ok (.getfield 32, 3) := by decide +kernel
theorem d_R_findRows_78 : decode c_R_findRows 78 = .ok (.iload_n 2, 1) := by decide +kernel
theorem d_R_findRows_79 : decode c_R_findRows 79 = .ok (.aload_n 0, 1) := by decide +kernel
theorem d_R_findRows_80 : decode c_R_findRows 80 = .ok (.iload_n 2, 1) := by decide +kernel
theorem d_R_findRows_81 : decode c_R_findRows 81 = .ok (.invokevirtual 122, 3) := by decide +kernel
theorem d_R_findRows_84 : decode c_R_findRows 84 = .ok (.iastore, 1) := by decide +kernel
theorem d_R_findRows_85 : decode c_R_findRows 85 = .ok (.iconst 1, 1) := by decide +kernel
theorem d_R_findRows_86 : decode c_R_findRows 86 = .ok (.istore_n 1, 1) := by decide +kernel
theorem d_R_findRows_87 : decode c_R_findRows 87 = .ok (.iinc 2 1, 3) := by decide +kernel
theorem d_R_findRows_90 : decode c_R_findRows 90 = .ok (.goto (-47), 3) := by decide +kernel
theorem d_R_findRows_93 : decode c_R_findRows 93 = .ok (.goto (-58), 3) := by decide +kernel
theorem d_R_findRows_96 : decode c_R_findRows 96 = .ok (.return_, 1) := by decide +kernel
theorem d_R_bendsOf_0 : decode c_R_bendsOf 0 = .ok (.aload_n 0, 1) := by decide +kernel
theorem d_R_bendsOf_1 : decode c_R_bendsOf 1 = .ok (.getfield 32, 3) := by decide +kernel
theorem d_R_bendsOf_4 : decode c_R_bendsOf 4 = .ok (.aload_n 0, 1) := by decide +kernel
theorem d_R_bendsOf_5 : decode c_R_bendsOf 5 = .ok (.getfield 50, 3) := by decide +kernel
theorem d_R_bendsOf_8 : decode c_R_bendsOf 8 = .ok (.iload_n 1, 1) := by decide +kernel
theorem d_R_bendsOf_9 : decode c_R_bendsOf 9 = .ok (.iaload, 1) := by decide +kernel
theorem d_R_bendsOf_10 : decode c_R_bendsOf 10 = .ok (.iaload, 1) := by decide +kernel
theorem d_R_bendsOf_11 : decode c_R_bendsOf 11 = .ok (.aload_n 0, 1) := by decide +kernel
theorem d_R_bendsOf_12 : decode c_R_bendsOf 12 = .ok (.getfield 32, 3) := by decide +kernel
theorem d_R_bendsOf_15 : decode c_R_bendsOf 15 = .ok (.aload_n 0, 1) := by decide +kernel
theorem d_R_bendsOf_16 : decode c_R_bendsOf 16 = .ok (.getfield 47, 3) := by decide +kernel
theorem d_R_bendsOf_19 : decode c_R_bendsOf 19 = .ok (.iload_n 1, 1) := by decide +kernel
theorem d_R_bendsOf_20 : decode c_R_bendsOf 20 = .ok (.iaload, 1) := by decide +kernel
theorem d_R_bendsOf_21 : decode c_R_bendsOf 21 = .ok (.iaload, 1) := by decide +kernel
theorem d_R_bendsOf_22 : decode c_R_bendsOf 22 = .ok (.isub, 1) := by decide +kernel
theorem d_R_bendsOf_23 : decode c_R_bendsOf 23 = .ok (.iconst 1, 1) := by decide +kernel
theorem d_R_bendsOf_24 : decode c_R_bendsOf 24 = .ok (.isub, 1) := by decide +kernel
theorem d_R_bendsOf_25 : decode c_R_bendsOf 25 = .ok (.ireturn, 1) := by decide +kernel
theorem d_R_addPiece_0 : decode c_R_addPiece 0 = .ok (.aload_n 0, 1) := by decide +kernel
theorem d_R_addPiece_1 : decode c_R_addPiece 1 = .ok (.getfield 41, 3) := by decide +kernel
theorem d_R_addPiece_4 : decode c_R_addPiece 4 = .ok (.aload_n 0, 1) := by decide +kernel
theorem d_R_addPiece_5 : decode c_R_addPiece 5 = .ok (.getfield 125, 3) := by decide +kernel
theorem d_R_addPiece_8 : decode c_R_addPiece 8 = .ok (.iload_n 1, 1) := by decide +kernel
theorem d_R_addPiece_9 : decode c_R_addPiece 9 = .ok (.iastore, 1) := by decide +kernel
theorem d_R_addPiece_10 : decode c_R_addPiece 10 = .ok (.aload_n 0, 1) := by decide +kernel
theorem d_R_addPiece_11 : decode c_R_addPiece 11 = .ok (.getfield 44, 3) := by decide +kernel
theorem d_R_addPiece_14 : decode c_R_addPiece 14 = .ok (.aload_n 0, 1) := by decide +kernel
theorem d_R_addPiece_15 : decode c_R_addPiece 15 = .ok (.getfield 125, 3) := by decide +kernel
theorem d_R_addPiece_18 : decode c_R_addPiece 18 = .ok (.iload_n 2, 1) := by decide +kernel
theorem d_R_addPiece_19 : decode c_R_addPiece 19 = .ok (.iastore, 1) := by decide +kernel
theorem d_R_addPiece_20 : decode c_R_addPiece 20 = .ok (.aload_n 0, 1) := by decide +kernel
theorem d_R_addPiece_21 : decode c_R_addPiece 21 = .ok (.dup, 1) := by decide +kernel
theorem d_R_addPiece_22 : decode c_R_addPiece 22 = .ok (.getfield 125, 3) := by decide +kernel
theorem d_R_addPiece_25 : decode c_R_addPiece 25 = .ok (.iconst 1, 1) := by decide +kernel
theorem d_R_addPiece_26 : decode c_R_addPiece 26 = .ok (.iadd, 1) := by decide +kernel
theorem d_R_addPiece_27 : decode c_R_addPiece 27 = .ok (.putfield 125, 3) := by decide +kernel
theorem d_R_addPiece_30 : decode c_R_addPiece 30 = .ok (.return_, 1) := by decide +kernel
theorem d_R_findBends_0 : decode c_R_findBends 0 = .ok (.aload_n 0, 1) := by decide +kernel
theorem d_R_findBends_1 : decode c_R_findBends 1 = .ok (.iconst 0, 1) := by decide +kernel
theorem d_R_findBends_2 : decode c_R_findBends 2 = .ok (.putfield 128, 3) := by decide +kernel
theorem d_R_findBends_5 : decode c_R_findBends 5 = .ok (.aload_n 0, 1) := by decide +kernel
theorem d_R_findBends_6 : decode c_R_findBends 6 = .ok (.iconst 0, 1) := by decide +kernel
theorem d_R_findBends_7 : decode c_R_findBends 7 = .ok (.putfield 131, 3) := by decide +kernel
theorem d_R_findBends_10 : decode c_R_findBends 10 = .ok (.aload_n 0, 1) := by decide +kernel
theorem d_R_findBends_11 : decode c_R_findBends 11 = .ok (.iconst 0, 1) := by decide +kernel
theorem d_R_findBends_12 : decode c_R_findBends 12 = .ok (.putfield 125, 3) := by decide +kernel
theorem d_R_findBends_15 : decode c_R_findBends 15 = .ok (.iconst 0, 1) := by decide +kernel
theorem d_R_findBends_16 : decode c_R_findBends 16 = .ok (.istore_n 1, 1) := by decide +kernel
theorem d_R_findBends_17 : decode c_R_findBends 17 = .ok (.iload_n 1, 1) := by decide +kernel
theorem d_R_findBends_18 : decode c_R_findBends 18 = .ok (.sipush 256, 3) := by decide +kernel
theorem d_R_findBends_21 : decode c_R_findBends 21 = .ok (.if_icmp .ge 90, 3) := by decide +kernel
theorem d_R_findBends_24 : decode c_R_findBends 24 = .ok (.aload_n 0, 1) := by decide +kernel
theorem d_R_findBends_25 : decode c_R_findBends 25 = .ok (.getfield 29, 3) := by decide +kernel
theorem d_R_findBends_28 : decode c_R_findBends 28 = .ok (.iload_n 1, 1) := by decide +kernel
theorem d_R_findBends_29 : decode c_R_findBends 29 = .ok (.baload, 1) := by decide +kernel
theorem d_R_findBends_30 : decode c_R_findBends 30 = .ok (.ifCond .ne 6, 3) := by decide +kernel
theorem d_R_findBends_33 : decode c_R_findBends 33 = .ok (.goto 72, 3) := by decide +kernel
theorem d_R_findBends_36 : decode c_R_findBends 36 = .ok (.aload_n 0, 1) := by decide +kernel
theorem d_R_findBends_37 : decode c_R_findBends 37 = .ok (.getfield 47, 3) := by decide +kernel
theorem d_R_findBends_40 : decode c_R_findBends 40 = .ok (.aload_n 0, 1) := by decide +kernel
theorem d_R_findBends_41 : decode c_R_findBends 41 = .ok (.getfield 128, 3) := by decide +kernel
theorem d_R_findBends_44 : decode c_R_findBends 44 = .ok (.iload_n 1, 1) := by decide +kernel
theorem d_R_findBends_45 : decode c_R_findBends 45 = .ok (.bipush 16, 2) := by decide +kernel
theorem d_R_findBends_47 : decode c_R_findBends 47 = .ok (.idiv, 1) := by decide +kernel
theorem d_R_findBends_48 : decode c_R_findBends 48 = .ok (.iastore, 1) := by decide +kernel
theorem d_R_findBends_49 : decode c_R_findBends 49 = .ok (.aload_n 0, 1) := by decide +kernel
theorem d_R_findBends_50 : decode c_R_findBends 50 = .ok (.getfield 50, 3) := by decide +kernel
theorem d_R_findBends_53 : decode c_R_findBends 53 = .ok (.aload_n 0, 1) := by decide +kernel
theorem d_R_findBends_54 : decode c_R_findBends 54 = .ok (.getfield 128, 3) := by decide +kernel
theorem d_R_findBends_57 : decode c_R_findBends 57 = .ok (.iload_n 1, 1) := by decide +kernel
theorem d_R_findBends_58 : decode c_R_findBends 58 = .ok (.bipush 16, 2) := by decide +kernel
theorem d_R_findBends_60 : decode c_R_findBends 60 = .ok (.irem, 1) := by decide +kernel
theorem d_R_findBends_61 : decode c_R_findBends 61 = .ok (.iastore, 1) := by decide +kernel
theorem d_R_findBends_62 : decode c_R_findBends 62 = .ok (.aload_n 0, 1) := by decide +kernel
theorem d_R_findBends_63 : decode c_R_findBends 63 = .ok (.getfield 53, 3) := by decide +kernel
theorem d_R_findBends_66 : decode c_R_findBends 66 = .ok (.aload_n 0, 1) := by decide +kernel
theorem d_R_findBends_67 : decode c_R_findBends 67 = .ok (.getfield 128, 3) := by decide +kernel
theorem d_R_findBends_70 : decode c_R_findBends 70 = .ok (.bipush 16, 2) := by decide +kernel
theorem d_R_findBends_72 : decode c_R_findBends 72 = .ok (.aload_n 0, 1) := by decide +kernel
theorem d_R_findBends_73 : decode c_R_findBends 73 = .ok (.getfield 131, 3) := by decide +kernel
theorem d_R_findBends_76 : decode c_R_findBends 76 = .ok (.iadd, 1) := by decide +kernel
theorem d_R_findBends_77 : decode c_R_findBends 77 = .ok (.iastore, 1) := by decide +kernel
theorem d_R_findBends_78 : decode c_R_findBends 78 = .ok (.aload_n 0, 1) := by decide +kernel
theorem d_R_findBends_79 : decode c_R_findBends 79 = .ok (.dup, 1) := by decide +kernel
theorem d_R_findBends_80 : decode c_R_findBends 80 = .ok (.getfield 131, 3) := by decide +kernel
theorem d_R_findBends_83 : decode c_R_findBends 83 = .ok (.aload_n 0, 1) := by decide +kernel
theorem d_R_findBends_84 : decode c_R_findBends 84 = .ok (.aload_n 0, 1) := by decide +kernel
theorem d_R_findBends_85 : decode c_R_findBends 85 = .ok (.getfield 128, 3) := by decide +kernel
theorem d_R_findBends_88 : decode c_R_findBends 88 = .ok (.invokevirtual 134, 3) := by decide +kernel
theorem d_R_findBends_91 : decode c_R_findBends 91 = .ok (.iadd, 1) := by decide +kernel
theorem d_R_findBends_92 : decode c_R_findBends 92 = .ok (.putfield 131, 3) := by decide +kernel
theorem d_R_findBends_95 : decode c_R_findBends 95 = .ok (.aload_n 0, 1) := by decide +kernel
theorem d_R_findBends_96 : decode c_R_findBends 96 = .ok (.dup, 1) := by decide +kernel
theorem d_R_findBends_97 : decode c_R_findBends 97 = .ok (.getfield 128, 3) := by decide +kernel
theorem d_R_findBends_100 : decode c_R_findBends 100 = .ok (.iconst 1, 1) := by decide +kernel
theorem d_R_findBends_101 : decode c_R_findBends 101 = .ok (.iadd, 1) := by decide +kernel
theorem d_R_findBends_102 : decode c_R_findBends 102 = .ok (.putfield 128, 3) := by decide +kernel
theorem d_R_findBends_105 : decode c_R_findBends 105 = .ok (.iinc 1 1, 3) := by decide +kernel
theorem d_R_findBends_108 : decode c_R_findBends 108 = .ok (.goto (-91), 3) := by decide +kernel
theorem d_R_findBends_111 : decode c_R_findBends 111 = .ok (.aload_n 0, 1) := by decide +kernel
theorem d_R_findBends_112 : decode c_R_findBends 112 = .ok (.getfield 131, 3) := by decide +kernel
theorem d_R_findBends_115 : decode c_R_findBends 115 = .ok (.sipush 150, 3) := by decide +kernel
theorem d_R_findBends_118 : decode c_R_findBends 118 = .ok (.if_icmp .le 5, 3) := by decide +kernel
theorem d_R_findBends_121 : decode c_R_findBends 121 = .ok (.iconst 0, 1) := by decide +kernel
theorem d_R_findBends_122 : decode c_R_findBends 122 = .ok (.ireturn, 1) := by decide +kernel
theorem d_R_findBends_123 : decode c_R_findBends 123 = .ok (.iconst 0, 1) := by decide +kernel
theorem d_R_findBends_124 : decode c_R_findBends 124 = .ok (.istore_n 1, 1) := by decide +kernel
theorem d_R_findBends_125 : decode c_R_findBends 125 = .ok (.iload_n 1, 1) := by decide +kernel
theorem d_R_findBends_126 : decode c_R_findBends 126 = .ok (.aload_n 0, 1) := by decide +kernel
theorem d_R_findBends_127 : decode c_R_findBends 127 = .ok (.getfield 128, 3) := by decide +kernel
theorem d_R_findBends_130 : decode c_R_findBends 130 = .ok (.if_icmp .ge 94, 3) := by decide +kernel
theorem d_R_findBends_133 : decode c_R_findBends 133 = .ok (.aload_n 0, 1) := by decide +kernel
theorem d_R_findBends_134 : decode c_R_findBends 134 = .ok (.getfield 47, 3) := by decide +kernel
theorem d_R_findBends_137 : decode c_R_findBends 137 = .ok (.iload_n 1, 1) := by decide +kernel
theorem d_R_findBends_138 : decode c_R_findBends 138 = .ok (.iaload, 1) := by decide +kernel
theorem d_R_findBends_139 : decode c_R_findBends 139 = .ok (.istore_n 2, 1) := by decide +kernel
theorem d_R_findBends_140 : decode c_R_findBends 140 = .ok (.iconst 0, 1) := by decide +kernel
theorem d_R_findBends_141 : decode c_R_findBends 141 = .ok (.istore_n 3, 1) := by decide +kernel
theorem d_R_findBends_142 : decode c_R_findBends 142 = .ok (.iload_n 3, 1) := by decide +kernel
theorem d_R_findBends_143 : decode c_R_findBends 143 = .ok (.aload_n 0, 1) := by decide +kernel
theorem d_R_findBends_144 : decode c_R_findBends 144 = .ok (.iload_n 1, 1) := by decide +kernel
theorem d_R_findBends_145 : decode c_R_findBends 145 = .ok (.invokevirtual 134, 3) := by decide +kernel
theorem d_R_findBends_148 : decode c_R_findBends 148 = .ok (.if_icmp .ge 59, 3) := by decide +kernel
theorem d_R_findBends_151 : decode c_R_findBends 151 = .ok (.aload_n 0, 1) := by decide +kernel
theorem d_R_findBends_152 : decode c_R_findBends 152 = .ok (.getfield 32, 3) := by decide +kernel
theorem d_R_findBends_155 : decode c_R_findBends 155 = .ok (.aload_n 0, 1) := by decide +kernel
theorem d_R_findBends_156 : decode c_R_findBends 156 = .ok (.getfield 53, 3) := by decide +kernel
theorem d_R_findBends_159 : decode c_R_findBends 159 = .ok (.iload_n 1, 1) := by decide +kernel
theorem d_R_findBends_160 : decode c_R_findBends 160 = .ok (.iaload, 1) := by decide +kernel
theorem d_R_findBends_161 : decode c_R_findBends 161 = .ok (.iload_n 3, 1) := by decide +kernel
theorem d_R_findBends_162 : decode c_R_findBends 162 = .ok (.iadd, 1) := by decide +kernel
theorem d_R_findBends_163 : decode c_R_findBends 163 = .ok (.aload_n 0, 1) := by decide +kernel
theorem d_R_findBends_164 : decode c_R_findBends 164 = .ok (.getfield 32, 3) := by decide +kernel
theorem d_R_findBends_167 : decode c_R_findBends 167 = .ok (.aload_n 0, 1) := by decide +kernel
theorem d_R_findBends_168 : decode c_R_findBends 168 = .ok (.getfield 47, 3) := by decide +kernel
theorem d_R_findBends_171 : decode c_R_findBends 171 = .ok (.iload_n 1, 1) := by decide +kernel
theorem d_R_findBends_172 : decode c_R_findBends 172 = .ok (.iaload, 1) := by decide +kernel
theorem d_R_findBends_173 : decode c_R_findBends 173 = .ok (.iaload, 1) := by decide +kernel
theorem d_R_findBends_174 : decode c_R_findBends 174 = .ok (.iconst 1, 1) := by decide +kernel
theorem d_R_findBends_175 : decode c_R_findBends 175 = .ok (.iadd, 1) := by decide +kernel
theorem d_R_findBends_176 : decode c_R_findBends 176 = .ok (.iload_n 3, 1) := by decide +kernel
theorem d_R_findBends_177 : decode c_R_findBends 177 = .ok (.iadd, 1) := by decide +kernel
theorem d_R_findBends_178 : decode c_R_findBends 178 = .ok (.iastore, 1) := by decide +kernel
theorem d_R_findBends_179 : decode c_R_findBends 179 = .ok (.aload_n 0, 1) := by decide +kernel
theorem d_R_findBends_180 : decode c_R_findBends 180 = .ok (.iload_n 2, 1) := by decide +kernel
theorem d_R_findBends_181 : decode c_R_findBends 181 = .ok (.aload_n 0, 1) := by decide +kernel
theorem d_R_findBends_182 : decode c_R_findBends 182 = .ok (.getfield 53, 3) := by decide +kernel
theorem d_R_findBends_185 : decode c_R_findBends 185 = .ok (.iload_n 1, 1) := by decide +kernel
theorem d_R_findBends_186 : decode c_R_findBends 186 = .ok (.iaload, 1) := by decide +kernel
theorem d_R_findBends_187 : decode c_R_findBends 187 = .ok (.iload_n 3, 1) := by decide +kernel
theorem d_R_findBends_188 : decode c_R_findBends 188 = .ok (.iadd, 1) := by decide +kernel
theorem d_R_findBends_189 : decode c_R_findBends 189 = .ok (.invokevirtual 137, 3) := by decide +kernel
theorem d_R_findBends_192 : decode c_R_findBends 192 = .ok (.aload_n 0, 1) := by decide +kernel
theorem d_R_findBends_193 : decode c_R_findBends 193 = .ok (.getfield 53, 3) := by decide +kernel
theorem d_R_findBends_196 : decode c_R_findBends 196 = .ok (.iload_n 1, 1) := by decide +kernel
theorem d_R_findBends_197 : decode c_R_findBends 197 = .ok (.iaload, 1) := by decide +kernel
theorem d_R_findBends_198 : decode c_R_findBends 198 = .ok (.iload_n 3, 1) := by decide +kernel
theorem d_R_findBends_199 : decode c_R_findBends 199 = .ok (.iadd, 1) := by decide +kernel
theorem d_R_findBends_200 : decode c_R_findBends 200 = .ok (.istore_n 2, 1) := by decide +kernel
theorem d_R_findBends_201 : decode c_R_findBends 201 = .ok (.iinc 3 1, 3) := by decide +kernel
theorem d_R_findBends_204 : decode c_R_findBends 204 = .ok (.goto (-62), 3) := by decide +kernel
theorem d_R_findBends_207 : decode c_R_findBends 207 = .ok (.aload_n 0, 1) := by decide +kernel
theorem d_R_findBends_208 : decode c_R_findBends 208 = .ok (.iload_n 2, 1) := by decide +kernel
theorem d_R_findBends_209 : decode c_R_findBends 209 = .ok (.aload_n 0, 1) := by decide +kernel
theorem d_R_findBends_210 : decode c_R_findBends 210 = .ok (.getfield 50, 3) := by decide +kernel
theorem d_R_findBends_213 : decode c_R_findBends 213 = .ok (.iload_n 1, 1) := by decide +kernel
theorem d_R_findBends_214 : decode c_R_findBends 214 = .ok (.iaload, 1) := by decide +kernel
theorem d_R_findBends_215 : decode c_R_findBends 215 = .ok (.invokevirtual 137, 3) := by decide +kernel
theorem d_R_findBends_218 : decode c_R_findBends 218 = .ok (.iinc 1 1, 3) := by decide +kernel
theorem d_R_findBends_221 : decode c_R_findBends 221 = .ok (.goto (-96), 3) := by decide +kernel
theorem d_R_findBends_224 : decode c_R_findBends 224 = .ok (.iconst 1, 1) := by decide +kernel
theorem d_R_findBends_225 : decode c_R_findBends 225 = .ok (.ireturn, 1) := by decide +kernel
theorem d_R_lastRow_0 : decode c_R_lastRow 0 = .ok (.iconst (-1), 1) := by decide +kernel
theorem d_R_lastRow_1 : decode c_R_lastRow 1 = .ok (.istore_n 1, 1) := by decide +kernel
theorem d_R_lastRow_2 : decode c_R_lastRow 2 = .ok (.iconst 0, 1) := by decide +kernel
theorem d_R_lastRow_3 : decode c_R_lastRow 3 = .ok (.istore_n 2, 1) := by decide +kernel
theorem d_R_lastRow_4 : decode c_R_lastRow 4 = .ok (.iload_n 2, 1) := by decide +kernel
theorem d_R_lastRow_5 : decode c_R_lastRow 5 = .ok (.bipush 16, 2) := by decide +kernel
theorem d_R_lastRow_7 : decode c_R_lastRow 7 = .ok (.if_icmp .ge 38, 3) := by decide +kernel
theorem d_R_lastRow_10 : decode c_R_lastRow 10 = .ok (.aload_n 0, 1) := by decide +kernel
theorem d_R_lastRow_11 : decode c_R_lastRow 11 = .ok (.iload_n 2, 1) := by decide +kernel
theorem d_R_lastRow_12 : decode c_R_lastRow 12 = .ok (.invokevirtual 119, 3) := by decide +kernel
theorem d_R_lastRow_15 : decode c_R_lastRow 15 = .ok (.ifCond .eq 22, 3) := by decide +kernel
theorem d_R_lastRow_18 : decode c_R_lastRow 18 = .ok (.aload_n 0, 1) := by decide +kernel
theorem d_R_lastRow_19 : decode c_R_lastRow 19 = .ok (.getfield 32, 3) := by decide +kernel
theorem d_R_lastRow_22 : decode c_R_lastRow 22 = .ok (.iload_n 2, 1) := by decide +kernel
theorem d_R_lastRow_23 : decode c_R_lastRow 23 = .ok (.iaload, 1) := by decide +kernel
theorem d_R_lastRow_24 : decode c_R_lastRow 24 = .ok (.iload_n 1, 1) := by decide +kernel
theorem d_R_lastRow_25 : decode c_R_lastRow 25 = .ok (.if_icmp .le 12, 3) := by decide +kernel
theorem d_R_lastRow_28 : decode c_R_lastRow 28 = .ok (.aload_n 0, 1) := by decide +kernel
theorem d_R_lastRow_29 : decode c_R_lastRow 29 = .ok (.getfield 32, 3) := by decide +kernel
theorem d_R_lastRow_32 : decode c_R_lastRow 32 = .ok (.iload_n 2, 1) := by decide +kernel
theorem d_R_lastRow_33 : decode c_R_lastRow 33 = .ok (.iaload, 1) := by decide +kernel
theorem d_R_lastRow_34 : decode c_R_lastRow 34 = .ok (.goto 4, 3) := by decide +kernel
theorem d_R_lastRow_37 : decode c_R_lastRow 37 = .ok (.iload_n 1, 1) := by decide +kernel
theorem d_R_lastRow_38 : decode c_R_lastRow 38 = .ok (.istore_n 1, 1) := by decide +kernel
theorem d_R_lastRow_39 : decode c_R_lastRow 39 = .ok (.iinc 2 1, 3) := by decide +kernel
theorem d_R_lastRow_42 : decode c_R_lastRow 42 = .ok (.goto (-38), 3) := by decide +kernel
theorem d_R_lastRow_45 : decode c_R_lastRow 45 = .ok (.iload_n 1, 1) := by decide +kernel
theorem d_R_lastRow_46 : decode c_R_lastRow 46 = .ok (.ireturn, 1) := by decide +kernel
theorem d_R_placeAll_0 : decode c_R_placeAll 0 = .ok (.iconst 0, 1) := by decide +kernel
theorem d_R_placeAll_1 : decode c_R_placeAll 1 = .ok (.istore_n 1, 1) := by decide +kernel
theorem d_R_placeAll_2 : decode c_R_placeAll 2 = .ok (.iload_n 1, 1) := by decide +kernel
theorem d_R_placeAll_3 : decode c_R_placeAll 3 = .ok (.bipush 16, 2) := by decide +kernel
theorem d_R_placeAll_5 : decode c_R_placeAll 5 = .ok (.aload_n 0, 1) := by decide +kernel
theorem d_R_placeAll_6 : decode c_R_placeAll 6 = .ok (.getfield 131, 3) := by decide +kernel
theorem d_R_placeAll_9 : decode c_R_placeAll 9 = .ok (.iadd, 1) := by decide +kernel
theorem d_R_placeAll_10 : decode c_R_placeAll 10 = .ok (.if_icmp .ge 58, 3) := by decide +kernel
theorem d_R_placeAll_13 : decode c_R_placeAll 13 = .ok (.aload_n 0, 1) := by decide +kernel
theorem d_R_placeAll_14 : decode c_R_placeAll 14 = .ok (.getfield 35, 3) := by decide +kernel
theorem d_R_placeAll_17 : decode c_R_placeAll 17 = .ok (.iload_n 1, 1) := by decide +kernel
theorem d_R_placeAll_18 : decode c_R_placeAll 18 = .ok (.iconst 0, 1) := by decide +kernel
theorem d_R_placeAll_19 : decode c_R_placeAll 19 = .ok (.iastore, 1) := by decide +kernel
theorem d_R_placeAll_20 : decode c_R_placeAll 20 = .ok (.iconst 0, 1) := by decide +kernel
theorem d_R_placeAll_21 : decode c_R_placeAll 21 = .ok (.istore_n 2, 1) := by decide +kernel
theorem d_R_placeAll_22 : decode c_R_placeAll 22 = .ok (.iload_n 2, 1) := by decide +kernel
theorem d_R_placeAll_23 : decode c_R_placeAll 23 = .ok (.iload_n 1, 1) := by decide +kernel
theorem d_R_placeAll_24 : decode c_R_placeAll 24 = .ok (.if_icmp .ge 38, 3) := by decide +kernel
theorem d_R_placeAll_27 : decode c_R_placeAll 27 = .ok (.aload_n 0, 1) := by decide +kernel
theorem d_R_placeAll_28 : decode c_R_placeAll 28 = .ok (.getfield 35, 3) := by decide +kernel
theorem d_R_placeAll_31 : decode c_R_placeAll 31 = .ok (.iload_n 1, 1) := by decide +kernel
theorem d_R_placeAll_32 : decode c_R_placeAll 32 = .ok (.dup2, 1) := by decide +kernel
theorem d_R_placeAll_33 : decode c_R_placeAll 33 = .ok (.iaload, 1) := by decide +kernel
theorem d_R_placeAll_34 : decode c_R_placeAll 34 = .ok (.aload_n 0, 1) := by decide +kernel
theorem d_R_placeAll_35 : decode c_R_placeAll 35 = .ok (.getfield 32, 3) := by decide +kernel
theorem d_R_placeAll_38 : decode c_R_placeAll 38 = .ok (.iload_n 2, 1) := by decide +kernel
theorem d_R_placeAll_39 : decode c_R_placeAll 39 = .ok (.iaload, 1) := by decide +kernel
theorem d_R_placeAll_40 : decode c_R_placeAll 40 = .ok (.aload_n 0, 1) := by decide +kernel
theorem d_R_placeAll_41 : decode c_R_placeAll 41 = .ok (.getfield 32, 3) := by decide +kernel
theorem d_R_placeAll_44 : decode c_R_placeAll 44 = .ok (.iload_n 1, 1) := by decide +kernel
theorem d_R_placeAll_45 : decode c_R_placeAll 45 = .ok (.iaload, 1) := by decide +kernel
theorem d_R_placeAll_46 : decode c_R_placeAll 46 = .ok (.if_icmp .ne 7, 3) := by decide +kernel
theorem d_R_placeAll_49 : decode c_R_placeAll 49 = .ok (.iconst 1, 1) := by decide +kernel
theorem d_R_placeAll_50 : decode c_R_placeAll 50 = .ok (.goto 4, 3) := by decide +kernel
theorem d_R_placeAll_53 : decode c_R_placeAll 53 = .ok (.iconst 0, 1) := by decide +kernel
theorem d_R_placeAll_54 : decode c_R_placeAll 54 = .ok (.iadd, 1) := by decide +kernel
theorem d_R_placeAll_55 : decode c_R_placeAll 55 = .ok (.iastore, 1) := by decide +kernel
theorem d_R_placeAll_56 : decode c_R_placeAll 56 = .ok (.iinc 2 1, 3) := by decide +kernel
theorem d_R_placeAll_59 : decode c_R_placeAll 59 = .ok (.goto (-37), 3) := by decide +kernel
theorem d_R_placeAll_62 : decode c_R_placeAll 62 = .ok (.iinc 1 1, 3) := by decide +kernel
theorem d_R_placeAll_65 : decode c_R_placeAll 65 = .ok (.goto (-63), 3) := by decide +kernel
theorem d_R_placeAll_68 : decode c_R_placeAll 68 = .ok (.return_, 1) := by decide +kernel
theorem d_R_crossedNow_0 : decode c_R_crossedNow 0 = .ok (.iconst 0, 1) := by decide +kernel
theorem d_R_crossedNow_1 : decode c_R_crossedNow 1 = .ok (.istore_n 1, 1) := by decide +kernel
theorem d_R_crossedNow_2 : decode c_R_crossedNow 2 = .ok (.iconst 0, 1) := by decide +kernel
theorem d_R_crossedNow_3 : decode c_R_crossedNow 3 = .ok (.istore_n 2, 1) := by decide +kernel
theorem d_R_crossedNow_4 : decode c_R_crossedNow 4 = .ok (.iload_n 2, 1) := by decide +kernel
theorem d_R_crossedNow_5 : decode c_R_crossedNow 5 = .ok (.aload_n 0, 1) := by decide +kernel
theorem d_R_crossedNow_6 : decode c_R_crossedNow 6 = .ok (.getfield 125, 3) := by decide +kernel
theorem d_R_crossedNow_9 : decode c_R_crossedNow 9 = .ok (.if_icmp .ge 128, 3) := by decide +kernel
theorem d_R_crossedNow_12 : decode c_R_crossedNow 12 = .ok (.iconst 0, 1) := by decide +kernel
theorem d_R_crossedNow_13 : decode c_R_crossedNow 13 = .ok (.istore_n 3, 1) := by decide +kernel
theorem d_R_crossedNow_14 : decode c_R_crossedNow 14 = .ok (.iload_n 3, 1) := by decide +kernel
theorem d_R_crossedNow_15 : decode c_R_crossedNow 15 = .ok (.iload_n 2, 1) := by decide +kernel
theorem d_R_crossedNow_16 : decode c_R_crossedNow 16 = .ok (.if_icmp .ge 115, 3) := by decide +kernel
theorem d_R_crossedNow_19 : decode c_R_crossedNow 19 = .ok (.aload_n 0, 1) := by decide +kernel
theorem d_R_crossedNow_20 : decode c_R_crossedNow 20 = .ok (.getfield 32, 3) := by decide +kernel
theorem d_R_crossedNow_23 : decode c_R_crossedNow 23 = .ok (.aload_n 0, 1) := by decide +kernel
theorem d_R_crossedNow_24 : decode c_R_crossedNow 24 = .ok (.getfield 41, 3) := by decide +kernel
theorem d_R_crossedNow_27 : decode c_R_crossedNow 27 = .ok (.iload_n 2, 1) := by decide +kernel
theorem d_R_crossedNow_28 : decode c_R_crossedNow 28 = .ok (.iaload, 1) := by decide +kernel
theorem d_R_crossedNow_29 : decode c_R_crossedNow 29 = .ok (.iaload, 1) := by decide +kernel
theorem d_R_crossedNow_30 : decode c_R_crossedNow 30 = .ok (.aload_n 0, 1) := by decide +kernel
theorem d_R_crossedNow_31 : decode c_R_crossedNow 31 = .ok (.getfield 32, 3) := by decide +kernel
theorem d_R_crossedNow_34 : decode c_R_crossedNow 34 = .ok (.aload_n 0, 1) := by decide +kernel
theorem d_R_crossedNow_35 : decode c_R_crossedNow 35 = .ok (.getfield 41, 3) := by decide +kernel
theorem d_R_crossedNow_38 : decode c_R_crossedNow 38 = .ok (.iload_n 3, 1) := by decide +kernel
theorem d_R_crossedNow_39 : decode c_R_crossedNow 39 = .ok (.iaload, 1) := by decide +kernel
theorem d_R_crossedNow_40 : decode c_R_crossedNow 40 = .ok (.iaload, 1) := by decide +kernel
theorem d_R_crossedNow_41 : decode c_R_crossedNow 41 = .ok (.if_icmp .eq 6, 3) := by decide +kernel
theorem d_R_crossedNow_44 : decode c_R_crossedNow 44 = .ok (.goto 81, 3) := by decide +kernel
theorem d_R_crossedNow_47 : decode c_R_crossedNow 47 = .ok (.aload_n 0, 1) := by decide +kernel
theorem d_R_crossedNow_48 : decode c_R_crossedNow 48 = .ok (.getfield 35, 3) := by decide +kernel
theorem d_R_crossedNow_51 : decode c_R_crossedNow 51 = .ok (.aload_n 0, 1) := by decide +kernel
theorem d_R_crossedNow_52 : decode c_R_crossedNow 52 = .ok (.getfield 41, 3) := by decide +kernel
theorem d_R_crossedNow_55 : decode c_R_crossedNow 55 = .ok (.iload_n 2, 1) := by decide +kernel
theorem d_R_crossedNow_56 : decode c_R_crossedNow 56 = .ok (.iaload, 1) := by decide +kernel
theorem d_R_crossedNow_57 : decode c_R_crossedNow 57 = .ok (.iaload, 1) := by decide +kernel
theorem d_R_crossedNow_58 : decode c_R_crossedNow 58 = .ok (.aload_n 0, 1) := by decide +kernel
theorem d_R_crossedNow_59 : decode c_R_crossedNow 59 = .ok (.getfield 35, 3) := by decide +kernel
theorem d_R_crossedNow_62 : decode c_R_crossedNow 62 = .ok (.aload_n 0, 1) := by decide +kernel
theorem d_R_crossedNow_63 : decode c_R_crossedNow 63 = .ok (.getfield 41, 3) := by decide +kernel
theorem d_R_crossedNow_66 : decode c_R_crossedNow 66 = .ok (.iload_n 3, 1) := by decide +kernel
theorem d_R_crossedNow_67 : decode c_R_crossedNow 67 = .ok (.iaload, 1) := by decide +kernel
theorem d_R_crossedNow_68 : decode c_R_crossedNow 68 = .ok (.iaload, 1) := by decide +kernel
theorem d_R_crossedNow_69 : decode c_R_crossedNow 69 = .ok (.isub, 1) := by decide +kernel
theorem d_R_crossedNow_70 : decode c_R_crossedNow 70 = .ok (.istore 4, 2) := by decide +kernel
theorem d_R_crossedNow_72 : decode c_R_crossedNow 72 = .ok (.aload_n 0, 1) := by decide +kernel
theorem d_R_crossedNow_73 : decode c_R_crossedNow 73 = .ok (.getfield 35, 3) := by decide +kernel
theorem d_R_crossedNow_76 : decode c_R_crossedNow 76 = .ok (.aload_n 0, 1) := by decide +kernel
theorem d_R_crossedNow_77 : decode c_R_crossedNow 77 = .ok (.getfield 44, 3) := by decide +kernel
theorem d_R_crossedNow_80 : decode c_R_crossedNow 80 = .ok (.iload_n 2, 1) := by decide +kernel
theorem d_R_crossedNow_81 : decode c_R_crossedNow 81 = .ok (.iaload, 1) := by decide +kernel
theorem d_R_crossedNow_82 : decode c_R_crossedNow 82 = .ok (.iaload, 1) := by decide +kernel
theorem d_R_crossedNow_83 : decode c_R_crossedNow 83 = .ok (.aload_n 0, 1) := by decide +kernel
theorem d_R_crossedNow_84 : decode c_R_crossedNow 84 = .ok (.getfield 35, 3) := by decide +kernel
theorem d_R_crossedNow_87 : decode c_R_crossedNow 87 = .ok (.aload_n 0, 1) := by decide +kernel
theorem d_R_crossedNow_88 : decode c_R_crossedNow 88 = .ok (.getfield 44, 3) := by decide +kernel
theorem d_R_crossedNow_91 : decode c_R_crossedNow 91 = .ok (.iload_n 3, 1) := by decide +kernel
theorem d_R_crossedNow_92 : decode c_R_crossedNow 92 = .ok (.iaload, 1) := by decide +kernel
theorem d_R_crossedNow_93 : decode c_R_crossedNow 93 = .ok (.iaload, 1) := by decide +kernel
theorem d_R_crossedNow_94 : decode c_R_crossedNow 94 = .ok (.isub, 1) := by decide +kernel
theorem d_R_crossedNow_95 : decode c_R_crossedNow 95 = .ok (.istore 5, 2) := by decide +kernel
theorem d_R_crossedNow_97 : decode c_R_crossedNow 97 = .ok (.iload_n 1, 1) := by decide +kernel
theorem d_R_crossedNow_98 : decode c_R_crossedNow 98 = .ok (.iload 4, 2) := by decide +kernel
theorem d_R_crossedNow_100 : decode c_R_crossedNow 100 = .ok (.ifCond .ge 8, 3) := by decide +kernel
theorem d_R_crossedNow_103 : decode c_R_crossedNow 103 = .ok (.iload 5, 2) := by decide +kernel
theorem d_R_crossedNow_105 : decode c_R_crossedNow 105 = .ok (.ifCond .gt 13, 3) := by decide +kernel
theorem d_R_crossedNow_108 : decode c_R_crossedNow 108 = .ok (.iload 4, 2) := by decide +kernel
theorem d_R_crossedNow_110 : decode c_R_crossedNow 110 = .ok (.ifCond .le 12, 3) := by decide +kernel
theorem d_R_crossedNow_113 : decode c_R_crossedNow 113 = .ok (.iload 5, 2) := by decide +kernel
theorem d_R_crossedNow_115 : decode c_R_crossedNow 115 = .ok (.ifCond .ge 7, 3) := by decide +kernel
theorem d_R_crossedNow_118 : decode c_R_crossedNow 118 = .ok (.iconst 1, 1) := by decide +kernel
theorem d_R_crossedNow_119 : decode c_R_crossedNow 119 = .ok (.goto 4, 3) := by decide +kernel
theorem d_R_crossedNow_122 : decode c_R_crossedNow 122 = .ok (.iconst 0, 1) := by decide +kernel
theorem d_R_crossedNow_123 : decode c_R_crossedNow 123 = .ok (.iadd, 1) := by decide +kernel
theorem d_R_crossedNow_124 : decode c_R_crossedNow 124 = .ok (.istore_n 1, 1) := by decide +kernel
theorem d_R_crossedNow_125 : decode c_R_crossedNow 125 = .ok (.iinc 3 1, 3) := by decide +kernel
theorem d_R_crossedNow_128 : decode c_R_crossedNow 128 = .ok (.goto (-114), 3) := by decide +kernel
theorem d_R_crossedNow_131 : decode c_R_crossedNow 131 = .ok (.iinc 2 1, 3) := by decide +kernel
theorem d_R_crossedNow_134 : decode c_R_crossedNow 134 = .ok (.goto (-130), 3) := by decide +kernel
theorem d_R_crossedNow_137 : decode c_R_crossedNow 137 = .ok (.iload_n 1, 1) := by decide +kernel
theorem d_R_crossedNow_138 : decode c_R_crossedNow 138 = .ok (.ireturn, 1) := by decide +kernel
theorem d_R_order_0 : decode c_R_order 0 = .ok (.iconst 0, 1) := by decide +kernel
theorem d_R_order_1 : decode c_R_order 1 = .ok (.istore_n 3, 1) := by decide +kernel
theorem d_R_order_2 : decode c_R_order 2 = .ok (.iconst 0, 1) := by decide +kernel
theorem d_R_order_3 : decode c_R_order 3 = .ok (.istore 4, 2) := by decide +kernel
theorem d_R_order_5 : decode c_R_order 5 = .ok (.iload 4, 2) := by decide +kernel
theorem d_R_order_7 : decode c_R_order 7 = .ok (.bipush 16, 2) := by decide +kernel
theorem d_R_order_9 : decode c_R_order 9 = .ok (.aload_n 0, 1) := by decide +kernel
theorem d_R_order_10 : decode c_R_order 10 = .ok (.getfield 131, 3) := by decide +kernel
theorem d_R_order_13 : decode c_R_order 13 = .ok (.iadd, 1) := by decide +kernel
theorem d_R_order_14 : decode c_R_order 14 = .ok (.if_icmp .ge 56, 3) := by decide +kernel
theorem d_R_order_17 : decode c_R_order 17 = .ok (.aload_n 0, 1) := by decide +kernel
theorem d_R_order_18 : decode c_R_order 18 = .ok (.getfield 32, 3) := by decide +kernel
theorem d_R_order_21 : decode c_R_order 21 = .ok (.iload 4, 2) := by decide +kernel
theorem d_R_order_23 : decode c_R_order 23 = .ok (.iaload, 1) := by decide +kernel
theorem d_R_order_24 : decode c_R_order 24 = .ok (.iload_n 1, 1) := by decide +kernel
theorem d_R_order_25 : decode c_R_order 25 = .ok (.if_icmp .eq 6, 3) := by decide +kernel
theorem d_R_order_28 : decode c_R_order 28 = .ok (.goto 36, 3) := by decide +kernel
theorem d_R_order_31 : decode c_R_order 31 = .ok (.aload_n 0, 1) := by decide +kernel
theorem d_R_order_32 : decode c_R_order 32 = .ok (.getfield 59, 3) := by decide +kernel
theorem d_R_order_35 : decode c_R_order 35 = .ok (.aload_n 0, 1) := by decide +kernel
theorem d_R_order_36 : decode c_R_order 36 = .ok (.getfield 35, 3) := by decide +kernel
theorem d_R_order_39 : decode c_R_order 39 = .ok (.iload 4, 2) := by decide +kernel
theorem d_R_order_41 : decode c_R_order 41 = .ok (.iaload, 1) := by decide +kernel
theorem d_R_order_42 : decode c_R_order 42 = .ok (.iload 4, 2) := by decide +kernel
theorem d_R_order_44 : decode c_R_order 44 = .ok (.iastore, 1) := by decide +kernel
theorem d_R_order_45 : decode c_R_order 45 = .ok (.iinc 3 1, 3) := by decide +kernel
theorem d_R_order_48 : decode c_R_order 48 = .ok (.aload_n 0, 1) := by decide +kernel
theorem d_R_order_49 : decode c_R_order 49 = .ok (.getfield 62, 3) := by decide +kernel
theorem d_R_order_52 : decode c_R_order 52 = .ok (.iload 4, 2) := by decide +kernel
theorem d_R_order_54 : decode c_R_order 54 = .ok (.iconst 0, 1) := by decide +kernel
theorem d_R_order_55 : decode c_R_order 55 = .ok (.iastore, 1) := by decide +kernel
theorem d_R_order_56 : decode c_R_order 56 = .ok (.aload_n 0, 1) := by decide +kernel
theorem d_R_order_57 : decode c_R_order 57 = .ok (.getfield 65, 3) := by decide +kernel
theorem d_R_order_60 : decode c_R_order 60 = .ok (.iload 4, 2) := by decide +kernel
theorem d_R_order_62 : decode c_R_order 62 = .ok (.iconst 0, 1) := by decide +kernel
theorem d_R_order_63 : decode c_R_order 63 = .ok (.iastore, 1) := by decide +kernel
theorem d_R_order_64 : decode c_R_order 64 = .ok (.iinc 4 1, 3) := by decide +kernel
theorem d_R_order_67 : decode c_R_order 67 = .ok (.goto (-62), 3) := by decide +kernel
theorem d_R_order_70 : decode c_R_order 70 = .ok (.iconst 0, 1) := by decide +kernel
theorem d_R_order_71 : decode c_R_order 71 = .ok (.istore 4, 2) := by decide +kernel
theorem d_R_order_73 : decode c_R_order 73 = .ok (.iload 4, 2) := by decide +kernel
theorem d_R_order_75 : decode c_R_order 75 = .ok (.aload_n 0, 1) := by decide +kernel
theorem d_R_order_76 : decode c_R_order 76 = .ok (.getfield 125, 3) := by decide +kernel
theorem d_R_order_79 : decode c_R_order 79 = .ok (.if_icmp .ge 97, 3) := by decide +kernel
theorem d_R_order_82 : decode c_R_order 82 = .ok (.iload_n 2, 1) := by decide +kernel
theorem d_R_order_83 : decode c_R_order 83 = .ok (.ifCond .eq 13, 3) := by decide +kernel
theorem d_R_order_86 : decode c_R_order 86 = .ok (.aload_n 0, 1) := by decide +kernel
theorem d_R_order_87 : decode c_R_order 87 = .ok (.getfield 44, 3) := by decide +kernel
theorem d_R_order_90 : decode c_R_order 90 = .ok (.iload 4, 2) := by decide +kernel
theorem d_R_order_92 : decode c_R_order 92 = .ok (.iaload, 1) := by decide +kernel
theorem d_R_order_93 : decode c_R_order 93 = .ok (.goto 10, 3) := by decide +kernel
theorem d_R_order_96 : decode c_R_order 96 = .ok (.aload_n 0, 1) := by decide +kernel
theorem d_R_order_97 : decode c_R_order 97 = .ok (.getfield 41, 3) := by decide +kernel
theorem d_R_order_100 : decode c_R_order 100 = .ok (.iload 4, 2) := by decide +kernel
theorem d_R_order_102 : decode c_R_order 102 = .ok (.iaload, 1) := by decide +kernel
theorem d_R_order_103 : decode c_R_order 103 = .ok (.istore 5, 2) := by decide +kernel
theorem d_R_order_105 : decode c_R_order 105 = .ok (.iload_n 2, 1) := by decide +kernel
theorem d_R_order_106 : decode c_R_order 106 = .ok (.ifCond .eq 13, 3) := by decide +kernel
theorem d_R_order_109 : decode c_R_order 109 = .ok (.aload_n 0, 1) := by decide +kernel
theorem d_R_order_110 : decode c_R_order 110 = .ok (.getfield 41, 3) := by decide +kernel
theorem d_R_order_113 : decode c_R_order 113 = .ok (.iload 4, 2) := by decide +kernel
theorem d_R_order_115 : decode c_R_order 115 = .ok (.iaload, 1) := by decide +kernel
theorem d_R_order_116 : decode c_R_order 116 = .ok (.goto 10, 3) := by decide +kernel
theorem d_R_order_119 : decode c_R_order 119 = .ok (.aload_n 0, 1) := by decide +kernel
theorem d_R_order_120 : decode c_R_order 120 = .ok (.getfield 44, 3) := by decide +kernel
theorem d_R_order_123 : decode c_R_order 123 = .ok (.iload 4, 2) := by decide +kernel
theorem d_R_order_125 : decode c_R_order 125 = .ok (.iaload, 1) := by decide +kernel
theorem d_R_order_126 : decode c_R_order 126 = .ok (.istore 6, 2) := by decide +kernel
theorem d_R_order_128 : decode c_R_order 128 = .ok (.aload_n 0, 1) := by decide +kernel
theorem d_R_order_129 : decode c_R_order 129 = .ok (.getfield 32, 3) := by decide +kernel
theorem d_R_order_132 : decode c_R_order 132 = .ok (.iload 5, 2) := by decide +kernel
theorem d_R_order_134 : decode c_R_order 134 = .ok (.iaload, 1) := by decide +kernel
theorem d_R_order_135 : decode c_R_order 135 = .ok (.iload_n 1, 1) := by decide +kernel
theorem d_R_order_136 : decode c_R_order 136 = .ok (.if_icmp .eq 6, 3) := by decide +kernel
theorem d_R_order_139 : decode c_R_order 139 = .ok (.goto 31, 3) := by decide +kernel
theorem d_R_order_142 : decode c_R_order 142 = .ok (.aload_n 0, 1) := by decide +kernel
theorem d_R_order_143 : decode c_R_order 143 = .ok (.getfield 62, 3) := by decide +kernel
theorem d_R_order_146 : decode c_R_order 146 = .ok (.iload 5, 2) := by decide +kernel
theorem d_R_order_148 : decode c_R_order 148 = .ok (.dup2, 1) := by decide +kernel
theorem d_R_order_149 : decode c_R_order 149 = .ok (.iaload, 1) := by decide +kernel
theorem d_R_order_150 : decode c_R_order 150 = .ok (.aload_n 0, 1) := by decide +kernel
theorem d_R_order_151 : decode c_R_order 151 = .ok (.getfield 35, 3) := by decide +kernel
theorem d_R_order_154 : decode c_R_order 154 = .ok (.iload 6, 2) := by decide +kernel
theorem d_R_order_156 : decode c_R_order 156 = .ok (.iaload, 1) := by decide +kernel
theorem d_R_order_157 : decode c_R_order 157 = .ok (.iadd, 1) := by decide +kernel
theorem d_R_order_158 : decode c_R_order 158 = .ok (.iastore, 1) := by decide +kernel
theorem d_R_order_159 : decode c_R_order 159 = .ok (.aload_n 0, 1) := by decide +kernel
theorem d_R_order_160 : decode c_R_order 160 = .ok (.getfield 65, 3) := by decide +kernel
theorem d_R_order_163 : decode c_R_order 163 = .ok (.iload 5, 2) := by decide +kernel
theorem d_R_order_165 : decode c_R_order 165 = .ok (.dup2, 1) := by decide +kernel
theorem d_R_order_166 : decode c_R_order 166 = .ok (.iaload, 1) := by decide +kernel
theorem d_R_order_167 : decode c_R_order 167 = .ok (.iconst 1, 1) := by decide +kernel
theorem d_R_order_168 : decode c_R_order 168 = .ok (.iadd, 1) := by decide +kernel
theorem d_R_order_169 : decode c_R_order 169 = .ok (.iastore, 1) := by decide +kernel
theorem d_R_order_170 : decode c_R_order 170 = .ok (.iinc 4 1, 3) := by decide +kernel
theorem d_R_order_173 : decode c_R_order 173 = .ok (.goto (-100), 3) := by decide +kernel
theorem d_R_order_176 : decode c_R_order 176 = .ok (.iconst 0, 1) := by decide +kernel
theorem d_R_order_177 : decode c_R_order 177 = .ok (.istore 4, 2) := by decide +kernel
theorem d_R_order_179 : decode c_R_order 179 = .ok (.iload 4, 2) := by decide +kernel
theorem d_R_order_181 : decode c_R_order 181 = .ok (.iload_n 3, 1) := by decide +kernel
theorem d_R_order_182 : decode c_R_order 182 = .ok (.if_icmp .ge 53, 3) := by decide +kernel
theorem d_R_order_185 : decode c_R_order 185 = .ok (.aload_n 0, 1) := by decide +kernel
theorem d_R_order_186 : decode c_R_order 186 = .ok (.getfield 59, 3) := by decide +kernel
theorem d_R_order_189 : decode c_R_order 189 = .ok (.iload 4, 2) := by decide +kernel
theorem d_R_order_191 : decode c_R_order 191 = .ok (.iaload, 1) := by decide +kernel
theorem d_R_order_192 : decode c_R_order 192 = .ok (.istore 5, 2) := by decide +kernel
theorem d_R_order_194 : decode c_R_order 194 = .ok (.aload_n 0, 1) := by decide +kernel
theorem d_R_order_195 : decode c_R_order 195 = .ok (.getfield 65, 3) := by decide +kernel
theorem d_R_order_198 : decode c_R_order 198 = .ok (.iload 5, 2) := by decide +kernel
theorem d_R_order_200 : decode c_R_order 200 = .ok (.iaload, 1) := by decide +kernel
theorem d_R_order_201 : decode c_R_order 201 = .ok (.ifCond .le 6, 3) := by decide +kernel
theorem d_R_order_204 : decode c_R_order 204 = .ok (.goto 25, 3) := by decide +kernel
theorem d_R_order_207 : decode c_R_order 207 = .ok (.aload_n 0, 1) := by decide +kernel
theorem d_R_order_208 : decode c_R_order 208 = .ok (.getfield 62, 3) := by decide +kernel
theorem d_R_order_211 : decode c_R_order 211 = .ok (.iload 5, 2) := by decide +kernel
theorem d_R_order_213 : decode c_R_order 213 = .ok (.aload_n 0, 1) := by decide +kernel
theorem d_R_order_214 : decode c_R_order 214 = .ok (.getfield 35, 3) := by decide +kernel
theorem d_R_order_217 : decode c_R_order 217 = .ok (.iload 5, 2) := by decide +kernel
theorem d_R_order_219 : decode c_R_order 219 = .ok (.iaload, 1) := by decide +kernel
theorem d_R_order_220 : decode c_R_order 220 = .ok (.iastore, 1) := by decide +kernel
theorem d_R_order_221 : decode c_R_order 221 = .ok (.aload_n 0, 1) := by decide +kernel
theorem d_R_order_222 : decode c_R_order 222 = .ok (.getfield 65, 3) := by decide +kernel
theorem d_R_order_225 : decode c_R_order 225 = .ok (.iload 5, 2) := by decide +kernel
theorem d_R_order_227 : decode c_R_order 227 = .ok (.iconst 1, 1) := by decide +kernel
theorem d_R_order_228 : decode c_R_order 228 = .ok (.iastore, 1) := by decide +kernel
theorem d_R_order_229 : decode c_R_order 229 = .ok (.iinc 4 1, 3) := by decide +kernel
theorem d_R_order_232 : decode c_R_order 232 = .ok (.goto (-53), 3) := by decide +kernel
theorem d_R_order_235 : decode c_R_order 235 = .ok (.aload_n 0, 1) := by decide +kernel
theorem d_R_order_236 : decode c_R_order 236 = .ok (.iload_n 3, 1) := by decide +kernel
theorem d_R_order_237 : decode c_R_order 237 = .ok (.invokevirtual 140, 3) := by decide +kernel
theorem d_R_order_240 : decode c_R_order 240 = .ok (.iconst 0, 1) := by decide +kernel
theorem d_R_order_241 : decode c_R_order 241 = .ok (.istore 4, 2) := by decide +kernel
theorem d_R_order_243 : decode c_R_order 243 = .ok (.iload 4, 2) := by decide +kernel
theorem d_R_order_245 : decode c_R_order 245 = .ok (.iload_n 3, 1) := by decide +kernel
theorem d_R_order_246 : decode c_R_order 246 = .ok (.if_icmp .ge 23, 3) := by decide +kernel
theorem d_R_order_249 : decode c_R_order 249 = .ok (.aload_n 0, 1) := by decide +kernel
theorem d_R_order_250 : decode c_R_order 250 = .ok (.getfield 35, 3) := by decide +kernel
theorem d_R_order_253 : decode c_R_order 253 = .ok (.aload_n 0, 1) := by decide +kernel
theorem d_R_order_254 : decode c_R_order 254 = .ok (.getfield 59, 3) := by decide +kernel
theorem d_R_order_257 : decode c_R_order 257 = .ok (.iload 4, 2) := by decide +kernel
theorem d_R_order_259 : decode c_R_order 259 = .ok (.iaload, 1) := by decide +kernel
theorem d_R_order_260 : decode c_R_order 260 = .ok (.iload 4, 2) := by decide +kernel
theorem d_R_order_262 : decode c_R_order 262 = .ok (.iastore, 1) := by decide +kernel
theorem d_R_order_263 : decode c_R_order 263 = .ok (.iinc 4 1, 3) := by decide +kernel
theorem d_R_order_266 : decode c_R_order 266 = .ok (.goto (-23), 3) := by decide +kernel
theorem d_R_order_269 : decode c_R_order 269 = .ok (.return_, 1) := by decide +kernel
theorem d_R_sort_0 : decode c_R_sort 0 = .ok (.iconst 1, 1) := by decide +kernel
theorem d_R_sort_1 : decode c_R_sort 1 = .ok (.istore_n 2, 1) := by decide +kernel
theorem d_R_sort_2 : decode c_R_sort 2 = .ok (.iload_n 2, 1) := by decide +kernel
theorem d_R_sort_3 : decode c_R_sort 3 = .ok (.iload_n 1, 1) := by decide +kernel
theorem d_R_sort_4 : decode c_R_sort 4 = .ok (.if_icmp .ge 99, 3) := by decide +kernel
theorem d_R_sort_7 : decode c_R_sort 7 = .ok (.aload_n 0, 1) := by decide +kernel
theorem d_R_sort_8 : decode c_R_sort 8 = .ok (.getfield 59, 3) := by decide +kernel
theorem d_R_sort_11 : decode c_R_sort 11 = .ok (.iload_n 2, 1) := by decide +kernel
theorem d_R_sort_12 : decode c_R_sort 12 = .ok (.iaload, 1) := by decide +kernel
theorem d_R_sort_13 : decode c_R_sort 13 = .ok (.istore_n 3, 1) := by decide +kernel
theorem d_R_sort_14 : decode c_R_sort 14 = .ok (.iload_n 2, 1) := by decide +kernel
theorem d_R_sort_15 : decode c_R_sort 15 = .ok (.istore 4, 2) := by decide +kernel
theorem d_R_sort_17 : decode c_R_sort 17 = .ok (.iload 4, 2) := by decide +kernel
theorem d_R_sort_19 : decode c_R_sort 19 = .ok (.ifCond .le 70, 3) := by decide +kernel
theorem d_R_sort_22 : decode c_R_sort 22 = .ok (.aload_n 0, 1) := by decide +kernel
theorem d_R_sort_23 : decode c_R_sort 23 = .ok (.getfield 62, 3) := by decide +kernel
theorem d_R_sort_26 : decode c_R_sort 26 = .ok (.iload_n 3, 1) := by decide +kernel
theorem d_R_sort_27 : decode c_R_sort 27 = .ok (.iaload, 1) := by decide +kernel
theorem d_R_sort_28 : decode c_R_sort 28 = .ok (.aload_n 0, 1) := by decide +kernel
theorem d_R_sort_29 : decode c_R_sort 29 = .ok (.getfield 65, 3) := by decide +kernel
theorem d_R_sort_32 : decode c_R_sort 32 = .ok (.aload_n 0, 1) := by decide +kernel
theorem d_R_sort_33 : decode c_R_sort 33 = .ok (.getfield 59, 3) := by decide +kernel
theorem d_R_sort_36 : decode c_R_sort 36 = .ok (.iload 4, 2) := by decide +kernel
theorem d_R_sort_38 : decode c_R_sort 38 = .ok (.iconst 1, 1) := by decide +kernel
theorem d_R_sort_39 : decode c_R_sort 39 = .ok (.isub, 1) := by decide +kernel
theorem d_R_sort_40 : decode c_R_sort 40 = .ok (.iaload, 1) := by decide +kernel
theorem d_R_sort_41 : decode c_R_sort 41 = .ok (.iaload, 1) := by decide +kernel
theorem d_R_sort_42 : decode c_R_sort 42 = .ok (.imul, 1) := by decide +kernel
theorem d_R_sort_43 : decode c_R_sort 43 = .ok (.aload_n 0, 1) := by decide +kernel
theorem d_R_sort_44 : decode c_R_sort 44 = .ok (.getfield 62, 3) := by decide +kernel
theorem d_R_sort_47 : decode c_R_sort 47 = .ok (.aload_n 0, 1) := by decide +kernel
theorem d_R_sort_48 : decode c_R_sort 48 = .ok (.getfield 59, 3) := by decide +kernel
theorem d_R_sort_51 : decode c_R_sort 51 = .ok (.iload 4, 2) := by decide +kernel
theorem d_R_sort_53 : decode c_R_sort 53 = .ok (.iconst 1, 1) := by decide +kernel
theorem d_R_sort_54 : decode c_R_sort 54 = .ok (.isub, 1) := by decide +kernel
theorem d_R_sort_55 : decode c_R_sort 55 = .ok (.iaload, 1) := by decide +kernel
theorem d_R_sort_56 : decode c_R_sort 56 = .ok (.iaload, 1) := by decide +kernel
theorem d_R_sort_57 : decode c_R_sort 57 = .ok (.aload_n 0, 1) := by decide +kernel
theorem d_R_sort_58 : decode c_R_sort 58 = .ok (.getfield 65, 3) := by decide +kernel
theorem d_R_sort_61 : decode c_R_sort 61 = .ok (.iload_n 3, 1) := by decide +kernel
theorem d_R_sort_62 : decode c_R_sort 62 = .ok (.iaload, 1) := by decide +kernel
theorem d_R_sort_63 : decode c_R_sort 63 = .ok (.imul, 1) := by decide +kernel
theorem d_R_sort_64 : decode c_R_sort 64 = .ok (.if_icmp .ge 25, 3) := by decide +kernel
theorem d_R_sort_67 : decode c_R_sort 67 = .ok (.aload_n 0, 1) := by decide +kernel
theorem d_R_sort_68 : decode c_R_sort 68 = .ok (.getfield 59, 3) := by decide +kernel
theorem d_R_sort_71 : decode c_R_sort 71 = .ok (.iload 4, 2) := by decide +kernel
theorem d_R_sort_73 : decode c_R_sort 73 = .ok (.aload_n 0, 1) := by decide +kernel
theorem d_R_sort_74 : decode c_R_sort 74 = .ok (.getfield 59, 3) := by decide +kernel
theorem d_R_sort_77 : decode c_R_sort 77 = .ok (.iload 4, 2) := by decide +kernel
theorem d_R_sort_79 : decode c_R_sort 79 = .ok (.iconst 1, 1) := by decide +kernel
theorem d_R_sort_80 : decode c_R_sort 80 = .ok (.isub, 1) := by decide +kernel
theorem d_R_sort_81 : decode c_R_sort 81 = .ok (.iaload, 1) := by decide +kernel
theorem d_R_sort_82 : decode c_R_sort 82 = .ok (.iastore, 1) := by decide +kernel
theorem d_R_sort_83 : decode c_R_sort 83 = .ok (.iinc 4 (-1), 3) := by decide +kernel
theorem d_R_sort_86 : decode c_R_sort 86 = .ok (.goto (-69), 3) := by decide +kernel
theorem d_R_sort_89 : decode c_R_sort 89 = .ok (.aload_n 0, 1) := by decide +kernel
theorem d_R_sort_90 : decode c_R_sort 90 = .ok (.getfield 59, 3) := by decide +kernel
theorem d_R_sort_93 : decode c_R_sort 93 = .ok (.iload 4, 2) := by decide +kernel
theorem d_R_sort_95 : decode c_R_sort 95 = .ok (.iload_n 3, 1) := by decide +kernel
theorem d_R_sort_96 : decode c_R_sort 96 = .ok (.iastore, 1) := by decide +kernel
theorem d_R_sort_97 : decode c_R_sort 97 = .ok (.iinc 2 1, 3) := by decide +kernel
theorem d_R_sort_100 : decode c_R_sort 100 = .ok (.goto (-98), 3) := by decide +kernel
theorem d_R_sort_103 : decode c_R_sort 103 = .ok (.return_, 1) := by decide +kernel
theorem d_R_round_0 : decode c_R_round 0 = .ok (.aload_n 0, 1) := by decide +kernel
theorem d_R_round_1 : decode c_R_round 1 = .ok (.invokevirtual 144, 3) := by decide +kernel
theorem d_R_round_4 : decode c_R_round 4 = .ok (.istore_n 1, 1) := by decide +kernel
theorem d_R_round_5 : decode c_R_round 5 = .ok (.iconst 1, 1) := by decide +kernel
theorem d_R_round_6 : decode c_R_round 6 = .ok (.istore_n 2, 1) := by decide +kernel
theorem d_R_round_7 : decode c_R_round 7 = .ok (.iload_n 2, 1) := by decide +kernel
theorem d_R_round_8 : decode c_R_round 8 = .ok (.iload_n 1, 1) := by decide +kernel
theorem d_R_round_9 : decode c_R_round 9 = .ok (.if_icmp .gt 15, 3) := by decide +kernel
theorem d_R_round_12 : decode c_R_round 12 = .ok (.aload_n 0, 1) := by decide +kernel
theorem d_R_round_13 : decode c_R_round 13 = .ok (.iload_n 2, 1) := by decide +kernel
theorem d_R_round_14 : decode c_R_round 14 = .ok (.iconst 1, 1) := by decide +kernel
theorem d_R_round_15 : decode c_R_round 15 = .ok (.invokevirtual 148, 3) := by decide +kernel
theorem d_R_round_18 : decode c_R_round 18 = .ok (.iinc 2 1, 3) := by decide +kernel
theorem d_R_round_21 : decode c_R_round 21 = .ok (.goto (-14), 3) := by decide +kernel
theorem d_R_round_24 : decode c_R_round 24 = .ok (.iload_n 1, 1) := by decide +kernel
theorem d_R_round_25 : decode c_R_round 25 = .ok (.iconst 1, 1) := by decide +kernel
theorem d_R_round_26 : decode c_R_round 26 = .ok (.isub, 1) := by decide +kernel
theorem d_R_round_27 : decode c_R_round 27 = .ok (.istore_n 2, 1) := by decide +kernel
theorem d_R_round_28 : decode c_R_round 28 = .ok (.iload_n 2, 1) := by decide +kernel
theorem d_R_round_29 : decode c_R_round 29 = .ok (.ifCond .lt 15, 3) := by decide +kernel
theorem d_R_round_32 : decode c_R_round 32 = .ok (.aload_n 0, 1) := by decide +kernel
theorem d_R_round_33 : decode c_R_round 33 = .ok (.iload_n 2, 1) := by decide +kernel
theorem d_R_round_34 : decode c_R_round 34 = .ok (.iconst 0, 1) := by decide +kernel
theorem d_R_round_35 : decode c_R_round 35 = .ok (.invokevirtual 148, 3) := by decide +kernel
theorem d_R_round_38 : decode c_R_round 38 = .ok (.iinc 2 (-1), 3) := by decide +kernel
theorem d_R_round_41 : decode c_R_round 41 = .ok (.goto (-13), 3) := by decide +kernel
theorem d_R_round_44 : decode c_R_round 44 = .ok (.return_, 1) := by decide +kernel
theorem d_R_keep_0 : decode c_R_keep 0 = .ok (.iconst 0, 1) := by decide +kernel
theorem d_R_keep_1 : decode c_R_keep 1 = .ok (.istore_n 1, 1) := by decide +kernel
theorem d_R_keep_2 : decode c_R_keep 2 = .ok (.iload_n 1, 1) := by decide +kernel
theorem d_R_keep_3 : decode c_R_keep 3 = .ok (.sipush 166, 3) := by decide +kernel
theorem d_R_keep_6 : decode c_R_keep 6 = .ok (.if_icmp .ge 21, 3) := by decide +kernel
theorem d_R_keep_9 : decode c_R_keep 9 = .ok (.aload_n 0, 1) := by decide +kernel
theorem d_R_keep_10 : decode c_R_keep 10 = .ok (.getfield 38, 3) := by decide +kernel
theorem d_R_keep_13 : decode c_R_keep 13 = .ok (.iload_n 1, 1) := by decide +kernel
theorem d_R_keep_14 : decode c_R_keep 14 = .ok (.aload_n 0, 1) := by decide +kernel
theorem d_R_keep_15 : decode c_R_keep 15 = .ok (.getfield 35, 3) := by decide +kernel
theorem d_R_keep_18 : decode c_R_keep 18 = .ok (.iload_n 1, 1) := by decide +kernel
theorem d_R_keep_19 : decode c_R_keep 19 = .ok (.iaload, 1) := by decide +kernel
theorem d_R_keep_20 : decode c_R_keep 20 = .ok (.iastore, 1) := by decide +kernel
theorem d_R_keep_21 : decode c_R_keep 21 = .ok (.iinc 1 1, 3) := by decide +kernel
theorem d_R_keep_24 : decode c_R_keep 24 = .ok (.goto (-22), 3) := by decide +kernel
theorem d_R_keep_27 : decode c_R_keep 27 = .ok (.return_, 1) := by decide +kernel
theorem d_R_draw_0 : decode c_R_draw 0 = .ok (.aload_n 0, 1) := by decide +kernel
theorem d_R_draw_1 : decode c_R_draw 1 = .ok (.iload_n 1, 1) := by decide +kernel
theorem d_R_draw_2 : decode c_R_draw 2 = .ok (.iconst 0, 1) := by decide +kernel
theorem d_R_draw_3 : decode c_R_draw 3 = .ok (.bipush 12, 2) := by decide +kernel
theorem d_R_draw_5 : decode c_R_draw 5 = .ok (.invokestatic 75, 3) := by decide +kernel
theorem d_R_draw_8 : decode c_R_draw 8 = .ok (.ifCond .ne 7, 3) := by decide +kernel
theorem d_R_draw_11 : decode c_R_draw 11 = .ok (.iconst 1, 1) := by decide +kernel
theorem d_R_draw_12 : decode c_R_draw 12 = .ok (.goto 4, 3) := by decide +kernel
theorem d_R_draw_15 : decode c_R_draw 15 = .ok (.iconst 0, 1) := by decide +kernel
theorem d_R_draw_16 : decode c_R_draw 16 = .ok (.iconst 0, 1) := by decide +kernel
theorem d_R_draw_17 : decode c_R_draw 17 = .ok (.invokevirtual 94, 3) := by decide +kernel
theorem d_R_draw_20 : decode c_R_draw 20 = .ok (.ifCond .eq 5, 3) := by decide +kernel
theorem d_R_draw_23 : decode c_R_draw 23 = .ok (.iconst 0, 1) := by decide +kernel
theorem d_R_draw_24 : decode c_R_draw 24 = .ok (.ireturn, 1) := by decide +kernel
theorem d_R_draw_25 : decode c_R_draw 25 = .ok (.aload_n 0, 1) := by decide +kernel
theorem d_R_draw_26 : decode c_R_draw 26 = .ok (.iconst 0, 1) := by decide +kernel
theorem d_R_draw_27 : decode c_R_draw 27 = .ok (.putfield 86, 3) := by decide +kernel
theorem d_R_draw_30 : decode c_R_draw 30 = .ok (.aload_n 0, 1) := by decide +kernel
theorem d_R_draw_31 : decode c_R_draw 31 = .ok (.invokevirtual 83, 3) := by decide +kernel
theorem d_R_draw_34 : decode c_R_draw 34 = .ok (.iconst 0, 1) := by decide +kernel
theorem d_R_draw_35 : decode c_R_draw 35 = .ok (.istore_n 2, 1) := by decide +kernel
theorem d_R_draw_36 : decode c_R_draw 36 = .ok (.iload_n 2, 1) := by decide +kernel
theorem d_R_draw_37 : decode c_R_draw 37 = .ok (.sipush 256, 3) := by decide +kernel
theorem d_R_draw_40 : decode c_R_draw 40 = .ok (.if_icmp .ge 27, 3) := by decide +kernel
theorem d_R_draw_43 : decode c_R_draw 43 = .ok (.aload_n 0, 1) := by decide +kernel
theorem d_R_draw_44 : decode c_R_draw 44 = .ok (.iload_n 2, 1) := by decide +kernel
theorem d_R_draw_45 : decode c_R_draw 45 = .ok (.bipush 16, 2) := by decide +kernel
theorem d_R_draw_47 : decode c_R_draw 47 = .ok (.idiv, 1) := by decide +kernel
theorem d_R_draw_48 : decode c_R_draw 48 = .ok (.iload_n 2, 1) := by decide +kernel
theorem d_R_draw_49 : decode c_R_draw 49 = .ok (.bipush 16, 2) := by decide +kernel
theorem d_R_draw_51 : decode c_R_draw 51 = .ok (.irem, 1) := by decide +kernel
theorem d_R_draw_52 : decode c_R_draw 52 = .ok (.invokevirtual 116, 3) := by decide +kernel
theorem d_R_draw_55 : decode c_R_draw 55 = .ok (.ifCond .eq 6, 3) := by decide +kernel
theorem d_R_draw_58 : decode c_R_draw 58 = .ok (.bipush (-2), 2) := by decide +kernel
theorem d_R_draw_60 : decode c_R_draw 60 = .ok (.ireturn, 1) := by decide +kernel
theorem d_R_draw_61 : decode c_R_draw 61 = .ok (.iinc 2 1, 3) := by decide +kernel
theorem d_R_draw_64 : decode c_R_draw 64 = .ok (.goto (-28), 3) := by decide +kernel
theorem d_R_draw_67 : decode c_R_draw 67 = .ok (.aload_n 0, 1) := by decide +kernel
theorem d_R_draw_68 : decode c_R_draw 68 = .ok (.invokevirtual 152, 3) := by decide +kernel
theorem d_R_draw_71 : decode c_R_draw 71 = .ok (.aload_n 0, 1) := by decide +kernel
theorem d_R_draw_72 : decode c_R_draw 72 = .ok (.invokevirtual 155, 3) := by decide +kernel
theorem d_R_draw_75 : decode c_R_draw 75 = .ok (.aload_n 0, 1) := by decide +kernel
theorem d_R_draw_76 : decode c_R_draw 76 = .ok (.invokevirtual 158, 3) := by decide +kernel
theorem d_R_draw_79 : decode c_R_draw 79 = .ok (.ifCond .ne 6, 3) := by decide +kernel
theorem d_R_draw_82 : decode c_R_draw 82 = .ok (.bipush (-3), 2) := by decide +kernel
theorem d_R_draw_84 : decode c_R_draw 84 = .ok (.ireturn, 1) := by decide +kernel
theorem d_R_draw_85 : decode c_R_draw 85 = .ok (.aload_n 0, 1) := by decide +kernel
theorem d_R_draw_86 : decode c_R_draw 86 = .ok (.iload_n 1, 1) := by decide +kernel
theorem d_R_draw_87 : decode c_R_draw 87 = .ok (.putfield 162, 3) := by decide +kernel
theorem d_R_draw_90 : decode c_R_draw 90 = .ok (.aload_n 0, 1) := by decide +kernel
theorem d_R_draw_91 : decode c_R_draw 91 = .ok (.invokevirtual 165, 3) := by decide +kernel
theorem d_R_draw_94 : decode c_R_draw 94 = .ok (.aload_n 0, 1) := by decide +kernel
theorem d_R_draw_95 : decode c_R_draw 95 = .ok (.getfield 56, 3) := by decide +kernel
theorem d_R_draw_98 : decode c_R_draw 98 = .ok (.iconst 0, 1) := by decide +kernel
theorem d_R_draw_99 : decode c_R_draw 99 = .ok (.aload_n 0, 1) := by decide +kernel
theorem d_R_draw_100 : decode c_R_draw 100 = .ok (.invokevirtual 168, 3) := by decide +kernel
theorem d_R_draw_103 : decode c_R_draw 103 = .ok (.iastore, 1) := by decide +kernel
theorem d_R_draw_104 : decode c_R_draw 104 = .ok (.aload_n 0, 1) := by decide +kernel
theorem d_R_draw_105 : decode c_R_draw 105 = .ok (.getfield 56, 3) := by decide +kernel
theorem d_R_draw_108 : decode c_R_draw 108 = .ok (.iconst 0, 1) := by decide +kernel
theorem d_R_draw_109 : decode c_R_draw 109 = .ok (.iaload, 1) := by decide +kernel
theorem d_R_draw_110 : decode c_R_draw 110 = .ok (.istore_n 2, 1) := by decide +kernel
theorem d_R_draw_111 : decode c_R_draw 111 = .ok (.aload_n 0, 1) := by decide +kernel
theorem d_R_draw_112 : decode c_R_draw 112 = .ok (.invokevirtual 171, 3) := by decide +kernel
theorem d_R_draw_115 : decode c_R_draw 115 = .ok (.iconst 1, 1) := by decide +kernel
theorem d_R_draw_116 : decode c_R_draw 116 = .ok (.istore_n 3, 1) := by decide +kernel
theorem d_R_draw_117 : decode c_R_draw 117 = .ok (.iload_n 3, 1) := by decide +kernel
theorem d_R_draw_118 : decode c_R_draw 118 = .ok (.iload_n 1, 1) := by decide +kernel
theorem d_R_draw_119 : decode c_R_draw 119 = .ok (.if_icmp .gt 58, 3) := by decide +kernel
theorem d_R_draw_122 : decode c_R_draw 122 = .ok (.aload_n 0, 1) := by decide +kernel
theorem d_R_draw_123 : decode c_R_draw 123 = .ok (.invokevirtual 174, 3) := by decide +kernel
theorem d_R_draw_126 : decode c_R_draw 126 = .ok (.aload_n 0, 1) := by decide +kernel
theorem d_R_draw_127 : decode c_R_draw 127 = .ok (.getfield 56, 3) := by decide +kernel
theorem d_R_draw_130 : decode c_R_draw 130 = .ok (.iload_n 3, 1) := by decide +kernel
theorem d_R_draw_131 : decode c_R_draw 131 = .ok (.aload_n 0, 1) := by decide +kernel
theorem d_R_draw_132 : decode c_R_draw 132 = .ok (.invokevirtual 168, 3) := by decide +kernel
theorem d_R_draw_135 : decode c_R_draw 135 = .ok (.iastore, 1) := by decide +kernel
theorem d_R_draw_136 : decode c_R_draw 136 = .ok (.aload_n 0, 1) := by decide +kernel
theorem d_R_draw_137 : decode c_R_draw 137 = .ok (.getfield 56, 3) := by decide +kernel
theorem d_R_draw_140 : decode c_R_draw 140 = .ok (.iload_n 3, 1) := by decide +kernel
theorem d_R_draw_141 : decode c_R_draw 141 = .ok (.iaload, 1) := by decide +kernel
theorem d_R_draw_142 : decode c_R_draw 142 = .ok (.iload_n 2, 1) := by decide +kernel
theorem d_R_draw_143 : decode c_R_draw 143 = .ok (.if_icmp .ge 7, 3) := by decide +kernel
theorem d_R_draw_146 : decode c_R_draw 146 = .ok (.aload_n 0, 1) := by decide +kernel
theorem d_R_draw_147 : decode c_R_draw 147 = .ok (.invokevirtual 171, 3) := by decide +kernel
theorem d_R_draw_150 : decode c_R_draw 150 = .ok (.aload_n 0, 1) := by decide +kernel
theorem d_R_draw_151 : decode c_R_draw 151 = .ok (.getfield 56, 3) := by decide +kernel
theorem d_R_draw_154 : decode c_R_draw 154 = .ok (.iload_n 3, 1) := by decide +kernel
theorem d_R_draw_155 : decode c_R_draw 155 = .ok (.iaload, 1) := by decide +kernel
theorem d_R_draw_156 : decode c_R_draw 156 = .ok (.iload_n 2, 1) := by decide +kernel
theorem d_R_draw_157 : decode c_R_draw 157 = .ok (.if_icmp .ge 12, 3) := by decide +kernel
theorem d_R_draw_160 : decode c_R_draw 160 = .ok (.aload_n 0, 1) := by decide +kernel
theorem d_R_draw_161 : decode c_R_draw 161 = .ok (.getfield 56, 3) := by decide +kernel
theorem d_R_draw_164 : decode c_R_draw 164 = .ok (.iload_n 3, 1) := by decide +kernel
theorem d_R_draw_165 : decode c_R_draw 165 = .ok (.iaload, 1) := by decide +kernel
theorem d_R_draw_166 : decode c_R_draw 166 = .ok (.goto 4, 3) := by decide +kernel
theorem d_R_draw_169 : decode c_R_draw 169 = .ok (.iload_n 2, 1) := by decide +kernel
theorem d_R_draw_170 : decode c_R_draw 170 = .ok (.istore_n 2, 1) := by decide +kernel
theorem d_R_draw_171 : decode c_R_draw 171 = .ok (.iinc 3 1, 3) := by decide +kernel
theorem d_R_draw_174 : decode c_R_draw 174 = .ok (.goto (-57), 3) := by decide +kernel
theorem d_R_draw_177 : decode c_R_draw 177 = .ok (.aload_n 0, 1) := by decide +kernel
theorem d_R_draw_178 : decode c_R_draw 178 = .ok (.iconst 1, 1) := by decide +kernel
theorem d_R_draw_179 : decode c_R_draw 179 = .ok (.putfield 86, 3) := by decide +kernel
theorem d_R_draw_182 : decode c_R_draw 182 = .ok (.aload_n 0, 1) := by decide +kernel
theorem d_R_draw_183 : decode c_R_draw 183 = .ok (.invokevirtual 177, 3) := by decide +kernel
theorem d_R_draw_186 : decode c_R_draw 186 = .ok (.iload_n 2, 1) := by decide +kernel
theorem d_R_draw_187 : decode c_R_draw 187 = .ok (.ireturn, 1) := by decide +kernel
theorem d_R_put_0 : decode c_R_put 0 = .ok (.aload_n 0, 1) := by decide +kernel
theorem d_R_put_1 : decode c_R_put 1 = .ok (.getfield 68, 3) := by decide +kernel
theorem d_R_put_4 : decode c_R_put 4 = .ok (.aload_n 0, 1) := by decide +kernel
theorem d_R_put_5 : decode c_R_put 5 = .ok (.getfield 180, 3) := by decide +kernel
theorem d_R_put_8 : decode c_R_put 8 = .ok (.iload_n 1, 1) := by decide +kernel
theorem d_R_put_9 : decode c_R_put 9 = .ok (.iastore, 1) := by decide +kernel
theorem d_R_put_10 : decode c_R_put 10 = .ok (.aload_n 0, 1) := by decide +kernel
theorem d_R_put_11 : decode c_R_put 11 = .ok (.dup, 1) := by decide +kernel
theorem d_R_put_12 : decode c_R_put 12 = .ok (.getfield 180, 3) := by decide +kernel
theorem d_R_put_15 : decode c_R_put 15 = .ok (.iconst 1, 1) := by decide +kernel
theorem d_R_put_16 : decode c_R_put 16 = .ok (.iadd, 1) := by decide +kernel
theorem d_R_put_17 : decode c_R_put 17 = .ok (.putfield 180, 3) := by decide +kernel
theorem d_R_put_20 : decode c_R_put 20 = .ok (.return_, 1) := by decide +kernel
theorem d_R_point_0 : decode c_R_point 0 = .ok (.aload_n 0, 1) := by decide +kernel
theorem d_R_point_1 : decode c_R_point 1 = .ok (.bipush 16, 2) := by decide +kernel
theorem d_R_point_3 : decode c_R_point 3 = .ok (.aload_n 0, 1) := by decide +kernel
theorem d_R_point_4 : decode c_R_point 4 = .ok (.getfield 38, 3) := by decide +kernel
theorem d_R_point_7 : decode c_R_point 7 = .ok (.iload_n 1, 1) := by decide +kernel
theorem d_R_point_8 : decode c_R_point 8 = .ok (.iaload, 1) := by decide +kernel
theorem d_R_point_9 : decode c_R_point 9 = .ok (.imul, 1) := by decide +kernel
theorem d_R_point_10 : decode c_R_point 10 = .ok (.invokevirtual 183, 3) := by decide +kernel
theorem d_R_point_13 : decode c_R_point 13 = .ok (.aload_n 0, 1) := by decide +kernel
theorem d_R_point_14 : decode c_R_point 14 = .ok (.bipush 16, 2) := by decide +kernel
theorem d_R_point_16 : decode c_R_point 16 = .ok (.aload_n 0, 1) := by decide +kernel
theorem d_R_point_17 : decode c_R_point 17 = .ok (.getfield 32, 3) := by decide +kernel
theorem d_R_point_20 : decode c_R_point 20 = .ok (.iload_n 1, 1) := by decide +kernel
theorem d_R_point_21 : decode c_R_point 21 = .ok (.iaload, 1) := by decide +kernel
theorem d_R_point_22 : decode c_R_point 22 = .ok (.imul, 1) := by decide +kernel
theorem d_R_point_23 : decode c_R_point 23 = .ok (.invokevirtual 183, 3) := by decide +kernel
theorem d_R_point_26 : decode c_R_point 26 = .ok (.return_, 1) := by decide +kernel
theorem d_R_write_0 : decode c_R_write 0 = .ok (.aload_n 0, 1) := by decide +kernel
theorem d_R_write_1 : decode c_R_write 1 = .ok (.iconst 0, 1) := by decide +kernel
theorem d_R_write_2 : decode c_R_write 2 = .ok (.putfield 180, 3) := by decide +kernel
theorem d_R_write_5 : decode c_R_write 5 = .ok (.aload_n 0, 1) := by decide +kernel
theorem d_R_write_6 : decode c_R_write 6 = .ok (.invokevirtual 144, 3) := by decide +kernel
theorem d_R_write_9 : decode c_R_write 9 = .ok (.istore_n 1, 1) := by decide +kernel
theorem d_R_write_10 : decode c_R_write 10 = .ok (.iconst 0, 1) := by decide +kernel
theorem d_R_write_11 : decode c_R_write 11 = .ok (.istore_n 2, 1) := by decide +kernel
theorem d_R_write_12 : decode c_R_write 12 = .ok (.iload_n 2, 1) := by decide +kernel
theorem d_R_write_13 : decode c_R_write 13 = .ok (.iload_n 1, 1) := by decide +kernel
theorem d_R_write_14 : decode c_R_write 14 = .ok (.if_icmp .gt 82, 3) := by decide +kernel
theorem d_R_write_17 : decode c_R_write 17 = .ok (.iconst 0, 1) := by decide +kernel
theorem d_R_write_18 : decode c_R_write 18 = .ok (.istore_n 3, 1) := by decide +kernel
theorem d_R_write_19 : decode c_R_write 19 = .ok (.iload_n 3, 1) := by decide +kernel
theorem d_R_write_20 : decode c_R_write 20 = .ok (.sipush 166, 3) := by decide +kernel
theorem d_R_write_23 : decode c_R_write 23 = .ok (.if_icmp .ge 67, 3) := by decide +kernel
theorem d_R_write_26 : decode c_R_write 26 = .ok (.iconst 0, 1) := by decide +kernel
theorem d_R_write_27 : decode c_R_write 27 = .ok (.istore 4, 2) := by decide +kernel
theorem d_R_write_29 : decode c_R_write 29 = .ok (.iload 4, 2) := by decide +kernel
theorem d_R_write_31 : decode c_R_write 31 = .ok (.bipush 16, 2) := by decide +kernel
theorem d_R_write_33 : decode c_R_write 33 = .ok (.if_icmp .ge 51, 3) := by decide +kernel
theorem d_R_write_36 : decode c_R_write 36 = .ok (.aload_n 0, 1) := by decide +kernel
theorem d_R_write_37 : decode c_R_write 37 = .ok (.getfield 32, 3) := by decide +kernel
theorem d_R_write_40 : decode c_R_write 40 = .ok (.iload 4, 2) := by decide +kernel
theorem d_R_write_42 : decode c_R_write 42 = .ok (.iaload, 1) := by decide +kernel
theorem d_R_write_43 : decode c_R_write 43 = .ok (.iload_n 2, 1) := by decide +kernel
theorem d_R_write_44 : decode c_R_write 44 = .ok (.if_icmp .ne 34, 3) := by decide +kernel
theorem d_R_write_47 : decode c_R_write 47 = .ok (.aload_n 0, 1) := by decide +kernel
theorem d_R_write_48 : decode c_R_write 48 = .ok (.getfield 38, 3) := by decide +kernel
theorem d_R_write_51 : decode c_R_write 51 = .ok (.iload 4, 2) := by decide +kernel
theorem d_R_write_53 : decode c_R_write 53 = .ok (.iaload, 1) := by decide +kernel
theorem d_R_write_54 : decode c_R_write 54 = .ok (.iload_n 3, 1) := by decide +kernel
theorem d_R_write_55 : decode c_R_write 55 = .ok (.if_icmp .eq 6, 3) := by decide +kernel
theorem d_R_write_58 : decode c_R_write 58 = .ok (.goto 20, 3) := by decide +kernel
theorem d_R_write_61 : decode c_R_write 61 = .ok (.aload_n 0, 1) := by decide +kernel
theorem d_R_write_62 : decode c_R_write 62 = .ok (.iconst 1, 1) := by decide +kernel
theorem d_R_write_63 : decode c_R_write 63 = .ok (.invokevirtual 183, 3) := by decide +kernel
theorem d_R_write_66 : decode c_R_write 66 = .ok (.aload_n 0, 1) := by decide +kernel
theorem d_R_write_67 : decode c_R_write 67 = .ok (.iload 4, 2) := by decide +kernel
theorem d_R_write_69 : decode c_R_write 69 = .ok (.invokevirtual 183, 3) := by decide +kernel
theorem d_R_write_72 : decode c_R_write 72 = .ok (.aload_n 0, 1) := by decide +kernel
theorem d_R_write_73 : decode c_R_write 73 = .ok (.iload 4, 2) := by decide +kernel
theorem d_R_write_75 : decode c_R_write 75 = .ok (.invokevirtual 186, 3) := by decide +kernel
theorem d_R_write_78 : decode c_R_write 78 = .ok (.iinc 4 1, 3) := by decide +kernel
theorem d_R_write_81 : decode c_R_write 81 = .ok (.goto (-52), 3) := by decide +kernel
theorem d_R_write_84 : decode c_R_write 84 = .ok (.iinc 3 1, 3) := by decide +kernel
theorem d_R_write_87 : decode c_R_write 87 = .ok (.goto (-68), 3) := by decide +kernel
theorem d_R_write_90 : decode c_R_write 90 = .ok (.iinc 2 1, 3) := by decide +kernel
theorem d_R_write_93 : decode c_R_write 93 = .ok (.goto (-81), 3) := by decide +kernel
theorem d_R_write_96 : decode c_R_write 96 = .ok (.iconst 0, 1) := by decide +kernel
theorem d_R_write_97 : decode c_R_write 97 = .ok (.istore_n 2, 1) := by decide +kernel
theorem d_R_write_98 : decode c_R_write 98 = .ok (.iload_n 2, 1) := by decide +kernel
theorem d_R_write_99 : decode c_R_write 99 = .ok (.aload_n 0, 1) := by decide +kernel
theorem d_R_write_100 : decode c_R_write 100 = .ok (.getfield 128, 3) := by decide +kernel
theorem d_R_write_103 : decode c_R_write 103 = .ok (.if_icmp .ge 74, 3) := by decide +kernel
theorem d_R_write_106 : decode c_R_write 106 = .ok (.aload_n 0, 1) := by decide +kernel
theorem d_R_write_107 : decode c_R_write 107 = .ok (.iconst 2, 1) := by decide +kernel
theorem d_R_write_108 : decode c_R_write 108 = .ok (.invokevirtual 183, 3) := by decide +kernel
theorem d_R_write_111 : decode c_R_write 111 = .ok (.aload_n 0, 1) := by decide +kernel
theorem d_R_write_112 : decode c_R_write 112 = .ok (.aload_n 0, 1) := by decide +kernel
theorem d_R_write_113 : decode c_R_write 113 = .ok (.iload_n 2, 1) := by decide +kernel
theorem d_R_write_114 : decode c_R_write 114 = .ok (.invokevirtual 134, 3) := by decide +kernel
theorem d_R_write_117 : decode c_R_write 117 = .ok (.iconst 2, 1) := by decide +kernel
theorem d_R_write_118 : decode c_R_write 118 = .ok (.iadd, 1) := by decide +kernel
theorem d_R_write_119 : decode c_R_write 119 = .ok (.invokevirtual 183, 3) := by decide +kernel
theorem d_R_write_122 : decode c_R_write 122 = .ok (.aload_n 0, 1) := by decide +kernel
theorem d_R_write_123 : decode c_R_write 123 = .ok (.aload_n 0, 1) := by decide +kernel
theorem d_R_write_124 : decode c_R_write 124 = .ok (.getfield 47, 3) := by decide +kernel
theorem d_R_write_127 : decode c_R_write 127 = .ok (.iload_n 2, 1) := by decide +kernel
theorem d_R_write_128 : decode c_R_write 128 = .ok (.iaload, 1) := by decide +kernel
theorem d_R_write_129 : decode c_R_write 129 = .ok (.invokevirtual 186, 3) := by decide +kernel
theorem d_R_write_132 : decode c_R_write 132 = .ok (.iconst 0, 1) := by decide +kernel
theorem d_R_write_133 : decode c_R_write 133 = .ok (.istore_n 3, 1) := by decide +kernel
theorem d_R_write_134 : decode c_R_write 134 = .ok (.iload_n 3, 1) := by decide +kernel
theorem d_R_write_135 : decode c_R_write 135 = .ok (.aload_n 0, 1) := by decide +kernel
theorem d_R_write_136 : decode c_R_write 136 = .ok (.iload_n 2, 1) := by decide +kernel
theorem d_R_write_137 : decode c_R_write 137 = .ok (.invokevirtual 134, 3) := by decide +kernel
theorem d_R_write_140 : decode c_R_write 140 = .ok (.if_icmp .ge 21, 3) := by decide +kernel
theorem d_R_write_143 : decode c_R_write 143 = .ok (.aload_n 0, 1) := by decide +kernel
theorem d_R_write_144 : decode c_R_write 144 = .ok (.aload_n 0, 1) := by decide +kernel
theorem d_R_write_145 : decode c_R_write 145 = .ok (.getfield 53, 3) := by decide +kernel
theorem d_R_write_148 : decode c_R_write 148 = .ok (.iload_n 2, 1) := by decide +kernel
theorem d_R_write_149 : decode c_R_write 149 = .ok (.iaload, 1) := by decide +kernel
theorem d_R_write_150 : decode c_R_write 150 = .ok (.iload_n 3, 1) := by decide +kernel
theorem d_R_write_151 : decode c_R_write 151 = .ok (.iadd, 1) := by decide +kernel
theorem d_R_write_152 : decode c_R_write 152 = .ok (.invokevirtual 186, 3) := by decide +kernel
theorem d_R_write_155 : decode c_R_write 155 = .ok (.iinc 3 1, 3) := by decide +kernel
theorem d_R_write_158 : decode c_R_write 158 = .ok (.goto (-24), 3) := by decide +kernel
theorem d_R_write_161 : decode c_R_write 161 = .ok (.aload_n 0, 1) := by decide +kernel
theorem d_R_write_162 : decode c_R_write 162 = .ok (.aload_n 0, 1) := by decide +kernel
theorem d_R_write_163 : decode c_R_write 163 = .ok (.getfield 50, 3) := by decide +kernel
theorem d_R_write_166 : decode c_R_write 166 = .ok (.iload_n 2, 1) := by decide +kernel
theorem d_R_write_167 : decode c_R_write 167 = .ok (.iaload, 1) := by decide +kernel
theorem d_R_write_168 : decode c_R_write 168 = .ok (.invokevirtual 186, 3) := by decide +kernel
theorem d_R_write_171 : decode c_R_write 171 = .ok (.iinc 2 1, 3) := by decide +kernel
theorem d_R_write_174 : decode c_R_write 174 = .ok (.goto (-76), 3) := by decide +kernel
theorem d_R_write_177 : decode c_R_write 177 = .ok (.return_, 1) := by decide +kernel
theorem d_R_crossings_0 : decode c_R_crossings 0 = .ok (.aload_n 0, 1) := by decide +kernel
theorem d_R_crossings_1 : decode c_R_crossings 1 = .ok (.iload_n 1, 1) := by decide +kernel
theorem d_R_crossings_2 : decode c_R_crossings 2 = .ok (.ifCond .lt 18, 3) := by decide +kernel
theorem d_R_crossings_5 : decode c_R_crossings 5 = .ok (.aload_n 0, 1) := by decide +kernel
theorem d_R_crossings_6 : decode c_R_crossings 6 = .ok (.getfield 86, 3) := by decide +kernel
theorem d_R_crossings_9 : decode c_R_crossings 9 = .ok (.ifCond .eq 15, 3) := by decide +kernel
theorem d_R_crossings_12 : decode c_R_crossings 12 = .ok (.iload_n 1, 1) := by decide +kernel
theorem d_R_crossings_13 : decode c_R_crossings 13 = .ok (.aload_n 0, 1) := by decide +kernel
theorem d_R_crossings_14 : decode c_R_crossings 14 = .ok (.getfield 162, 3) := by decide +kernel
theorem d_R_crossings_17 : decode c_R_crossings 17 = .ok (.if_icmp .le 7, 3) := by decide +kernel
theorem d_R_crossings_20 : decode c_R_crossings 20 = .ok (.iconst 1, 1) := by decide +kernel
theorem d_R_crossings_21 : decode c_R_crossings 21 = .ok (.goto 4, 3) := by decide +kernel
theorem d_R_crossings_24 : decode c_R_crossings 24 = .ok (.iconst 0, 1) := by decide +kernel
theorem d_R_crossings_25 : decode c_R_crossings 25 = .ok (.aload_n 0, 1) := by decide +kernel
theorem d_R_crossings_26 : decode c_R_crossings 26 = .ok (.getfield 86, 3) := by decide +kernel
theorem d_R_crossings_29 : decode c_R_crossings 29 = .ok (.ifCond .ne 7, 3) := by decide +kernel
theorem d_R_crossings_32 : decode c_R_crossings 32 = .ok (.iconst 1, 1) := by decide +kernel
theorem d_R_crossings_33 : decode c_R_crossings 33 = .ok (.goto 4, 3) := by decide +kernel
theorem d_R_crossings_36 : decode c_R_crossings 36 = .ok (.iconst 0, 1) := by decide +kernel
theorem d_R_crossings_37 : decode c_R_crossings 37 = .ok (.invokevirtual 94, 3) := by decide +kernel
theorem d_R_crossings_40 : decode c_R_crossings 40 = .ok (.ifCond .eq 5, 3) := by decide +kernel
theorem d_R_crossings_43 : decode c_R_crossings 43 = .ok (.iconst 0, 1) := by decide +kernel
theorem d_R_crossings_44 : decode c_R_crossings 44 = .ok (.ireturn, 1) := by decide +kernel
theorem d_R_crossings_45 : decode c_R_crossings 45 = .ok (.aload_n 0, 1) := by decide +kernel
theorem d_R_crossings_46 : decode c_R_crossings 46 = .ok (.getfield 56, 3) := by decide +kernel
theorem d_R_crossings_49 : decode c_R_crossings 49 = .ok (.iload_n 1, 1) := by decide +kernel
theorem d_R_crossings_50 : decode c_R_crossings 50 = .ok (.iaload, 1) := by decide +kernel
theorem d_R_crossings_51 : decode c_R_crossings 51 = .ok (.ireturn, 1) := by decide +kernel
theorem d_R_at_0 : decode c_R_at 0 = .ok (.aload_n 0, 1) := by decide +kernel
theorem d_R_at_1 : decode c_R_at 1 = .ok (.iload_n 1, 1) := by decide +kernel
theorem d_R_at_2 : decode c_R_at 2 = .ok (.invokestatic 90, 3) := by decide +kernel
theorem d_R_at_5 : decode c_R_at 5 = .ok (.ifCond .eq 12, 3) := by decide +kernel
theorem d_R_at_8 : decode c_R_at 8 = .ok (.iload_n 2, 1) := by decide +kernel
theorem d_R_at_9 : decode c_R_at 9 = .ok (.iconst 0, 1) := by decide +kernel
theorem d_R_at_10 : decode c_R_at 10 = .ok (.iconst 1, 1) := by decide +kernel
theorem d_R_at_11 : decode c_R_at 11 = .ok (.invokestatic 75, 3) := by decide +kernel
theorem d_R_at_14 : decode c_R_at 14 = .ok (.ifCond .ne 7, 3) := by decide +kernel
theorem d_R_at_17 : decode c_R_at 17 = .ok (.iconst 1, 1) := by decide +kernel
theorem d_R_at_18 : decode c_R_at 18 = .ok (.goto 4, 3) := by decide +kernel
theorem d_R_at_21 : decode c_R_at 21 = .ok (.iconst 0, 1) := by decide +kernel
theorem d_R_at_22 : decode c_R_at 22 = .ok (.aload_n 0, 1) := by decide +kernel
theorem d_R_at_23 : decode c_R_at 23 = .ok (.getfield 86, 3) := by decide +kernel
theorem d_R_at_26 : decode c_R_at 26 = .ok (.ifCond .ne 7, 3) := by decide +kernel
theorem d_R_at_29 : decode c_R_at 29 = .ok (.iconst 1, 1) := by decide +kernel
theorem d_R_at_30 : decode c_R_at 30 = .ok (.goto 4, 3) := by decide +kernel
theorem d_R_at_33 : decode c_R_at 33 = .ok (.iconst 0, 1) := by decide +kernel
theorem d_R_at_34 : decode c_R_at 34 = .ok (.invokevirtual 94, 3) := by decide +kernel
theorem d_R_at_37 : decode c_R_at 37 = .ok (.ifCond .eq 5, 3) := by decide +kernel
theorem d_R_at_40 : decode c_R_at 40 = .ok (.iconst 0, 1) := by decide +kernel
theorem d_R_at_41 : decode c_R_at 41 = .ok (.ireturn, 1) := by decide +kernel
theorem d_R_at_42 : decode c_R_at 42 = .ok (.aload_n 0, 1) := by decide +kernel
theorem d_R_at_43 : decode c_R_at 43 = .ok (.getfield 13, 3) := by decide +kernel
theorem d_R_at_46 : decode c_R_at 46 = .ok (.iload_n 1, 1) := by decide +kernel
theorem d_R_at_47 : decode c_R_at 47 = .ok (.iaload, 1) := by decide +kernel
theorem d_R_at_48 : decode c_R_at 48 = .ok (.istore_n 3, 1) := by decide +kernel
theorem d_R_at_49 : decode c_R_at 49 = .ok (.aload_n 0, 1) := by decide +kernel
theorem d_R_at_50 : decode c_R_at 50 = .ok (.iload_n 3, 1) := by decide +kernel
theorem d_R_at_51 : decode c_R_at 51 = .ok (.invokevirtual 119, 3) := by decide +kernel
theorem d_R_at_54 : decode c_R_at 54 = .ok (.ifCond .ne 5, 3) := by decide +kernel
theorem d_R_at_57 : decode c_R_at 57 = .ok (.iconst (-1), 1) := by decide +kernel
theorem d_R_at_58 : decode c_R_at 58 = .ok (.ireturn, 1) := by decide +kernel
theorem d_R_at_59 : decode c_R_at 59 = .ok (.iload_n 2, 1) := by decide +kernel
theorem d_R_at_60 : decode c_R_at 60 = .ok (.ifCond .ne 12, 3) := by decide +kernel
theorem d_R_at_63 : decode c_R_at 63 = .ok (.aload_n 0, 1) := by decide +kernel
theorem d_R_at_64 : decode c_R_at 64 = .ok (.getfield 32, 3) := by decide +kernel
theorem d_R_at_67 : decode c_R_at 67 = .ok (.iload_n 3, 1) := by decide +kernel
theorem d_R_at_68 : decode c_R_at 68 = .ok (.iaload, 1) := by decide +kernel
theorem d_R_at_69 : decode c_R_at 69 = .ok (.goto 9, 3) := by decide +kernel
theorem d_R_at_72 : decode c_R_at 72 = .ok (.aload_n 0, 1) := by decide +kernel
theorem d_R_at_73 : decode c_R_at 73 = .ok (.getfield 38, 3) := by decide +kernel
theorem d_R_at_76 : decode c_R_at 76 = .ok (.iload_n 3, 1) := by decide +kernel
theorem d_R_at_77 : decode c_R_at 77 = .ok (.iaload, 1) := by decide +kernel
theorem d_R_at_78 : decode c_R_at 78 = .ok (.ireturn, 1) := by decide +kernel
theorem d_R_links_0 : decode c_R_links 0 = .ok (.aload_n 0, 1) := by decide +kernel
theorem d_R_links_1 : decode c_R_links 1 = .ok (.aload_n 0, 1) := by decide +kernel
theorem d_R_links_2 : decode c_R_links 2 = .ok (.getfield 86, 3) := by decide +kernel
theorem d_R_links_5 : decode c_R_links 5 = .ok (.ifCond .ne 7, 3) := by decide +kernel
theorem d_R_links_8 : decode c_R_links 8 = .ok (.iconst 1, 1) := by decide +kernel
theorem d_R_links_9 : decode c_R_links 9 = .ok (.goto 4, 3) := by decide +kernel
theorem d_R_links_12 : decode c_R_links 12 = .ok (.iconst 0, 1) := by decide +kernel
theorem d_R_links_13 : decode c_R_links 13 = .ok (.iconst 0, 1) := by decide +kernel
theorem d_R_links_14 : decode c_R_links 14 = .ok (.invokevirtual 94, 3) := by decide +kernel
theorem d_R_links_17 : decode c_R_links 17 = .ok (.ifCond .eq 7, 3) := by decide +kernel
theorem d_R_links_20 : decode c_R_links 20 = .ok (.iconst 0, 1) := by decide +kernel
theorem d_R_links_21 : decode c_R_links 21 = .ok (.goto 7, 3) := by decide +kernel
theorem d_R_links_24 : decode c_R_links 24 = .ok (.aload_n 0, 1) := by decide +kernel
theorem d_R_links_25 : decode c_R_links 25 = .ok (.getfield 128, 3) := by decide +kernel
theorem d_R_links_28 : decode c_R_links 28 = .ok (.ireturn, 1) := by decide +kernel
theorem d_R_link_0 : decode c_R_link 0 = .ok (.iload_n 1, 1) := by decide +kernel
theorem d_R_link_1 : decode c_R_link 1 = .ok (.ifCond .lt 33, 3) := by decide +kernel
theorem d_R_link_4 : decode c_R_link 4 = .ok (.iload_n 2, 1) := by decide +kernel
theorem d_R_link_5 : decode c_R_link 5 = .ok (.ifCond .lt 29, 3) := by decide +kernel
theorem d_R_link_8 : decode c_R_link 8 = .ok (.aload_n 0, 1) := by decide +kernel
theorem d_R_link_9 : decode c_R_link 9 = .ok (.getfield 86, 3) := by decide +kernel
theorem d_R_link_12 : decode c_R_link 12 = .ok (.ifCond .eq 26, 3) := by decide +kernel
theorem d_R_link_15 : decode c_R_link 15 = .ok (.iload_n 1, 1) := by decide +kernel
theorem d_R_link_16 : decode c_R_link 16 = .ok (.aload_n 0, 1) := by decide +kernel
theorem d_R_link_17 : decode c_R_link 17 = .ok (.getfield 128, 3) := by decide +kernel
theorem d_R_link_20 : decode c_R_link 20 = .ok (.if_icmp .ge 14, 3) := by decide +kernel
theorem d_R_link_23 : decode c_R_link 23 = .ok (.iload_n 2, 1) := by decide +kernel
theorem d_R_link_24 : decode c_R_link 24 = .ok (.iconst 2, 1) := by decide +kernel
theorem d_R_link_25 : decode c_R_link 25 = .ok (.aload_n 0, 1) := by decide +kernel
theorem d_R_link_26 : decode c_R_link 26 = .ok (.iload_n 1, 1) := by decide +kernel
theorem d_R_link_27 : decode c_R_link 27 = .ok (.invokevirtual 134, 3) := by decide +kernel
theorem d_R_link_30 : decode c_R_link 30 = .ok (.iadd, 1) := by decide +kernel
theorem d_R_link_31 : decode c_R_link 31 = .ok (.if_icmp .le 7, 3) := by decide +kernel
theorem d_R_link_34 : decode c_R_link 34 = .ok (.iconst 1, 1) := by decide +kernel
theorem d_R_link_35 : decode c_R_link 35 = .ok (.goto 4, 3) := by decide +kernel
theorem d_R_link_38 : decode c_R_link 38 = .ok (.iconst 0, 1) := by decide +kernel
theorem d_R_link_39 : decode c_R_link 39 = .ok (.istore_n 3, 1) := by decide +kernel
theorem d_R_link_40 : decode c_R_link 40 = .ok (.aload_n 0, 1) := by decide +kernel
theorem d_R_link_41 : decode c_R_link 41 = .ok (.iload_n 3, 1) := by decide +kernel
theorem d_R_link_42 : decode c_R_link 42 = .ok (.aload_n 0, 1) := by decide +kernel
theorem d_R_link_43 : decode c_R_link 43 = .ok (.getfield 86, 3) := by decide +kernel
theorem d_R_link_46 : decode c_R_link 46 = .ok (.ifCond .ne 7, 3) := by decide +kernel
theorem d_R_link_49 : decode c_R_link 49 = .ok (.iconst 1, 1) := by decide +kernel
theorem d_R_link_50 : decode c_R_link 50 = .ok (.goto 4, 3) := by decide +kernel
theorem d_R_link_53 : decode c_R_link 53 = .ok (.iconst 0, 1) := by decide +kernel
theorem d_R_link_54 : decode c_R_link 54 = .ok (.invokevirtual 94, 3) := by decide +kernel
theorem d_R_link_57 : decode c_R_link 57 = .ok (.ifCond .eq 5, 3) := by decide +kernel
theorem d_R_link_60 : decode c_R_link 60 = .ok (.iconst 0, 1) := by decide +kernel
theorem d_R_link_61 : decode c_R_link 61 = .ok (.ireturn, 1) := by decide +kernel
theorem d_R_link_62 : decode c_R_link 62 = .ok (.iload_n 2, 1) := by decide +kernel
theorem d_R_link_63 : decode c_R_link 63 = .ok (.tableswitch 45 0 2 #[25, 32, 39], 25) := by decide +kernel
theorem d_R_link_88 : decode c_R_link 88 = .ok (.aload_n 0, 1) := by decide +kernel
theorem d_R_link_89 : decode c_R_link 89 = .ok (.getfield 47, 3) := by decide +kernel
theorem d_R_link_92 : decode c_R_link 92 = .ok (.iload_n 1, 1) := by decide +kernel
theorem d_R_link_93 : decode c_R_link 93 = .ok (.iaload, 1) := by decide +kernel
theorem d_R_link_94 : decode c_R_link 94 = .ok (.ireturn, 1) := by decide +kernel
theorem d_R_link_95 : decode c_R_link 95 = .ok (.aload_n 0, 1) := by decide +kernel
theorem d_R_link_96 : decode c_R_link 96 = .ok (.getfield 50, 3) := by decide +kernel
theorem d_R_link_99 : decode c_R_link 99 = .ok (.iload_n 1, 1) := by decide +kernel
theorem d_R_link_100 : decode c_R_link 100 = .ok (.iaload, 1) := by decide +kernel
theorem d_R_link_101 : decode c_R_link 101 = .ok (.ireturn, 1) := by decide +kernel
theorem d_R_link_102 : decode c_R_link 102 = .ok (.aload_n 0, 1) := by decide +kernel
theorem d_R_link_103 : decode c_R_link 103 = .ok (.iload_n 1, 1) := by decide +kernel
theorem d_R_link_104 : decode c_R_link 104 = .ok (.invokevirtual 134, 3) := by decide +kernel
theorem d_R_link_107 : decode c_R_link 107 = .ok (.ireturn, 1) := by decide +kernel
theorem d_R_link_108 : decode c_R_link 108 = .ok (.aload_n 0, 1) := by decide +kernel
theorem d_R_link_109 : decode c_R_link 109 = .ok (.getfield 38, 3) := by decide +kernel
theorem d_R_link_112 : decode c_R_link 112 = .ok (.aload_n 0, 1) := by decide +kernel
theorem d_R_link_113 : decode c_R_link 113 = .ok (.getfield 53, 3) := by decide +kernel
theorem d_R_link_116 : decode c_R_link 116 = .ok (.iload_n 1, 1) := by decide +kernel
theorem d_R_link_117 : decode c_R_link 117 = .ok (.iaload, 1) := by decide +kernel
theorem d_R_link_118 : decode c_R_link 118 = .ok (.iload_n 2, 1) := by decide +kernel
theorem d_R_link_119 : decode c_R_link 119 = .ok (.iadd, 1) := by decide +kernel
theorem d_R_link_120 : decode c_R_link 120 = .ok (.iconst 3, 1) := by decide +kernel
theorem d_R_link_121 : decode c_R_link 121 = .ok (.isub, 1) := by decide +kernel
theorem d_R_link_122 : decode c_R_link 122 = .ok (.iaload, 1) := by decide +kernel
theorem d_R_link_123 : decode c_R_link 123 = .ok (.ireturn, 1) := by decide +kernel
theorem d_R_command_0 : decode c_R_command 0 = .ok (.aload_n 0, 1) := by decide +kernel
theorem d_R_command_1 : decode c_R_command 1 = .ok (.iload_n 1, 1) := by decide +kernel
theorem d_R_command_2 : decode c_R_command 2 = .ok (.iconst (-1), 1) := by decide +kernel
theorem d_R_command_3 : decode c_R_command 3 = .ok (.if_icmp .lt 18, 3) := by decide +kernel
theorem d_R_command_6 : decode c_R_command 6 = .ok (.aload_n 0, 1) := by decide +kernel
theorem d_R_command_7 : decode c_R_command 7 = .ok (.getfield 86, 3) := by decide +kernel
theorem d_R_command_10 : decode c_R_command 10 = .ok (.ifCond .eq 15, 3) := by decide +kernel
theorem d_R_command_13 : decode c_R_command 13 = .ok (.iload_n 1, 1) := by decide +kernel
theorem d_R_command_14 : decode c_R_command 14 = .ok (.aload_n 0, 1) := by decide +kernel
theorem d_R_command_15 : decode c_R_command 15 = .ok (.getfield 180, 3) := by decide +kernel
theorem d_R_command_18 : decode c_R_command 18 = .ok (.if_icmp .lt 7, 3) := by decide +kernel
theorem d_R_command_21 : decode c_R_command 21 = .ok (.iconst 1, 1) := by decide +kernel
theorem d_R_command_22 : decode c_R_command 22 = .ok (.goto 4, 3) := by decide +kernel
theorem d_R_command_25 : decode c_R_command 25 = .ok (.iconst 0, 1) := by decide +kernel
theorem d_R_command_26 : decode c_R_command 26 = .ok (.aload_n 0, 1) := by decide +kernel
theorem d_R_command_27 : decode c_R_command 27 = .ok (.getfield 86, 3) := by decide +kernel
theorem d_R_command_30 : decode c_R_command 30 = .ok (.ifCond .ne 7, 3) := by decide +kernel
theorem d_R_command_33 : decode c_R_command 33 = .ok (.iconst 1, 1) := by decide +kernel
theorem d_R_command_34 : decode c_R_command 34 = .ok (.goto 4, 3) := by decide +kernel
theorem d_R_command_37 : decode c_R_command 37 = .ok (.iconst 0, 1) := by decide +kernel
theorem d_R_command_38 : decode c_R_command 38 = .ok (.invokevirtual 94, 3) := by decide +kernel
theorem d_R_command_41 : decode c_R_command 41 = .ok (.ifCond .eq 5, 3) := by decide +kernel
theorem d_R_command_44 : decode c_R_command 44 = .ok (.iconst 0, 1) := by decide +kernel
theorem d_R_command_45 : decode c_R_command 45 = .ok (.ireturn, 1) := by decide +kernel
theorem d_R_command_46 : decode c_R_command 46 = .ok (.iload_n 1, 1) := by decide +kernel
theorem d_R_command_47 : decode c_R_command 47 = .ok (.iconst (-1), 1) := by decide +kernel
theorem d_R_command_48 : decode c_R_command 48 = .ok (.if_icmp .ne 10, 3) := by decide +kernel
theorem d_R_command_51 : decode c_R_command 51 = .ok (.aload_n 0, 1) := by decide +kernel
theorem d_R_command_52 : decode c_R_command 52 = .ok (.getfield 180, 3) := by decide +kernel
theorem d_R_command_55 : decode c_R_command 55 = .ok (.goto 9, 3) := by decide +kernel
theorem d_R_command_58 : decode c_R_command 58 = .ok (.aload_n 0, 1) := by decide +kernel
theorem d_R_command_59 : decode c_R_command 59 = .ok (.getfield 68, 3) := by decide +kernel
theorem d_R_command_62 : decode c_R_command 62 = .ok (.iload_n 1, 1) := by decide +kernel
theorem d_R_command_63 : decode c_R_command 63 = .ok (.iaload, 1) := by decide +kernel
theorem d_R_command_64 : decode c_R_command 64 = .ok (.ireturn, 1) := by decide +kernel
theorem d_R_count_0 : decode c_R_count 0 = .ok (.aload_n 0, 1) := by decide +kernel
theorem d_R_count_1 : decode c_R_count 1 = .ok (.iload_n 1, 1) := by decide +kernel
theorem d_R_count_2 : decode c_R_count 2 = .ok (.iconst 0, 1) := by decide +kernel
theorem d_R_count_3 : decode c_R_count 3 = .ok (.iconst 4, 1) := by decide +kernel
theorem d_R_count_4 : decode c_R_count 4 = .ok (.invokestatic 75, 3) := by decide +kernel
theorem d_R_count_7 : decode c_R_count 7 = .ok (.ifCond .ne 7, 3) := by decide +kernel
theorem d_R_count_10 : decode c_R_count 10 = .ok (.iconst 1, 1) := by decide +kernel
theorem d_R_count_11 : decode c_R_count 11 = .ok (.goto 4, 3) := by decide +kernel
theorem d_R_count_14 : decode c_R_count 14 = .ok (.iconst 0, 1) := by decide +kernel
theorem d_R_count_15 : decode c_R_count 15 = .ok (.iconst 0, 1) := by decide +kernel
theorem d_R_count_16 : decode c_R_count 16 = .ok (.invokevirtual 94, 3) := by decide +kernel
theorem d_R_count_19 : decode c_R_count 19 = .ok (.ifCond .eq 5, 3) := by decide +kernel
theorem d_R_count_22 : decode c_R_count 22 = .ok (.iconst 0, 1) := by decide +kernel
theorem d_R_count_23 : decode c_R_count 23 = .ok (.ireturn, 1) := by decide +kernel
theorem d_R_count_24 : decode c_R_count 24 = .ok (.iconst 0, 1) := by decide +kernel
theorem d_R_count_25 : decode c_R_count 25 = .ok (.istore_n 2, 1) := by decide +kernel
theorem d_R_count_26 : decode c_R_count 26 = .ok (.iconst 0, 1) := by decide +kernel
theorem d_R_count_27 : decode c_R_count 27 = .ok (.istore_n 3, 1) := by decide +kernel
theorem d_R_count_28 : decode c_R_count 28 = .ok (.iload_n 3, 1) := by decide +kernel
theorem d_R_count_29 : decode c_R_count 29 = .ok (.bipush 16, 2) := by decide +kernel
theorem d_R_count_31 : decode c_R_count 31 = .ok (.if_icmp .ge 30, 3) := by decide +kernel
theorem d_R_count_34 : decode c_R_count 34 = .ok (.iload_n 1, 1) := by decide +kernel
theorem d_R_count_35 : decode c_R_count 35 = .ok (.ifCond .ne 26, 3) := by decide +kernel
theorem d_R_count_38 : decode c_R_count 38 = .ok (.iload_n 2, 1) := by decide +kernel
theorem d_R_count_39 : decode c_R_count 39 = .ok (.aload_n 0, 1) := by decide +kernel
theorem d_R_count_40 : decode c_R_count 40 = .ok (.getfield 23, 3) := by decide +kernel
theorem d_R_count_43 : decode c_R_count 43 = .ok (.iload_n 3, 1) := by decide +kernel
theorem d_R_count_44 : decode c_R_count 44 = .ok (.baload, 1) := by decide +kernel
theorem d_R_count_45 : decode c_R_count 45 = .ok (.ifCond .eq 7, 3) := by decide +kernel
theorem d_R_count_48 : decode c_R_count 48 = .ok (.iconst 1, 1) := by decide +kernel
theorem d_R_count_49 : decode c_R_count 49 = .ok (.goto 4, 3) := by decide +kernel
theorem d_R_count_52 : decode c_R_count 52 = .ok (.iconst 0, 1) := by decide +kernel
theorem d_R_count_53 : decode c_R_count 53 = .ok (.iadd, 1) := by decide +kernel
theorem d_R_count_54 : decode c_R_count 54 = .ok (.istore_n 2, 1) := by decide +kernel
theorem d_R_count_55 : decode c_R_count 55 = .ok (.iinc 3 1, 3) := by decide +kernel
theorem d_R_count_58 : decode c_R_count 58 = .ok (.goto (-30), 3) := by decide +kernel
theorem d_R_count_61 : decode c_R_count 61 = .ok (.iconst 0, 1) := by decide +kernel
theorem d_R_count_62 : decode c_R_count 62 = .ok (.istore_n 3, 1) := by decide +kernel
theorem d_R_count_63 : decode c_R_count 63 = .ok (.iload_n 3, 1) := by decide +kernel
theorem d_R_count_64 : decode c_R_count 64 = .ok (.sipush 256, 3) := by decide +kernel
theorem d_R_count_67 : decode c_R_count 67 = .ok (.if_icmp .ge 31, 3) := by decide +kernel
theorem d_R_count_70 : decode c_R_count 70 = .ok (.iload_n 1, 1) := by decide +kernel
theorem d_R_count_71 : decode c_R_count 71 = .ok (.iconst 1, 1) := by decide +kernel
theorem d_R_count_72 : decode c_R_count 72 = .ok (.if_icmp .ne 26, 3) := by decide +kernel
theorem d_R_count_75 : decode c_R_count 75 = .ok (.iload_n 2, 1) := by decide +kernel
theorem d_R_count_76 : decode c_R_count 76 = .ok (.aload_n 0, 1) := by decide +kernel
theorem d_R_count_77 : decode c_R_count 77 = .ok (.getfield 7, 3) := by decide +kernel
theorem d_R_count_80 : decode c_R_count 80 = .ok (.iload_n 3, 1) := by decide +kernel
theorem d_R_count_81 : decode c_R_count 81 = .ok (.baload, 1) := by decide +kernel
theorem d_R_count_82 : decode c_R_count 82 = .ok (.ifCond .eq 7, 3) := by decide +kernel
theorem d_R_count_85 : decode c_R_count 85 = .ok (.iconst 1, 1) := by decide +kernel
theorem d_R_count_86 : decode c_R_count 86 = .ok (.goto 4, 3) := by decide +kernel
theorem d_R_count_89 : decode c_R_count 89 = .ok (.iconst 0, 1) := by decide +kernel
theorem d_R_count_90 : decode c_R_count 90 = .ok (.iadd, 1) := by decide +kernel
theorem d_R_count_91 : decode c_R_count 91 = .ok (.istore_n 2, 1) := by decide +kernel
theorem d_R_count_92 : decode c_R_count 92 = .ok (.iinc 3 1, 3) := by decide +kernel
theorem d_R_count_95 : decode c_R_count 95 = .ok (.goto (-32), 3) := by decide +kernel
theorem d_R_count_98 : decode c_R_count 98 = .ok (.iconst 0, 1) := by decide +kernel
theorem d_R_count_99 : decode c_R_count 99 = .ok (.istore_n 3, 1) := by decide +kernel
theorem d_R_count_100 : decode c_R_count 100 = .ok (.iload_n 3, 1) := by decide +kernel
theorem d_R_count_101 : decode c_R_count 101 = .ok (.bipush 16, 2) := by decide +kernel
theorem d_R_count_103 : decode c_R_count 103 = .ok (.if_icmp .ge 40, 3) := by decide +kernel
theorem d_R_count_106 : decode c_R_count 106 = .ok (.iload_n 1, 1) := by decide +kernel
theorem d_R_count_107 : decode c_R_count 107 = .ok (.iconst 2, 1) := by decide +kernel
theorem d_R_count_108 : decode c_R_count 108 = .ok (.if_icmp .ne 35, 3) := by decide +kernel
theorem d_R_count_111 : decode c_R_count 111 = .ok (.iload_n 2, 1) := by decide +kernel
theorem d_R_count_112 : decode c_R_count 112 = .ok (.aload_n 0, 1) := by decide +kernel
theorem d_R_count_113 : decode c_R_count 113 = .ok (.getfield 13, 3) := by decide +kernel
theorem d_R_count_116 : decode c_R_count 116 = .ok (.iload_n 3, 1) := by decide +kernel
theorem d_R_count_117 : decode c_R_count 117 = .ok (.iaload, 1) := by decide +kernel
theorem d_R_count_118 : decode c_R_count 118 = .ok (.iload_n 3, 1) := by decide +kernel
theorem d_R_count_119 : decode c_R_count 119 = .ok (.if_icmp .ne 15, 3) := by decide +kernel
theorem d_R_count_122 : decode c_R_count 122 = .ok (.aload_n 0, 1) := by decide +kernel
theorem d_R_count_123 : decode c_R_count 123 = .ok (.iload_n 3, 1) := by decide +kernel
theorem d_R_count_124 : decode c_R_count 124 = .ok (.invokevirtual 106, 3) := by decide +kernel
theorem d_R_count_127 : decode c_R_count 127 = .ok (.ifCond .eq 7, 3) := by decide +kernel
theorem d_R_count_130 : decode c_R_count 130 = .ok (.iconst 1, 1) := by decide +kernel
theorem d_R_count_131 : decode c_R_count 131 = .ok (.goto 4, 3) := by decide +kernel
theorem d_R_count_134 : decode c_R_count 134 = .ok (.iconst 0, 1) := by decide +kernel
theorem d_R_count_135 : decode c_R_count 135 = .ok (.iadd, 1) := by decide +kernel
theorem d_R_count_136 : decode c_R_count 136 = .ok (.istore_n 2, 1) := by decide +kernel
theorem d_R_count_137 : decode c_R_count 137 = .ok (.iinc 3 1, 3) := by decide +kernel
theorem d_R_count_140 : decode c_R_count 140 = .ok (.goto (-40), 3) := by decide +kernel
theorem d_R_count_143 : decode c_R_count 143 = .ok (.iload_n 1, 1) := by decide +kernel
theorem d_R_count_144 : decode c_R_count 144 = .ok (.iconst 3, 1) := by decide +kernel
theorem d_R_count_145 : decode c_R_count 145 = .ok (.if_icmp .ge 5, 3) := by decide +kernel
theorem d_R_count_148 : decode c_R_count 148 = .ok (.iload_n 2, 1) := by decide +kernel
theorem d_R_count_149 : decode c_R_count 149 = .ok (.ireturn, 1) := by decide +kernel
theorem d_R_count_150 : decode c_R_count 150 = .ok (.aload_n 0, 1) := by decide +kernel
theorem d_R_count_151 : decode c_R_count 151 = .ok (.getfield 86, 3) := by decide +kernel
theorem d_R_count_154 : decode c_R_count 154 = .ok (.ifCond .ne 7, 3) := by decide +kernel
theorem d_R_count_157 : decode c_R_count 157 = .ok (.iconst 0, 1) := by decide +kernel
theorem d_R_count_158 : decode c_R_count 158 = .ok (.goto 21, 3) := by decide +kernel
theorem d_R_count_161 : decode c_R_count 161 = .ok (.iload_n 1, 1) := by decide +kernel
theorem d_R_count_162 : decode c_R_count 162 = .ok (.iconst 3, 1) := by decide +kernel
theorem d_R_count_163 : decode c_R_count 163 = .ok (.if_icmp .ne 12, 3) := by decide +kernel
theorem d_R_count_166 : decode c_R_count 166 = .ok (.aload_n 0, 1) := by decide +kernel
theorem d_R_count_167 : decode c_R_count 167 = .ok (.invokevirtual 144, 3) := by decide +kernel
theorem d_R_count_170 : decode c_R_count 170 = .ok (.iconst 1, 1) := by decide +kernel
theorem d_R_count_171 : decode c_R_count 171 = .ok (.iadd, 1) := by decide +kernel
theorem d_R_count_172 : decode c_R_count 172 = .ok (.goto 7, 3) := by decide +kernel
theorem d_R_count_175 : decode c_R_count 175 = .ok (.aload_n 0, 1) := by decide +kernel
theorem d_R_count_176 : decode c_R_count 176 = .ok (.getfield 131, 3) := by decide +kernel
theorem d_R_count_179 : decode c_R_count 179 = .ok (.ireturn, 1) := by decide +kernel
