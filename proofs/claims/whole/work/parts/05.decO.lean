theorem d_O_init_0 : decode c_O_init 0 = .ok (.aload_n 0, 1) := by decide +kernel
theorem d_O_init_1 : decode c_O_init 1 = .ok (.invokespecial 3, 3) := by decide +kernel
theorem d_O_init_4 : decode c_O_init 4 = .ok (.aload_n 0, 1) := by decide +kernel
theorem d_O_init_5 : decode c_O_init 5 = .ok (.sipush 166, 3) := by decide +kernel
theorem d_O_init_8 : decode c_O_init 8 = .ok (.newarray .int, 2) := by decide +kernel
theorem d_O_init_10 : decode c_O_init 10 = .ok (.putfield 9, 3) := by decide +kernel
theorem d_O_init_13 : decode c_O_init 13 = .ok (.aload_n 0, 1) := by decide +kernel
theorem d_O_init_14 : decode c_O_init 14 = .ok (.bipush 13, 2) := by decide +kernel
theorem d_O_init_16 : decode c_O_init 16 = .ok (.newarray .int, 2) := by decide +kernel
theorem d_O_init_18 : decode c_O_init 18 = .ok (.putfield 15, 3) := by decide +kernel
theorem d_O_init_21 : decode c_O_init 21 = .ok (.aload_n 0, 1) := by decide +kernel
theorem d_O_init_22 : decode c_O_init 22 = .ok (.sipush 166, 3) := by decide +kernel
theorem d_O_init_25 : decode c_O_init 25 = .ok (.newarray .int, 2) := by decide +kernel
theorem d_O_init_27 : decode c_O_init 27 = .ok (.putfield 18, 3) := by decide +kernel
theorem d_O_init_30 : decode c_O_init 30 = .ok (.aload_n 0, 1) := by decide +kernel
theorem d_O_init_31 : decode c_O_init 31 = .ok (.sipush 166, 3) := by decide +kernel
theorem d_O_init_34 : decode c_O_init 34 = .ok (.newarray .int, 2) := by decide +kernel
theorem d_O_init_36 : decode c_O_init 36 = .ok (.putfield 21, 3) := by decide +kernel
theorem d_O_init_39 : decode c_O_init 39 = .ok (.aload_n 0, 1) := by decide +kernel
theorem d_O_init_40 : decode c_O_init 40 = .ok (.bipush 17, 2) := by decide +kernel
theorem d_O_init_42 : decode c_O_init 42 = .ok (.newarray .int, 2) := by decide +kernel
theorem d_O_init_44 : decode c_O_init 44 = .ok (.putfield 24, 3) := by decide +kernel
theorem d_O_init_47 : decode c_O_init 47 = .ok (.aload_n 0, 1) := by decide +kernel
theorem d_O_init_48 : decode c_O_init 48 = .ok (.sipush 406, 3) := by decide +kernel
theorem d_O_init_51 : decode c_O_init 51 = .ok (.newarray .int, 2) := by decide +kernel
theorem d_O_init_53 : decode c_O_init 53 = .ok (.putfield 27, 3) := by decide +kernel
theorem d_O_init_56 : decode c_O_init 56 = .ok (.aload_n 0, 1) := by decide +kernel
theorem d_O_init_57 : decode c_O_init 57 = .ok (.sipush 406, 3) := by decide +kernel
theorem d_O_init_60 : decode c_O_init 60 = .ok (.newarray .int, 2) := by decide +kernel
theorem d_O_init_62 : decode c_O_init 62 = .ok (.putfield 30, 3) := by decide +kernel
theorem d_O_init_65 : decode c_O_init 65 = .ok (.aload_n 0, 1) := by decide +kernel
theorem d_O_init_66 : decode c_O_init 66 = .ok (.bipush 17, 2) := by decide +kernel
theorem d_O_init_68 : decode c_O_init 68 = .ok (.newarray .int, 2) := by decide +kernel
theorem d_O_init_70 : decode c_O_init 70 = .ok (.putfield 33, 3) := by decide +kernel
theorem d_O_init_73 : decode c_O_init 73 = .ok (.aload_n 0, 1) := by decide +kernel
theorem d_O_init_74 : decode c_O_init 74 = .ok (.sipush 166, 3) := by decide +kernel
theorem d_O_init_77 : decode c_O_init 77 = .ok (.newarray .int, 2) := by decide +kernel
theorem d_O_init_79 : decode c_O_init 79 = .ok (.putfield 36, 3) := by decide +kernel
theorem d_O_init_82 : decode c_O_init 82 = .ok (.aload_n 0, 1) := by decide +kernel
theorem d_O_init_83 : decode c_O_init 83 = .ok (.sipush 166, 3) := by decide +kernel
theorem d_O_init_86 : decode c_O_init 86 = .ok (.newarray .int, 2) := by decide +kernel
theorem d_O_init_88 : decode c_O_init 88 = .ok (.putfield 39, 3) := by decide +kernel
theorem d_O_init_91 : decode c_O_init 91 = .ok (.return_, 1) := by decide +kernel
theorem d_O_make_0 : decode c_O_make 0 = .ok (.aload_n 0, 1) := by decide +kernel
theorem d_O_make_1 : decode c_O_make 1 = .ok (.iload_n 2, 1) := by decide +kernel
theorem d_O_make_2 : decode c_O_make 2 = .ok (.putfield 42, 3) := by decide +kernel
theorem d_O_make_5 : decode c_O_make 5 = .ok (.aload_n 0, 1) := by decide +kernel
theorem d_O_make_6 : decode c_O_make 6 = .ok (.aload_n 1, 1) := by decide +kernel
theorem d_O_make_7 : decode c_O_make 7 = .ok (.getfield 46, 3) := by decide +kernel
theorem d_O_make_10 : decode c_O_make 10 = .ok (.putfield 51, 3) := by decide +kernel
theorem d_O_make_13 : decode c_O_make 13 = .ok (.aload_n 0, 1) := by decide +kernel
theorem d_O_make_14 : decode c_O_make 14 = .ok (.aload_n 1, 1) := by decide +kernel
theorem d_O_make_15 : decode c_O_make 15 = .ok (.invokevirtual 52, 3) := by decide +kernel
theorem d_O_make_18 : decode c_O_make 18 = .ok (.aload_n 0, 1) := by decide +kernel
theorem d_O_make_19 : decode c_O_make 19 = .ok (.aload_n 1, 1) := by decide +kernel
theorem d_O_make_20 : decode c_O_make 20 = .ok (.invokevirtual 56, 3) := by decide +kernel
theorem d_O_make_23 : decode c_O_make 23 = .ok (.aload_n 0, 1) := by decide +kernel
theorem d_O_make_24 : decode c_O_make 24 = .ok (.invokevirtual 59, 3) := by decide +kernel
theorem d_O_make_27 : decode c_O_make 27 = .ok (.istore_n 3, 1) := by decide +kernel
theorem d_O_make_28 : decode c_O_make 28 = .ok (.aload_n 0, 1) := by decide +kernel
theorem d_O_make_29 : decode c_O_make 29 = .ok (.getfield 15, 3) := by decide +kernel
theorem d_O_make_32 : decode c_O_make 32 = .ok (.iconst 0, 1) := by decide +kernel
theorem d_O_make_33 : decode c_O_make 33 = .ok (.iload_n 3, 1) := by decide +kernel
theorem d_O_make_34 : decode c_O_make 34 = .ok (.iastore, 1) := by decide +kernel
theorem d_O_make_35 : decode c_O_make 35 = .ok (.aload_n 0, 1) := by decide +kernel
theorem d_O_make_36 : decode c_O_make 36 = .ok (.invokevirtual 63, 3) := by decide +kernel
theorem d_O_make_39 : decode c_O_make 39 = .ok (.iconst 1, 1) := by decide +kernel
theorem d_O_make_40 : decode c_O_make 40 = .ok (.istore 4, 2) := by decide +kernel
theorem d_O_make_42 : decode c_O_make 42 = .ok (.iload 4, 2) := by decide +kernel
theorem d_O_make_44 : decode c_O_make 44 = .ok (.aload_n 0, 1) := by decide +kernel
theorem d_O_make_45 : decode c_O_make 45 = .ok (.getfield 42, 3) := by decide +kernel
theorem d_O_make_48 : decode c_O_make 48 = .ok (.if_icmp .gt 47, 3) := by decide +kernel
theorem d_O_make_51 : decode c_O_make 51 = .ok (.aload_n 0, 1) := by decide +kernel
theorem d_O_make_52 : decode c_O_make 52 = .ok (.invokevirtual 66, 3) := by decide +kernel
theorem d_O_make_55 : decode c_O_make 55 = .ok (.aload_n 0, 1) := by decide +kernel
theorem d_O_make_56 : decode c_O_make 56 = .ok (.getfield 15, 3) := by decide +kernel
theorem d_O_make_59 : decode c_O_make 59 = .ok (.iload 4, 2) := by decide +kernel
theorem d_O_make_61 : decode c_O_make 61 = .ok (.aload_n 0, 1) := by decide +kernel
theorem d_O_make_62 : decode c_O_make 62 = .ok (.invokevirtual 59, 3) := by decide +kernel
theorem d_O_make_65 : decode c_O_make 65 = .ok (.iastore, 1) := by decide +kernel
theorem d_O_make_66 : decode c_O_make 66 = .ok (.aload_n 0, 1) := by decide +kernel
theorem d_O_make_67 : decode c_O_make 67 = .ok (.getfield 15, 3) := by decide +kernel
theorem d_O_make_70 : decode c_O_make 70 = .ok (.iload 4, 2) := by decide +kernel
theorem d_O_make_72 : decode c_O_make 72 = .ok (.iaload, 1) := by decide +kernel
theorem d_O_make_73 : decode c_O_make 73 = .ok (.iload_n 3, 1) := by decide +kernel
theorem d_O_make_74 : decode c_O_make 74 = .ok (.if_icmp .ge 15, 3) := by decide +kernel
theorem d_O_make_77 : decode c_O_make 77 = .ok (.aload_n 0, 1) := by decide +kernel
theorem d_O_make_78 : decode c_O_make 78 = .ok (.getfield 15, 3) := by decide +kernel
theorem d_O_make_81 : decode c_O_make 81 = .ok (.iload 4, 2) := by decide +kernel
theorem d_O_make_83 : decode c_O_make 83 = .ok (.iaload, 1) := by decide +kernel
theorem d_O_make_84 : decode c_O_make 84 = .ok (.istore_n 3, 1) := by decide +kernel
theorem d_O_make_85 : decode c_O_make 85 = .ok (.aload_n 0, 1) := by decide +kernel
theorem d_O_make_86 : decode c_O_make 86 = .ok (.invokevirtual 63, 3) := by decide +kernel
theorem d_O_make_89 : decode c_O_make 89 = .ok (.iinc 4 1, 3) := by decide +kernel
theorem d_O_make_92 : decode c_O_make 92 = .ok (.goto (-50), 3) := by decide +kernel
theorem d_O_make_95 : decode c_O_make 95 = .ok (.aload_n 0, 1) := by decide +kernel
theorem d_O_make_96 : decode c_O_make 96 = .ok (.invokevirtual 69, 3) := by decide +kernel
theorem d_O_make_99 : decode c_O_make 99 = .ok (.iload_n 3, 1) := by decide +kernel
theorem d_O_make_100 : decode c_O_make 100 = .ok (.ireturn, 1) := by decide +kernel
theorem d_O_groupAt_0 : decode c_O_groupAt 0 = .ok (.iload_n 1, 1) := by decide +kernel
theorem d_O_groupAt_1 : decode c_O_groupAt 1 = .ok (.istore_n 2, 1) := by decide +kernel
theorem d_O_groupAt_2 : decode c_O_groupAt 2 = .ok (.iconst 0, 1) := by decide +kernel
theorem d_O_groupAt_3 : decode c_O_groupAt 3 = .ok (.istore_n 3, 1) := by decide +kernel
theorem d_O_groupAt_4 : decode c_O_groupAt 4 = .ok (.iload_n 3, 1) := by decide +kernel
theorem d_O_groupAt_5 : decode c_O_groupAt 5 = .ok (.aload_n 0, 1) := by decide +kernel
theorem d_O_groupAt_6 : decode c_O_groupAt 6 = .ok (.getfield 72, 3) := by decide +kernel
theorem d_O_groupAt_9 : decode c_O_groupAt 9 = .ok (.if_icmp .ge 34, 3) := by decide +kernel
theorem d_O_groupAt_12 : decode c_O_groupAt 12 = .ok (.aload_n 0, 1) := by decide +kernel
theorem d_O_groupAt_13 : decode c_O_groupAt 13 = .ok (.getfield 18, 3) := by decide +kernel
theorem d_O_groupAt_16 : decode c_O_groupAt 16 = .ok (.iload_n 3, 1) := by decide +kernel
theorem d_O_groupAt_17 : decode c_O_groupAt 17 = .ok (.iaload, 1) := by decide +kernel
theorem d_O_groupAt_18 : decode c_O_groupAt 18 = .ok (.bipush 16, 2) := by decide +kernel
theorem d_O_groupAt_20 : decode c_O_groupAt 20 = .ok (.if_icmp .ge 17, 3) := by decide +kernel
theorem d_O_groupAt_23 : decode c_O_groupAt 23 = .ok (.iload_n 2, 1) := by decide +kernel
theorem d_O_groupAt_24 : decode c_O_groupAt 24 = .ok (.ifCond .ne 10, 3) := by decide +kernel
theorem d_O_groupAt_27 : decode c_O_groupAt 27 = .ok (.aload_n 0, 1) := by decide +kernel
theorem d_O_groupAt_28 : decode c_O_groupAt 28 = .ok (.getfield 18, 3) := by decide +kernel
theorem d_O_groupAt_31 : decode c_O_groupAt 31 = .ok (.iload_n 3, 1) := by decide +kernel
theorem d_O_groupAt_32 : decode c_O_groupAt 32 = .ok (.iaload, 1) := by decide +kernel
theorem d_O_groupAt_33 : decode c_O_groupAt 33 = .ok (.ireturn, 1) := by decide +kernel
theorem d_O_groupAt_34 : decode c_O_groupAt 34 = .ok (.iinc 2 (-1), 3) := by decide +kernel
theorem d_O_groupAt_37 : decode c_O_groupAt 37 = .ok (.iinc 3 1, 3) := by decide +kernel
theorem d_O_groupAt_40 : decode c_O_groupAt 40 = .ok (.goto (-36), 3) := by decide +kernel
theorem d_O_groupAt_43 : decode c_O_groupAt 43 = .ok (.iconst 0, 1) := by decide +kernel
theorem d_O_groupAt_44 : decode c_O_groupAt 44 = .ok (.ireturn, 1) := by decide +kernel
theorem d_O_layMarks_0 : decode c_O_layMarks 0 = .ok (.aload_n 0, 1) := by decide +kernel
theorem d_O_layMarks_1 : decode c_O_layMarks 1 = .ok (.iconst 0, 1) := by decide +kernel
theorem d_O_layMarks_2 : decode c_O_layMarks 2 = .ok (.putfield 72, 3) := by decide +kernel
theorem d_O_layMarks_5 : decode c_O_layMarks 5 = .ok (.iconst 0, 1) := by decide +kernel
theorem d_O_layMarks_6 : decode c_O_layMarks 6 = .ok (.istore_n 2, 1) := by decide +kernel
theorem d_O_layMarks_7 : decode c_O_layMarks 7 = .ok (.iload_n 2, 1) := by decide +kernel
theorem d_O_layMarks_8 : decode c_O_layMarks 8 = .ok (.aload_n 0, 1) := by decide +kernel
theorem d_O_layMarks_9 : decode c_O_layMarks 9 = .ok (.getfield 51, 3) := by decide +kernel
theorem d_O_layMarks_12 : decode c_O_layMarks 12 = .ok (.if_icmp .ge 125, 3) := by decide +kernel
theorem d_O_layMarks_15 : decode c_O_layMarks 15 = .ok (.aload_n 0, 1) := by decide +kernel
theorem d_O_layMarks_16 : decode c_O_layMarks 16 = .ok (.getfield 24, 3) := by decide +kernel
theorem d_O_layMarks_19 : decode c_O_layMarks 19 = .ok (.iload_n 2, 1) := by decide +kernel
theorem d_O_layMarks_20 : decode c_O_layMarks 20 = .ok (.aload_n 0, 1) := by decide +kernel
theorem d_O_layMarks_21 : decode c_O_layMarks 21 = .ok (.getfield 72, 3) := by decide +kernel
theorem d_O_layMarks_24 : decode c_O_layMarks 24 = .ok (.iastore, 1) := by decide +kernel
theorem d_O_layMarks_25 : decode c_O_layMarks 25 = .ok (.iconst 0, 1) := by decide +kernel
theorem d_O_layMarks_26 : decode c_O_layMarks 26 = .ok (.istore_n 3, 1) := by decide +kernel
theorem d_O_layMarks_27 : decode c_O_layMarks 27 = .ok (.iload_n 3, 1) := by decide +kernel
theorem d_O_layMarks_28 : decode c_O_layMarks 28 = .ok (.bipush 16, 2) := by decide +kernel
theorem d_O_layMarks_30 : decode c_O_layMarks 30 = .ok (.if_icmp .ge 35, 3) := by decide +kernel
theorem d_O_layMarks_33 : decode c_O_layMarks 33 = .ok (.aload_n 1, 1) := by decide +kernel
theorem d_O_layMarks_34 : decode c_O_layMarks 34 = .ok (.getfield 75, 3) := by decide +kernel
theorem d_O_layMarks_37 : decode c_O_layMarks 37 = .ok (.iload_n 3, 1) := by decide +kernel
theorem d_O_layMarks_38 : decode c_O_layMarks 38 = .ok (.invokestatic 78, 3) := by decide +kernel
theorem d_O_layMarks_41 : decode c_O_layMarks 41 = .ok (.ifCond .eq 18, 3) := by decide +kernel
theorem d_O_layMarks_44 : decode c_O_layMarks 44 = .ok (.aload_n 1, 1) := by decide +kernel
theorem d_O_layMarks_45 : decode c_O_layMarks 45 = .ok (.getfield 82, 3) := by decide +kernel
theorem d_O_layMarks_48 : decode c_O_layMarks 48 = .ok (.iload_n 3, 1) := by decide +kernel
theorem d_O_layMarks_49 : decode c_O_layMarks 49 = .ok (.iaload, 1) := by decide +kernel
theorem d_O_layMarks_50 : decode c_O_layMarks 50 = .ok (.iload_n 2, 1) := by decide +kernel
theorem d_O_layMarks_51 : decode c_O_layMarks 51 = .ok (.if_icmp .ne 8, 3) := by decide +kernel
theorem d_O_layMarks_54 : decode c_O_layMarks 54 = .ok (.aload_n 0, 1) := by decide +kernel
theorem d_O_layMarks_55 : decode c_O_layMarks 55 = .ok (.iload_n 3, 1) := by decide +kernel
theorem d_O_layMarks_56 : decode c_O_layMarks 56 = .ok (.invokevirtual 85, 3) := by decide +kernel
theorem d_O_layMarks_59 : decode c_O_layMarks 59 = .ok (.iinc 3 1, 3) := by decide +kernel
theorem d_O_layMarks_62 : decode c_O_layMarks 62 = .ok (.goto (-35), 3) := by decide +kernel
theorem d_O_layMarks_65 : decode c_O_layMarks 65 = .ok (.iconst 0, 1) := by decide +kernel
theorem d_O_layMarks_66 : decode c_O_layMarks 66 = .ok (.istore_n 3, 1) := by decide +kernel
theorem d_O_layMarks_67 : decode c_O_layMarks 67 = .ok (.iload_n 3, 1) := by decide +kernel
theorem d_O_layMarks_68 : decode c_O_layMarks 68 = .ok (.aload_n 1, 1) := by decide +kernel
theorem d_O_layMarks_69 : decode c_O_layMarks 69 = .ok (.getfield 89, 3) := by decide +kernel
theorem d_O_layMarks_72 : decode c_O_layMarks 72 = .ok (.if_icmp .ge 50, 3) := by decide +kernel
theorem d_O_layMarks_75 : decode c_O_layMarks 75 = .ok (.iload_n 2, 1) := by decide +kernel
theorem d_O_layMarks_76 : decode c_O_layMarks 76 = .ok (.aload_n 1, 1) := by decide +kernel
theorem d_O_layMarks_77 : decode c_O_layMarks 77 = .ok (.getfield 82, 3) := by decide +kernel
theorem d_O_layMarks_80 : decode c_O_layMarks 80 = .ok (.aload_n 1, 1) := by decide +kernel
theorem d_O_layMarks_81 : decode c_O_layMarks 81 = .ok (.getfield 92, 3) := by decide +kernel
theorem d_O_layMarks_84 : decode c_O_layMarks 84 = .ok (.iload_n 3, 1) := by decide +kernel
theorem d_O_layMarks_85 : decode c_O_layMarks 85 = .ok (.iaload, 1) := by decide +kernel
theorem d_O_layMarks_86 : decode c_O_layMarks 86 = .ok (.iaload, 1) := by decide +kernel
theorem d_O_layMarks_87 : decode c_O_layMarks 87 = .ok (.isub, 1) := by decide +kernel
theorem d_O_layMarks_88 : decode c_O_layMarks 88 = .ok (.istore 4, 2) := by decide +kernel
theorem d_O_layMarks_90 : decode c_O_layMarks 90 = .ok (.iload 4, 2) := by decide +kernel
theorem d_O_layMarks_92 : decode c_O_layMarks 92 = .ok (.ifCond .le 24, 3) := by decide +kernel
theorem d_O_layMarks_95 : decode c_O_layMarks 95 = .ok (.iload 4, 2) := by decide +kernel
theorem d_O_layMarks_97 : decode c_O_layMarks 97 = .ok (.aload_n 1, 1) := by decide +kernel
theorem d_O_layMarks_98 : decode c_O_layMarks 98 = .ok (.iload_n 3, 1) := by decide +kernel
theorem d_O_layMarks_99 : decode c_O_layMarks 99 = .ok (.invokevirtual 95, 3) := by decide +kernel
theorem d_O_layMarks_102 : decode c_O_layMarks 102 = .ok (.if_icmp .gt 14, 3) := by decide +kernel
theorem d_O_layMarks_105 : decode c_O_layMarks 105 = .ok (.aload_n 0, 1) := by decide +kernel
theorem d_O_layMarks_106 : decode c_O_layMarks 106 = .ok (.aload_n 1, 1) := by decide +kernel
theorem d_O_layMarks_107 : decode c_O_layMarks 107 = .ok (.iload_n 3, 1) := by decide +kernel
theorem d_O_layMarks_108 : decode c_O_layMarks 108 = .ok (.iload 4, 2) := by decide +kernel
theorem d_O_layMarks_110 : decode c_O_layMarks 110 = .ok (.invokevirtual 99, 3) := by decide +kernel
theorem d_O_layMarks_113 : decode c_O_layMarks 113 = .ok (.invokevirtual 85, 3) := by decide +kernel
theorem d_O_layMarks_116 : decode c_O_layMarks 116 = .ok (.iinc 3 1, 3) := by decide +kernel
theorem d_O_layMarks_119 : decode c_O_layMarks 119 = .ok (.goto (-52), 3) := by decide +kernel
theorem d_O_layMarks_122 : decode c_O_layMarks 122 = .ok (.aload_n 0, 1) := by decide +kernel
theorem d_O_layMarks_123 : decode c_O_layMarks 123 = .ok (.iload_n 2, 1) := by decide +kernel
theorem d_O_layMarks_124 : decode c_O_layMarks 124 = .ok (.aload_n 0, 1) := by decide +kernel
theorem d_O_layMarks_125 : decode c_O_layMarks 125 = .ok (.getfield 72, 3) := by decide +kernel
theorem d_O_layMarks_128 : decode c_O_layMarks 128 = .ok (.invokevirtual 103, 3) := by decide +kernel
theorem d_O_layMarks_131 : decode c_O_layMarks 131 = .ok (.iinc 2 1, 3) := by decide +kernel
theorem d_O_layMarks_134 : decode c_O_layMarks 134 = .ok (.goto (-127), 3) := by decide +kernel
theorem d_O_layMarks_137 : decode c_O_layMarks 137 = .ok (.aload_n 0, 1) := by decide +kernel
theorem d_O_layMarks_138 : decode c_O_layMarks 138 = .ok (.getfield 24, 3) := by decide +kernel
theorem d_O_layMarks_141 : decode c_O_layMarks 141 = .ok (.aload_n 0, 1) := by decide +kernel
theorem d_O_layMarks_142 : decode c_O_layMarks 142 = .ok (.getfield 51, 3) := by decide +kernel
theorem d_O_layMarks_145 : decode c_O_layMarks 145 = .ok (.aload_n 0, 1) := by decide +kernel
theorem d_O_layMarks_146 : decode c_O_layMarks 146 = .ok (.getfield 72, 3) := by decide +kernel
theorem d_O_layMarks_149 : decode c_O_layMarks 149 = .ok (.iastore, 1) := by decide +kernel
theorem d_O_layMarks_150 : decode c_O_layMarks 150 = .ok (.return_, 1) := by decide +kernel
theorem d_O_layMark_0 : decode c_O_layMark 0 = .ok (.aload_n 0, 1) := by decide +kernel
theorem d_O_layMark_1 : decode c_O_layMark 1 = .ok (.getfield 18, 3) := by decide +kernel
theorem d_O_layMark_4 : decode c_O_layMark 4 = .ok (.aload_n 0, 1) := by decide +kernel
theorem d_O_layMark_5 : decode c_O_layMark 5 = .ok (.getfield 72, 3) := by decide +kernel
theorem d_O_layMark_8 : decode c_O_layMark 8 = .ok (.iload_n 1, 1) := by decide +kernel
theorem d_O_layMark_9 : decode c_O_layMark 9 = .ok (.iastore, 1) := by decide +kernel
theorem d_O_layMark_10 : decode c_O_layMark 10 = .ok (.aload_n 0, 1) := by decide +kernel
theorem d_O_layMark_11 : decode c_O_layMark 11 = .ok (.dup, 1) := by decide +kernel
theorem d_O_layMark_12 : decode c_O_layMark 12 = .ok (.getfield 72, 3) := by decide +kernel
theorem d_O_layMark_15 : decode c_O_layMark 15 = .ok (.iconst 1, 1) := by decide +kernel
theorem d_O_layMark_16 : decode c_O_layMark 16 = .ok (.iadd, 1) := by decide +kernel
theorem d_O_layMark_17 : decode c_O_layMark 17 = .ok (.putfield 72, 3) := by decide +kernel
theorem d_O_layMark_20 : decode c_O_layMark 20 = .ok (.return_, 1) := by decide +kernel
theorem d_O_layPieces_0 : decode c_O_layPieces 0 = .ok (.aload_n 0, 1) := by decide +kernel
theorem d_O_layPieces_1 : decode c_O_layPieces 1 = .ok (.iconst 0, 1) := by decide +kernel
theorem d_O_layPieces_2 : decode c_O_layPieces 2 = .ok (.putfield 107, 3) := by decide +kernel
theorem d_O_layPieces_5 : decode c_O_layPieces 5 = .ok (.iconst 0, 1) := by decide +kernel
theorem d_O_layPieces_6 : decode c_O_layPieces 6 = .ok (.istore_n 2, 1) := by decide +kernel
theorem d_O_layPieces_7 : decode c_O_layPieces 7 = .ok (.iload_n 2, 1) := by decide +kernel
theorem d_O_layPieces_8 : decode c_O_layPieces 8 = .ok (.aload_n 0, 1) := by decide +kernel
theorem d_O_layPieces_9 : decode c_O_layPieces 9 = .ok (.getfield 51, 3) := by decide +kernel
theorem d_O_layPieces_12 : decode c_O_layPieces 12 = .ok (.if_icmp .ge 109, 3) := by decide +kernel
theorem d_O_layPieces_15 : decode c_O_layPieces 15 = .ok (.aload_n 0, 1) := by decide +kernel
theorem d_O_layPieces_16 : decode c_O_layPieces 16 = .ok (.getfield 33, 3) := by decide +kernel
theorem d_O_layPieces_19 : decode c_O_layPieces 19 = .ok (.iload_n 2, 1) := by decide +kernel
theorem d_O_layPieces_20 : decode c_O_layPieces 20 = .ok (.aload_n 0, 1) := by decide +kernel
theorem d_O_layPieces_21 : decode c_O_layPieces 21 = .ok (.getfield 107, 3) := by decide +kernel
theorem d_O_layPieces_24 : decode c_O_layPieces 24 = .ok (.iastore, 1) := by decide +kernel
theorem d_O_layPieces_25 : decode c_O_layPieces 25 = .ok (.iconst 0, 1) := by decide +kernel
theorem d_O_layPieces_26 : decode c_O_layPieces 26 = .ok (.istore_n 3, 1) := by decide +kernel
theorem d_O_layPieces_27 : decode c_O_layPieces 27 = .ok (.iload_n 3, 1) := by decide +kernel
theorem d_O_layPieces_28 : decode c_O_layPieces 28 = .ok (.aload_n 1, 1) := by decide +kernel
theorem d_O_layPieces_29 : decode c_O_layPieces 29 = .ok (.getfield 89, 3) := by decide +kernel
theorem d_O_layPieces_32 : decode c_O_layPieces 32 = .ok (.if_icmp .ge 83, 3) := by decide +kernel
theorem d_O_layPieces_35 : decode c_O_layPieces 35 = .ok (.iload_n 2, 1) := by decide +kernel
theorem d_O_layPieces_36 : decode c_O_layPieces 36 = .ok (.aload_n 1, 1) := by decide +kernel
theorem d_O_layPieces_37 : decode c_O_layPieces 37 = .ok (.getfield 82, 3) := by decide +kernel
theorem d_O_layPieces_40 : decode c_O_layPieces 40 = .ok (.aload_n 1, 1) := by decide +kernel
theorem d_O_layPieces_41 : decode c_O_layPieces 41 = .ok (.getfield 92, 3) := by decide +kernel
theorem d_O_layPieces_44 : decode c_O_layPieces 44 = .ok (.iload_n 3, 1) := by decide +kernel
theorem d_O_layPieces_45 : decode c_O_layPieces 45 = .ok (.iaload, 1) := by decide +kernel
theorem d_O_layPieces_46 : decode c_O_layPieces 46 = .ok (.iaload, 1) := by decide +kernel
theorem d_O_layPieces_47 : decode c_O_layPieces 47 = .ok (.isub, 1) := by decide +kernel
theorem d_O_layPieces_48 : decode c_O_layPieces 48 = .ok (.istore 4, 2) := by decide +kernel
theorem d_O_layPieces_50 : decode c_O_layPieces 50 = .ok (.iload 4, 2) := by decide +kernel
theorem d_O_layPieces_52 : decode c_O_layPieces 52 = .ok (.ifCond .lt 57, 3) := by decide +kernel
theorem d_O_layPieces_55 : decode c_O_layPieces 55 = .ok (.iload 4, 2) := by decide +kernel
theorem d_O_layPieces_57 : decode c_O_layPieces 57 = .ok (.aload_n 1, 1) := by decide +kernel
theorem d_O_layPieces_58 : decode c_O_layPieces 58 = .ok (.iload_n 3, 1) := by decide +kernel
theorem d_O_layPieces_59 : decode c_O_layPieces 59 = .ok (.invokevirtual 95, 3) := by decide +kernel
theorem d_O_layPieces_62 : decode c_O_layPieces 62 = .ok (.if_icmp .gt 47, 3) := by decide +kernel
theorem d_O_layPieces_65 : decode c_O_layPieces 65 = .ok (.aload_n 0, 1) := by decide +kernel
theorem d_O_layPieces_66 : decode c_O_layPieces 66 = .ok (.getfield 27, 3) := by decide +kernel
theorem d_O_layPieces_69 : decode c_O_layPieces 69 = .ok (.aload_n 0, 1) := by decide +kernel
theorem d_O_layPieces_70 : decode c_O_layPieces 70 = .ok (.getfield 107, 3) := by decide +kernel
theorem d_O_layPieces_73 : decode c_O_layPieces 73 = .ok (.aload_n 1, 1) := by decide +kernel
theorem d_O_layPieces_74 : decode c_O_layPieces 74 = .ok (.iload_n 3, 1) := by decide +kernel
theorem d_O_layPieces_75 : decode c_O_layPieces 75 = .ok (.iload 4, 2) := by decide +kernel
theorem d_O_layPieces_77 : decode c_O_layPieces 77 = .ok (.invokevirtual 99, 3) := by decide +kernel
theorem d_O_layPieces_80 : decode c_O_layPieces 80 = .ok (.iastore, 1) := by decide +kernel
theorem d_O_layPieces_81 : decode c_O_layPieces 81 = .ok (.aload_n 0, 1) := by decide +kernel
theorem d_O_layPieces_82 : decode c_O_layPieces 82 = .ok (.getfield 30, 3) := by decide +kernel
theorem d_O_layPieces_85 : decode c_O_layPieces 85 = .ok (.aload_n 0, 1) := by decide +kernel
theorem d_O_layPieces_86 : decode c_O_layPieces 86 = .ok (.getfield 107, 3) := by decide +kernel
theorem d_O_layPieces_89 : decode c_O_layPieces 89 = .ok (.aload_n 1, 1) := by decide +kernel
theorem d_O_layPieces_90 : decode c_O_layPieces 90 = .ok (.iload_n 3, 1) := by decide +kernel
theorem d_O_layPieces_91 : decode c_O_layPieces 91 = .ok (.iload 4, 2) := by decide +kernel
theorem d_O_layPieces_93 : decode c_O_layPieces 93 = .ok (.iconst 1, 1) := by decide +kernel
theorem d_O_layPieces_94 : decode c_O_layPieces 94 = .ok (.iadd, 1) := by decide +kernel
theorem d_O_layPieces_95 : decode c_O_layPieces 95 = .ok (.invokevirtual 99, 3) := by decide +kernel
theorem d_O_layPieces_98 : decode c_O_layPieces 98 = .ok (.iastore, 1) := by decide +kernel
theorem d_O_layPieces_99 : decode c_O_layPieces 99 = .ok (.aload_n 0, 1) := by decide +kernel
theorem d_O_layPieces_100 : decode c_O_layPieces 100 = .ok (.dup, 1) := by decide +kernel
theorem d_O_layPieces_101 : decode c_O_layPieces 101 = .ok (.getfield 107, 3) := by decide +kernel
theorem d_O_layPieces_104 : decode c_O_layPieces 104 = .ok (.iconst 1, 1) := by decide +kernel
theorem d_O_layPieces_105 : decode c_O_layPieces 105 = .ok (.iadd, 1) := by decide +kernel
theorem d_O_layPieces_106 : decode c_O_layPieces 106 = .ok (.putfield 107, 3) := by decide +kernel
theorem d_O_layPieces_109 : decode c_O_layPieces 109 = .ok (.iinc 3 1, 3) := by decide +kernel
theorem d_O_layPieces_112 : decode c_O_layPieces 112 = .ok (.goto (-85), 3) := by decide +kernel
theorem d_O_layPieces_115 : decode c_O_layPieces 115 = .ok (.iinc 2 1, 3) := by decide +kernel
theorem d_O_layPieces_118 : decode c_O_layPieces 118 = .ok (.goto (-111), 3) := by decide +kernel
theorem d_O_layPieces_121 : decode c_O_layPieces 121 = .ok (.aload_n 0, 1) := by decide +kernel
theorem d_O_layPieces_122 : decode c_O_layPieces 122 = .ok (.getfield 33, 3) := by decide +kernel
theorem d_O_layPieces_125 : decode c_O_layPieces 125 = .ok (.aload_n 0, 1) := by decide +kernel
theorem d_O_layPieces_126 : decode c_O_layPieces 126 = .ok (.getfield 51, 3) := by decide +kernel
theorem d_O_layPieces_129 : decode c_O_layPieces 129 = .ok (.aload_n 0, 1) := by decide +kernel
theorem d_O_layPieces_130 : decode c_O_layPieces 130 = .ok (.getfield 107, 3) := by decide +kernel
theorem d_O_layPieces_133 : decode c_O_layPieces 133 = .ok (.iastore, 1) := by decide +kernel
theorem d_O_layPieces_134 : decode c_O_layPieces 134 = .ok (.return_, 1) := by decide +kernel
theorem d_O_runRound_0 : decode c_O_runRound 0 = .ok (.iconst 1, 1) := by decide +kernel
theorem d_O_runRound_1 : decode c_O_runRound 1 = .ok (.istore_n 1, 1) := by decide +kernel
theorem d_O_runRound_2 : decode c_O_runRound 2 = .ok (.iload_n 1, 1) := by decide +kernel
theorem d_O_runRound_3 : decode c_O_runRound 3 = .ok (.aload_n 0, 1) := by decide +kernel
theorem d_O_runRound_4 : decode c_O_runRound 4 = .ok (.getfield 51, 3) := by decide +kernel
theorem d_O_runRound_7 : decode c_O_runRound 7 = .ok (.if_icmp .ge 25, 3) := by decide +kernel
theorem d_O_runRound_10 : decode c_O_runRound 10 = .ok (.aload_n 0, 1) := by decide +kernel
theorem d_O_runRound_11 : decode c_O_runRound 11 = .ok (.iload_n 1, 1) := by decide +kernel
theorem d_O_runRound_12 : decode c_O_runRound 12 = .ok (.iload_n 1, 1) := by decide +kernel
theorem d_O_runRound_13 : decode c_O_runRound 13 = .ok (.iconst 1, 1) := by decide +kernel
theorem d_O_runRound_14 : decode c_O_runRound 14 = .ok (.isub, 1) := by decide +kernel
theorem d_O_runRound_15 : decode c_O_runRound 15 = .ok (.aload_n 0, 1) := by decide +kernel
theorem d_O_runRound_16 : decode c_O_runRound 16 = .ok (.getfield 30, 3) := by decide +kernel
theorem d_O_runRound_19 : decode c_O_runRound 19 = .ok (.aload_n 0, 1) := by decide +kernel
theorem d_O_runRound_20 : decode c_O_runRound 20 = .ok (.getfield 27, 3) := by decide +kernel
theorem d_O_runRound_23 : decode c_O_runRound 23 = .ok (.invokevirtual 110, 3) := by decide +kernel
theorem d_O_runRound_26 : decode c_O_runRound 26 = .ok (.iinc 1 1, 3) := by decide +kernel
theorem d_O_runRound_29 : decode c_O_runRound 29 = .ok (.goto (-27), 3) := by decide +kernel
theorem d_O_runRound_32 : decode c_O_runRound 32 = .ok (.aload_n 0, 1) := by decide +kernel
theorem d_O_runRound_33 : decode c_O_runRound 33 = .ok (.getfield 51, 3) := by decide +kernel
theorem d_O_runRound_36 : decode c_O_runRound 36 = .ok (.iconst 2, 1) := by decide +kernel
theorem d_O_runRound_37 : decode c_O_runRound 37 = .ok (.isub, 1) := by decide +kernel
theorem d_O_runRound_38 : decode c_O_runRound 38 = .ok (.istore_n 1, 1) := by decide +kernel
theorem d_O_runRound_39 : decode c_O_runRound 39 = .ok (.iload_n 1, 1) := by decide +kernel
theorem d_O_runRound_40 : decode c_O_runRound 40 = .ok (.ifCond .lt 23, 3) := by decide +kernel
theorem d_O_runRound_43 : decode c_O_runRound 43 = .ok (.aload_n 0, 1) := by decide +kernel
theorem d_O_runRound_44 : decode c_O_runRound 44 = .ok (.iload_n 1, 1) := by decide +kernel
theorem d_O_runRound_45 : decode c_O_runRound 45 = .ok (.iload_n 1, 1) := by decide +kernel
theorem d_O_runRound_46 : decode c_O_runRound 46 = .ok (.aload_n 0, 1) := by decide +kernel
theorem d_O_runRound_47 : decode c_O_runRound 47 = .ok (.getfield 27, 3) := by decide +kernel
theorem d_O_runRound_50 : decode c_O_runRound 50 = .ok (.aload_n 0, 1) := by decide +kernel
theorem d_O_runRound_51 : decode c_O_runRound 51 = .ok (.getfield 30, 3) := by decide +kernel
theorem d_O_runRound_54 : decode c_O_runRound 54 = .ok (.invokevirtual 110, 3) := by decide +kernel
theorem d_O_runRound_57 : decode c_O_runRound 57 = .ok (.iinc 1 (-1), 3) := by decide +kernel
theorem d_O_runRound_60 : decode c_O_runRound 60 = .ok (.goto (-21), 3) := by decide +kernel
theorem d_O_runRound_63 : decode c_O_runRound 63 = .ok (.return_, 1) := by decide +kernel
theorem d_O_arrange_0 : decode c_O_arrange 0 = .ok (.aload_n 0, 1) := by decide +kernel
theorem d_O_arrange_1 : decode c_O_arrange 1 = .ok (.iload_n 1, 1) := by decide +kernel
theorem d_O_arrange_2 : decode c_O_arrange 2 = .ok (.iload_n 2, 1) := by decide +kernel
theorem d_O_arrange_3 : decode c_O_arrange 3 = .ok (.aload_n 3, 1) := by decide +kernel
theorem d_O_arrange_4 : decode c_O_arrange 4 = .ok (.aload 4, 2) := by decide +kernel
theorem d_O_arrange_6 : decode c_O_arrange 6 = .ok (.invokevirtual 114, 3) := by decide +kernel
theorem d_O_arrange_9 : decode c_O_arrange 9 = .ok (.aload_n 0, 1) := by decide +kernel
theorem d_O_arrange_10 : decode c_O_arrange 10 = .ok (.aload_n 0, 1) := by decide +kernel
theorem d_O_arrange_11 : decode c_O_arrange 11 = .ok (.getfield 24, 3) := by decide +kernel
theorem d_O_arrange_14 : decode c_O_arrange 14 = .ok (.iload_n 1, 1) := by decide +kernel
theorem d_O_arrange_15 : decode c_O_arrange 15 = .ok (.iaload, 1) := by decide +kernel
theorem d_O_arrange_16 : decode c_O_arrange 16 = .ok (.aload_n 0, 1) := by decide +kernel
theorem d_O_arrange_17 : decode c_O_arrange 17 = .ok (.getfield 24, 3) := by decide +kernel
theorem d_O_arrange_20 : decode c_O_arrange 20 = .ok (.iload_n 1, 1) := by decide +kernel
theorem d_O_arrange_21 : decode c_O_arrange 21 = .ok (.iconst 1, 1) := by decide +kernel
theorem d_O_arrange_22 : decode c_O_arrange 22 = .ok (.iadd, 1) := by decide +kernel
theorem d_O_arrange_23 : decode c_O_arrange 23 = .ok (.iaload, 1) := by decide +kernel
theorem d_O_arrange_24 : decode c_O_arrange 24 = .ok (.invokevirtual 117, 3) := by decide +kernel
theorem d_O_arrange_27 : decode c_O_arrange 27 = .ok (.aload_n 0, 1) := by decide +kernel
theorem d_O_arrange_28 : decode c_O_arrange 28 = .ok (.iload_n 1, 1) := by decide +kernel
theorem d_O_arrange_29 : decode c_O_arrange 29 = .ok (.aload_n 0, 1) := by decide +kernel
theorem d_O_arrange_30 : decode c_O_arrange 30 = .ok (.getfield 24, 3) := by decide +kernel
theorem d_O_arrange_33 : decode c_O_arrange 33 = .ok (.iload_n 1, 1) := by decide +kernel
theorem d_O_arrange_34 : decode c_O_arrange 34 = .ok (.iconst 1, 1) := by decide +kernel
theorem d_O_arrange_35 : decode c_O_arrange 35 = .ok (.iadd, 1) := by decide +kernel
theorem d_O_arrange_36 : decode c_O_arrange 36 = .ok (.iaload, 1) := by decide +kernel
theorem d_O_arrange_37 : decode c_O_arrange 37 = .ok (.invokevirtual 103, 3) := by decide +kernel
theorem d_O_arrange_40 : decode c_O_arrange 40 = .ok (.return_, 1) := by decide +kernel
theorem d_O_weigh_0 : decode c_O_weigh 0 = .ok (.aload_n 0, 1) := by decide +kernel
theorem d_O_weigh_1 : decode c_O_weigh 1 = .ok (.getfield 24, 3) := by decide +kernel
theorem d_O_weigh_4 : decode c_O_weigh 4 = .ok (.iload_n 1, 1) := by decide +kernel
theorem d_O_weigh_5 : decode c_O_weigh 5 = .ok (.iaload, 1) := by decide +kernel
theorem d_O_weigh_6 : decode c_O_weigh 6 = .ok (.istore 5, 2) := by decide +kernel
theorem d_O_weigh_8 : decode c_O_weigh 8 = .ok (.iload 5, 2) := by decide +kernel
theorem d_O_weigh_10 : decode c_O_weigh 10 = .ok (.aload_n 0, 1) := by decide +kernel
theorem d_O_weigh_11 : decode c_O_weigh 11 = .ok (.getfield 24, 3) := by decide +kernel
theorem d_O_weigh_14 : decode c_O_weigh 14 = .ok (.iload_n 1, 1) := by decide +kernel
theorem d_O_weigh_15 : decode c_O_weigh 15 = .ok (.iconst 1, 1) := by decide +kernel
theorem d_O_weigh_16 : decode c_O_weigh 16 = .ok (.iadd, 1) := by decide +kernel
theorem d_O_weigh_17 : decode c_O_weigh 17 = .ok (.iaload, 1) := by decide +kernel
theorem d_O_weigh_18 : decode c_O_weigh 18 = .ok (.if_icmp .ge 35, 3) := by decide +kernel
theorem d_O_weigh_21 : decode c_O_weigh 21 = .ok (.aload_n 0, 1) := by decide +kernel
theorem d_O_weigh_22 : decode c_O_weigh 22 = .ok (.getfield 36, 3) := by decide +kernel
theorem d_O_weigh_25 : decode c_O_weigh 25 = .ok (.aload_n 0, 1) := by decide +kernel
theorem d_O_weigh_26 : decode c_O_weigh 26 = .ok (.getfield 18, 3) := by decide +kernel
theorem d_O_weigh_29 : decode c_O_weigh 29 = .ok (.iload 5, 2) := by decide +kernel
theorem d_O_weigh_31 : decode c_O_weigh 31 = .ok (.iaload, 1) := by decide +kernel
theorem d_O_weigh_32 : decode c_O_weigh 32 = .ok (.iconst 0, 1) := by decide +kernel
theorem d_O_weigh_33 : decode c_O_weigh 33 = .ok (.iastore, 1) := by decide +kernel
theorem d_O_weigh_34 : decode c_O_weigh 34 = .ok (.aload_n 0, 1) := by decide +kernel
theorem d_O_weigh_35 : decode c_O_weigh 35 = .ok (.getfield 39, 3) := by decide +kernel
theorem d_O_weigh_38 : decode c_O_weigh 38 = .ok (.aload_n 0, 1) := by decide +kernel
theorem d_O_weigh_39 : decode c_O_weigh 39 = .ok (.getfield 18, 3) := by decide +kernel
theorem d_O_weigh_42 : decode c_O_weigh 42 = .ok (.iload 5, 2) := by decide +kernel
theorem d_O_weigh_44 : decode c_O_weigh 44 = .ok (.iaload, 1) := by decide +kernel
theorem d_O_weigh_45 : decode c_O_weigh 45 = .ok (.iconst 0, 1) := by decide +kernel
theorem d_O_weigh_46 : decode c_O_weigh 46 = .ok (.iastore, 1) := by decide +kernel
theorem d_O_weigh_47 : decode c_O_weigh 47 = .ok (.iinc 5 1, 3) := by decide +kernel
theorem d_O_weigh_50 : decode c_O_weigh 50 = .ok (.goto (-42), 3) := by decide +kernel
theorem d_O_weigh_53 : decode c_O_weigh 53 = .ok (.aload_n 0, 1) := by decide +kernel
theorem d_O_weigh_54 : decode c_O_weigh 54 = .ok (.getfield 33, 3) := by decide +kernel
theorem d_O_weigh_57 : decode c_O_weigh 57 = .ok (.iload_n 2, 1) := by decide +kernel
theorem d_O_weigh_58 : decode c_O_weigh 58 = .ok (.iaload, 1) := by decide +kernel
theorem d_O_weigh_59 : decode c_O_weigh 59 = .ok (.istore 5, 2) := by decide +kernel
theorem d_O_weigh_61 : decode c_O_weigh 61 = .ok (.iload 5, 2) := by decide +kernel
theorem d_O_weigh_63 : decode c_O_weigh 63 = .ok (.aload_n 0, 1) := by decide +kernel
theorem d_O_weigh_64 : decode c_O_weigh 64 = .ok (.getfield 33, 3) := by decide +kernel
theorem d_O_weigh_67 : decode c_O_weigh 67 = .ok (.iload_n 2, 1) := by decide +kernel
theorem d_O_weigh_68 : decode c_O_weigh 68 = .ok (.iconst 1, 1) := by decide +kernel
theorem d_O_weigh_69 : decode c_O_weigh 69 = .ok (.iadd, 1) := by decide +kernel
theorem d_O_weigh_70 : decode c_O_weigh 70 = .ok (.iaload, 1) := by decide +kernel
theorem d_O_weigh_71 : decode c_O_weigh 71 = .ok (.if_icmp .ge 44, 3) := by decide +kernel
theorem d_O_weigh_74 : decode c_O_weigh 74 = .ok (.aload_n 0, 1) := by decide +kernel
theorem d_O_weigh_75 : decode c_O_weigh 75 = .ok (.getfield 36, 3) := by decide +kernel
theorem d_O_weigh_78 : decode c_O_weigh 78 = .ok (.aload_n 3, 1) := by decide +kernel
theorem d_O_weigh_79 : decode c_O_weigh 79 = .ok (.iload 5, 2) := by decide +kernel
theorem d_O_weigh_81 : decode c_O_weigh 81 = .ok (.iaload, 1) := by decide +kernel
theorem d_O_weigh_82 : decode c_O_weigh 82 = .ok (.dup2, 1) := by decide +kernel
theorem d_O_weigh_83 : decode c_O_weigh 83 = .ok (.iaload, 1) := by decide +kernel
theorem d_O_weigh_84 : decode c_O_weigh 84 = .ok (.aload_n 0, 1) := by decide +kernel
theorem d_O_weigh_85 : decode c_O_weigh 85 = .ok (.getfield 9, 3) := by decide +kernel
theorem d_O_weigh_88 : decode c_O_weigh 88 = .ok (.aload 4, 2) := by decide +kernel
theorem d_O_weigh_90 : decode c_O_weigh 90 = .ok (.iload 5, 2) := by decide +kernel
theorem d_O_weigh_92 : decode c_O_weigh 92 = .ok (.iaload, 1) := by decide +kernel
theorem d_O_weigh_93 : decode c_O_weigh 93 = .ok (.iaload, 1) := by decide +kernel
theorem d_O_weigh_94 : decode c_O_weigh 94 = .ok (.iadd, 1) := by decide +kernel
theorem d_O_weigh_95 : decode c_O_weigh 95 = .ok (.iastore, 1) := by decide +kernel
theorem d_O_weigh_96 : decode c_O_weigh 96 = .ok (.aload_n 0, 1) := by decide +kernel
theorem d_O_weigh_97 : decode c_O_weigh 97 = .ok (.getfield 39, 3) := by decide +kernel
theorem d_O_weigh_100 : decode c_O_weigh 100 = .ok (.aload_n 3, 1) := by decide +kernel
theorem d_O_weigh_101 : decode c_O_weigh 101 = .ok (.iload 5, 2) := by decide +kernel
theorem d_O_weigh_103 : decode c_O_weigh 103 = .ok (.iaload, 1) := by decide +kernel
theorem d_O_weigh_104 : decode c_O_weigh 104 = .ok (.dup2, 1) := by decide +kernel
theorem d_O_weigh_105 : decode c_O_weigh 105 = .ok (.iaload, 1) := by decide +kernel
theorem d_O_weigh_106 : decode c_O_weigh 106 = .ok (.iconst 1, 1) := by decide +kernel
theorem d_O_weigh_107 : decode c_O_weigh 107 = .ok (.iadd, 1) := by decide +kernel
theorem d_O_weigh_108 : decode c_O_weigh 108 = .ok (.iastore, 1) := by decide +kernel
theorem d_O_weigh_109 : decode c_O_weigh 109 = .ok (.iinc 5 1, 3) := by decide +kernel
theorem d_O_weigh_112 : decode c_O_weigh 112 = .ok (.goto (-51), 3) := by decide +kernel
theorem d_O_weigh_115 : decode c_O_weigh 115 = .ok (.aload_n 0, 1) := by decide +kernel
theorem d_O_weigh_116 : decode c_O_weigh 116 = .ok (.getfield 24, 3) := by decide +kernel
theorem d_O_weigh_119 : decode c_O_weigh 119 = .ok (.iload_n 1, 1) := by decide +kernel
theorem d_O_weigh_120 : decode c_O_weigh 120 = .ok (.iaload, 1) := by decide +kernel
theorem d_O_weigh_121 : decode c_O_weigh 121 = .ok (.istore 5, 2) := by decide +kernel
theorem d_O_weigh_123 : decode c_O_weigh 123 = .ok (.iload 5, 2) := by decide +kernel
theorem d_O_weigh_125 : decode c_O_weigh 125 = .ok (.aload_n 0, 1) := by decide +kernel
theorem d_O_weigh_126 : decode c_O_weigh 126 = .ok (.getfield 24, 3) := by decide +kernel
theorem d_O_weigh_129 : decode c_O_weigh 129 = .ok (.iload_n 1, 1) := by decide +kernel
theorem d_O_weigh_130 : decode c_O_weigh 130 = .ok (.iconst 1, 1) := by decide +kernel
theorem d_O_weigh_131 : decode c_O_weigh 131 = .ok (.iadd, 1) := by decide +kernel
theorem d_O_weigh_132 : decode c_O_weigh 132 = .ok (.iaload, 1) := by decide +kernel
theorem d_O_weigh_133 : decode c_O_weigh 133 = .ok (.if_icmp .ge 61, 3) := by decide +kernel
theorem d_O_weigh_136 : decode c_O_weigh 136 = .ok (.aload_n 0, 1) := by decide +kernel
theorem d_O_weigh_137 : decode c_O_weigh 137 = .ok (.getfield 39, 3) := by decide +kernel
theorem d_O_weigh_140 : decode c_O_weigh 140 = .ok (.aload_n 0, 1) := by decide +kernel
theorem d_O_weigh_141 : decode c_O_weigh 141 = .ok (.getfield 18, 3) := by decide +kernel
theorem d_O_weigh_144 : decode c_O_weigh 144 = .ok (.iload 5, 2) := by decide +kernel
theorem d_O_weigh_146 : decode c_O_weigh 146 = .ok (.iaload, 1) := by decide +kernel
theorem d_O_weigh_147 : decode c_O_weigh 147 = .ok (.iaload, 1) := by decide +kernel
theorem d_O_weigh_148 : decode c_O_weigh 148 = .ok (.ifCond .ne 40, 3) := by decide +kernel
theorem d_O_weigh_151 : decode c_O_weigh 151 = .ok (.aload_n 0, 1) := by decide +kernel
theorem d_O_weigh_152 : decode c_O_weigh 152 = .ok (.getfield 36, 3) := by decide +kernel
theorem d_O_weigh_155 : decode c_O_weigh 155 = .ok (.aload_n 0, 1) := by decide +kernel
theorem d_O_weigh_156 : decode c_O_weigh 156 = .ok (.getfield 18, 3) := by decide +kernel
theorem d_O_weigh_159 : decode c_O_weigh 159 = .ok (.iload 5, 2) := by decide +kernel
theorem d_O_weigh_161 : decode c_O_weigh 161 = .ok (.iaload, 1) := by decide +kernel
theorem d_O_weigh_162 : decode c_O_weigh 162 = .ok (.aload_n 0, 1) := by decide +kernel
theorem d_O_weigh_163 : decode c_O_weigh 163 = .ok (.getfield 9, 3) := by decide +kernel
theorem d_O_weigh_166 : decode c_O_weigh 166 = .ok (.aload_n 0, 1) := by decide +kernel
theorem d_O_weigh_167 : decode c_O_weigh 167 = .ok (.getfield 18, 3) := by decide +kernel
theorem d_O_weigh_170 : decode c_O_weigh 170 = .ok (.iload 5, 2) := by decide +kernel
theorem d_O_weigh_172 : decode c_O_weigh 172 = .ok (.iaload, 1) := by decide +kernel
theorem d_O_weigh_173 : decode c_O_weigh 173 = .ok (.iaload, 1) := by decide +kernel
theorem d_O_weigh_174 : decode c_O_weigh 174 = .ok (.iastore, 1) := by decide +kernel
theorem d_O_weigh_175 : decode c_O_weigh 175 = .ok (.aload_n 0, 1) := by decide +kernel
theorem d_O_weigh_176 : decode c_O_weigh 176 = .ok (.getfield 39, 3) := by decide +kernel
theorem d_O_weigh_179 : decode c_O_weigh 179 = .ok (.aload_n 0, 1) := by decide +kernel
theorem d_O_weigh_180 : decode c_O_weigh 180 = .ok (.getfield 18, 3) := by decide +kernel
theorem d_O_weigh_183 : decode c_O_weigh 183 = .ok (.iload 5, 2) := by decide +kernel
theorem d_O_weigh_185 : decode c_O_weigh 185 = .ok (.iaload, 1) := by decide +kernel
theorem d_O_weigh_186 : decode c_O_weigh 186 = .ok (.iconst 1, 1) := by decide +kernel
theorem d_O_weigh_187 : decode c_O_weigh 187 = .ok (.iastore, 1) := by decide +kernel
theorem d_O_weigh_188 : decode c_O_weigh 188 = .ok (.iinc 5 1, 3) := by decide +kernel
theorem d_O_weigh_191 : decode c_O_weigh 191 = .ok (.goto (-68), 3) := by decide +kernel
theorem d_O_weigh_194 : decode c_O_weigh 194 = .ok (.return_, 1) := by decide +kernel
theorem d_O_sort_0 : decode c_O_sort 0 = .ok (.iload_n 1, 1) := by decide +kernel
theorem d_O_sort_1 : decode c_O_sort 1 = .ok (.iconst 1, 1) := by decide +kernel
theorem d_O_sort_2 : decode c_O_sort 2 = .ok (.iadd, 1) := by decide +kernel
theorem d_O_sort_3 : decode c_O_sort 3 = .ok (.istore_n 3, 1) := by decide +kernel
theorem d_O_sort_4 : decode c_O_sort 4 = .ok (.iload_n 3, 1) := by decide +kernel
theorem d_O_sort_5 : decode c_O_sort 5 = .ok (.iload_n 2, 1) := by decide +kernel
theorem d_O_sort_6 : decode c_O_sort 6 = .ok (.if_icmp .ge 75, 3) := by decide +kernel
theorem d_O_sort_9 : decode c_O_sort 9 = .ok (.aload_n 0, 1) := by decide +kernel
theorem d_O_sort_10 : decode c_O_sort 10 = .ok (.getfield 18, 3) := by decide +kernel
theorem d_O_sort_13 : decode c_O_sort 13 = .ok (.iload_n 3, 1) := by decide +kernel
theorem d_O_sort_14 : decode c_O_sort 14 = .ok (.iaload, 1) := by decide +kernel
theorem d_O_sort_15 : decode c_O_sort 15 = .ok (.istore 4, 2) := by decide +kernel
theorem d_O_sort_17 : decode c_O_sort 17 = .ok (.iload_n 3, 1) := by decide +kernel
theorem d_O_sort_18 : decode c_O_sort 18 = .ok (.istore 5, 2) := by decide +kernel
theorem d_O_sort_20 : decode c_O_sort 20 = .ok (.iload 5, 2) := by decide +kernel
theorem d_O_sort_22 : decode c_O_sort 22 = .ok (.iload_n 1, 1) := by decide +kernel
theorem d_O_sort_23 : decode c_O_sort 23 = .ok (.if_icmp .le 43, 3) := by decide +kernel
theorem d_O_sort_26 : decode c_O_sort 26 = .ok (.aload_n 0, 1) := by decide +kernel
theorem d_O_sort_27 : decode c_O_sort 27 = .ok (.iload 4, 2) := by decide +kernel
theorem d_O_sort_29 : decode c_O_sort 29 = .ok (.aload_n 0, 1) := by decide +kernel
theorem d_O_sort_30 : decode c_O_sort 30 = .ok (.getfield 18, 3) := by decide +kernel
theorem d_O_sort_33 : decode c_O_sort 33 = .ok (.iload 5, 2) := by decide +kernel
theorem d_O_sort_35 : decode c_O_sort 35 = .ok (.iconst 1, 1) := by decide +kernel
theorem d_O_sort_36 : decode c_O_sort 36 = .ok (.isub, 1) := by decide +kernel
theorem d_O_sort_37 : decode c_O_sort 37 = .ok (.iaload, 1) := by decide +kernel
theorem d_O_sort_38 : decode c_O_sort 38 = .ok (.invokevirtual 120, 3) := by decide +kernel
theorem d_O_sort_41 : decode c_O_sort 41 = .ok (.ifCond .eq 25, 3) := by decide +kernel
theorem d_O_sort_44 : decode c_O_sort 44 = .ok (.aload_n 0, 1) := by decide +kernel
theorem d_O_sort_45 : decode c_O_sort 45 = .ok (.getfield 18, 3) := by decide +kernel
theorem d_O_sort_48 : decode c_O_sort 48 = .ok (.iload 5, 2) := by decide +kernel
theorem d_O_sort_50 : decode c_O_sort 50 = .ok (.aload_n 0, 1) := by decide +kernel
theorem d_O_sort_51 : decode c_O_sort 51 = .ok (.getfield 18, 3) := by decide +kernel
theorem d_O_sort_54 : decode c_O_sort 54 = .ok (.iload 5, 2) := by decide +kernel
theorem d_O_sort_56 : decode c_O_sort 56 = .ok (.iconst 1, 1) := by decide +kernel
theorem d_O_sort_57 : decode c_O_sort 57 = .ok (.isub, 1) := by decide +kernel
theorem d_O_sort_58 : decode c_O_sort 58 = .ok (.iaload, 1) := by decide +kernel
theorem d_O_sort_59 : decode c_O_sort 59 = .ok (.iastore, 1) := by decide +kernel
theorem d_O_sort_60 : decode c_O_sort 60 = .ok (.iinc 5 (-1), 3) := by decide +kernel
theorem d_O_sort_63 : decode c_O_sort 63 = .ok (.goto (-43), 3) := by decide +kernel
theorem d_O_sort_66 : decode c_O_sort 66 = .ok (.aload_n 0, 1) := by decide +kernel
theorem d_O_sort_67 : decode c_O_sort 67 = .ok (.getfield 18, 3) := by decide +kernel
theorem d_O_sort_70 : decode c_O_sort 70 = .ok (.iload 5, 2) := by decide +kernel
theorem d_O_sort_72 : decode c_O_sort 72 = .ok (.iload 4, 2) := by decide +kernel
theorem d_O_sort_74 : decode c_O_sort 74 = .ok (.iastore, 1) := by decide +kernel
theorem d_O_sort_75 : decode c_O_sort 75 = .ok (.iinc 3 1, 3) := by decide +kernel
theorem d_O_sort_78 : decode c_O_sort 78 = .ok (.goto (-74), 3) := by decide +kernel
theorem d_O_sort_81 : decode c_O_sort 81 = .ok (.return_, 1) := by decide +kernel
theorem d_O_hasLesserKey_0 : decode c_O_hasLesserKey 0 = .ok (.aload_n 0, 1) := by decide +kernel
theorem d_O_hasLesserKey_1 : decode c_O_hasLesserKey 1 = .ok (.getfield 36, 3) := by decide +kernel
theorem d_O_hasLesserKey_4 : decode c_O_hasLesserKey 4 = .ok (.iload_n 1, 1) := by decide +kernel
theorem d_O_hasLesserKey_5 : decode c_O_hasLesserKey 5 = .ok (.iaload, 1) := by decide +kernel
theorem d_O_hasLesserKey_6 : decode c_O_hasLesserKey 6 = .ok (.aload_n 0, 1) := by decide +kernel
theorem d_O_hasLesserKey_7 : decode c_O_hasLesserKey 7 = .ok (.getfield 39, 3) := by decide +kernel
theorem d_O_hasLesserKey_10 : decode c_O_hasLesserKey 10 = .ok (.iload_n 2, 1) := by decide +kernel
theorem d_O_hasLesserKey_11 : decode c_O_hasLesserKey 11 = .ok (.iaload, 1) := by decide +kernel
theorem d_O_hasLesserKey_12 : decode c_O_hasLesserKey 12 = .ok (.imul, 1) := by decide +kernel
theorem d_O_hasLesserKey_13 : decode c_O_hasLesserKey 13 = .ok (.aload_n 0, 1) := by decide +kernel
theorem d_O_hasLesserKey_14 : decode c_O_hasLesserKey 14 = .ok (.getfield 36, 3) := by decide +kernel
theorem d_O_hasLesserKey_17 : decode c_O_hasLesserKey 17 = .ok (.iload_n 2, 1) := by decide +kernel
theorem d_O_hasLesserKey_18 : decode c_O_hasLesserKey 18 = .ok (.iaload, 1) := by decide +kernel
theorem d_O_hasLesserKey_19 : decode c_O_hasLesserKey 19 = .ok (.aload_n 0, 1) := by decide +kernel
theorem d_O_hasLesserKey_20 : decode c_O_hasLesserKey 20 = .ok (.getfield 39, 3) := by decide +kernel
theorem d_O_hasLesserKey_23 : decode c_O_hasLesserKey 23 = .ok (.iload_n 1, 1) := by decide +kernel
theorem d_O_hasLesserKey_24 : decode c_O_hasLesserKey 24 = .ok (.iaload, 1) := by decide +kernel
theorem d_O_hasLesserKey_25 : decode c_O_hasLesserKey 25 = .ok (.imul, 1) := by decide +kernel
theorem d_O_hasLesserKey_26 : decode c_O_hasLesserKey 26 = .ok (.if_icmp .ge 7, 3) := by decide +kernel
theorem d_O_hasLesserKey_29 : decode c_O_hasLesserKey 29 = .ok (.iconst 1, 1) := by decide +kernel
theorem d_O_hasLesserKey_30 : decode c_O_hasLesserKey 30 = .ok (.goto 4, 3) := by decide +kernel
theorem d_O_hasLesserKey_33 : decode c_O_hasLesserKey 33 = .ok (.iconst 0, 1) := by decide +kernel
theorem d_O_hasLesserKey_34 : decode c_O_hasLesserKey 34 = .ok (.ireturn, 1) := by decide +kernel
theorem d_O_numberPlaces_0 : decode c_O_numberPlaces 0 = .ok (.aload_n 0, 1) := by decide +kernel
theorem d_O_numberPlaces_1 : decode c_O_numberPlaces 1 = .ok (.getfield 24, 3) := by decide +kernel
theorem d_O_numberPlaces_4 : decode c_O_numberPlaces 4 = .ok (.iload_n 1, 1) := by decide +kernel
theorem d_O_numberPlaces_5 : decode c_O_numberPlaces 5 = .ok (.iaload, 1) := by decide +kernel
theorem d_O_numberPlaces_6 : decode c_O_numberPlaces 6 = .ok (.istore_n 3, 1) := by decide +kernel
theorem d_O_numberPlaces_7 : decode c_O_numberPlaces 7 = .ok (.iload_n 3, 1) := by decide +kernel
theorem d_O_numberPlaces_8 : decode c_O_numberPlaces 8 = .ok (.iload_n 2, 1) := by decide +kernel
theorem d_O_numberPlaces_9 : decode c_O_numberPlaces 9 = .ok (.if_icmp .ge 28, 3) := by decide +kernel
theorem d_O_numberPlaces_12 : decode c_O_numberPlaces 12 = .ok (.aload_n 0, 1) := by decide +kernel
theorem d_O_numberPlaces_13 : decode c_O_numberPlaces 13 = .ok (.getfield 9, 3) := by decide +kernel
theorem d_O_numberPlaces_16 : decode c_O_numberPlaces 16 = .ok (.aload_n 0, 1) := by decide +kernel
theorem d_O_numberPlaces_17 : decode c_O_numberPlaces 17 = .ok (.getfield 18, 3) := by decide +kernel
theorem d_O_numberPlaces_20 : decode c_O_numberPlaces 20 = .ok (.iload_n 3, 1) := by decide +kernel
theorem d_O_numberPlaces_21 : decode c_O_numberPlaces 21 = .ok (.iaload, 1) := by decide +kernel
theorem d_O_numberPlaces_22 : decode c_O_numberPlaces 22 = .ok (.iload_n 3, 1) := by decide +kernel
theorem d_O_numberPlaces_23 : decode c_O_numberPlaces 23 = .ok (.aload_n 0, 1) := by decide +kernel
theorem d_O_numberPlaces_24 : decode c_O_numberPlaces 24 = .ok (.getfield 24, 3) := by decide +kernel
theorem d_O_numberPlaces_27 : decode c_O_numberPlaces 27 = .ok (.iload_n 1, 1) := by decide +kernel
theorem d_O_numberPlaces_28 : decode c_O_numberPlaces 28 = .ok (.iaload, 1) := by decide +kernel
theorem d_O_numberPlaces_29 : decode c_O_numberPlaces 29 = .ok (.isub, 1) := by decide +kernel
theorem d_O_numberPlaces_30 : decode c_O_numberPlaces 30 = .ok (.iastore, 1) := by decide +kernel
theorem d_O_numberPlaces_31 : decode c_O_numberPlaces 31 = .ok (.iinc 3 1, 3) := by decide +kernel
theorem d_O_numberPlaces_34 : decode c_O_numberPlaces 34 = .ok (.goto (-27), 3) := by decide +kernel
theorem d_O_numberPlaces_37 : decode c_O_numberPlaces 37 = .ok (.return_, 1) := by decide +kernel
theorem d_O_countCrossings_0 : decode c_O_countCrossings 0 = .ok (.iconst 0, 1) := by decide +kernel
theorem d_O_countCrossings_1 : decode c_O_countCrossings 1 = .ok (.istore_n 1, 1) := by decide +kernel
theorem d_O_countCrossings_2 : decode c_O_countCrossings 2 = .ok (.iconst 0, 1) := by decide +kernel
theorem d_O_countCrossings_3 : decode c_O_countCrossings 3 = .ok (.istore_n 2, 1) := by decide +kernel
theorem d_O_countCrossings_4 : decode c_O_countCrossings 4 = .ok (.iload_n 2, 1) := by decide +kernel
theorem d_O_countCrossings_5 : decode c_O_countCrossings 5 = .ok (.aload_n 0, 1) := by decide +kernel
theorem d_O_countCrossings_6 : decode c_O_countCrossings 6 = .ok (.getfield 51, 3) := by decide +kernel
theorem d_O_countCrossings_9 : decode c_O_countCrossings 9 = .ok (.if_icmp .ge 50, 3) := by decide +kernel
theorem d_O_countCrossings_12 : decode c_O_countCrossings 12 = .ok (.aload_n 0, 1) := by decide +kernel
theorem d_O_countCrossings_13 : decode c_O_countCrossings 13 = .ok (.getfield 33, 3) := by decide +kernel
theorem d_O_countCrossings_16 : decode c_O_countCrossings 16 = .ok (.iload_n 2, 1) := by decide +kernel
theorem d_O_countCrossings_17 : decode c_O_countCrossings 17 = .ok (.iaload, 1) := by decide +kernel
theorem d_O_countCrossings_18 : decode c_O_countCrossings 18 = .ok (.istore_n 3, 1) := by decide +kernel
theorem d_O_countCrossings_19 : decode c_O_countCrossings 19 = .ok (.iload_n 3, 1) := by decide +kernel
theorem d_O_countCrossings_20 : decode c_O_countCrossings 20 = .ok (.aload_n 0, 1) := by decide +kernel
theorem d_O_countCrossings_21 : decode c_O_countCrossings 21 = .ok (.getfield 33, 3) := by decide +kernel
theorem d_O_countCrossings_24 : decode c_O_countCrossings 24 = .ok (.iload_n 2, 1) := by decide +kernel
theorem d_O_countCrossings_25 : decode c_O_countCrossings 25 = .ok (.iconst 1, 1) := by decide +kernel
theorem d_O_countCrossings_26 : decode c_O_countCrossings 26 = .ok (.iadd, 1) := by decide +kernel
theorem d_O_countCrossings_27 : decode c_O_countCrossings 27 = .ok (.iaload, 1) := by decide +kernel
theorem d_O_countCrossings_28 : decode c_O_countCrossings 28 = .ok (.if_icmp .ge 25, 3) := by decide +kernel
theorem d_O_countCrossings_31 : decode c_O_countCrossings 31 = .ok (.iload_n 1, 1) := by decide +kernel
theorem d_O_countCrossings_32 : decode c_O_countCrossings 32 = .ok (.aload_n 0, 1) := by decide +kernel
theorem d_O_countCrossings_33 : decode c_O_countCrossings 33 = .ok (.iload_n 3, 1) := by decide +kernel
theorem d_O_countCrossings_34 : decode c_O_countCrossings 34 = .ok (.aload_n 0, 1) := by decide +kernel
theorem d_O_countCrossings_35 : decode c_O_countCrossings 35 = .ok (.getfield 33, 3) := by decide +kernel
theorem d_O_countCrossings_38 : decode c_O_countCrossings 38 = .ok (.iload_n 2, 1) := by decide +kernel
theorem d_O_countCrossings_39 : decode c_O_countCrossings 39 = .ok (.iconst 1, 1) := by decide +kernel
theorem d_O_countCrossings_40 : decode c_O_countCrossings 40 = .ok (.iadd, 1) := by decide +kernel
theorem d_O_countCrossings_41 : decode c_O_countCrossings 41 = .ok (.iaload, 1) := by decide +kernel
theorem d_O_countCrossings_42 : decode c_O_countCrossings 42 = .ok (.invokevirtual 123, 3) := by decide +kernel
theorem d_O_countCrossings_45 : decode c_O_countCrossings 45 = .ok (.iadd, 1) := by decide +kernel
theorem d_O_countCrossings_46 : decode c_O_countCrossings 46 = .ok (.istore_n 1, 1) := by decide +kernel
theorem d_O_countCrossings_47 : decode c_O_countCrossings 47 = .ok (.iinc 3 1, 3) := by decide +kernel
theorem d_O_countCrossings_50 : decode c_O_countCrossings 50 = .ok (.goto (-31), 3) := by decide +kernel
theorem d_O_countCrossings_53 : decode c_O_countCrossings 53 = .ok (.iinc 2 1, 3) := by decide +kernel
theorem d_O_countCrossings_56 : decode c_O_countCrossings 56 = .ok (.goto (-52), 3) := by decide +kernel
theorem d_O_countCrossings_59 : decode c_O_countCrossings 59 = .ok (.iload_n 1, 1) := by decide +kernel
theorem d_O_countCrossings_60 : decode c_O_countCrossings 60 = .ok (.ireturn, 1) := by decide +kernel
theorem d_O_countCrossed_0 : decode c_O_countCrossed 0 = .ok (.aload_n 0, 1) := by decide +kernel
theorem d_O_countCrossed_1 : decode c_O_countCrossed 1 = .ok (.getfield 9, 3) := by decide +kernel
theorem d_O_countCrossed_4 : decode c_O_countCrossed 4 = .ok (.aload_n 0, 1) := by decide +kernel
theorem d_O_countCrossed_5 : decode c_O_countCrossed 5 = .ok (.getfield 27, 3) := by decide +kernel
theorem d_O_countCrossed_8 : decode c_O_countCrossed 8 = .ok (.iload_n 1, 1) := by decide +kernel
theorem d_O_countCrossed_9 : decode c_O_countCrossed 9 = .ok (.iaload, 1) := by decide +kernel
theorem d_O_countCrossed_10 : decode c_O_countCrossed 10 = .ok (.iaload, 1) := by decide +kernel
theorem d_O_countCrossed_11 : decode c_O_countCrossed 11 = .ok (.istore_n 3, 1) := by decide +kernel
theorem d_O_countCrossed_12 : decode c_O_countCrossed 12 = .ok (.aload_n 0, 1) := by decide +kernel
theorem d_O_countCrossed_13 : decode c_O_countCrossed 13 = .ok (.getfield 9, 3) := by decide +kernel
theorem d_O_countCrossed_16 : decode c_O_countCrossed 16 = .ok (.aload_n 0, 1) := by decide +kernel
theorem d_O_countCrossed_17 : decode c_O_countCrossed 17 = .ok (.getfield 30, 3) := by decide +kernel
theorem d_O_countCrossed_20 : decode c_O_countCrossed 20 = .ok (.iload_n 1, 1) := by decide +kernel
theorem d_O_countCrossed_21 : decode c_O_countCrossed 21 = .ok (.iaload, 1) := by decide +kernel
theorem d_O_countCrossed_22 : decode c_O_countCrossed 22 = .ok (.iaload, 1) := by decide +kernel
theorem d_O_countCrossed_23 : decode c_O_countCrossed 23 = .ok (.istore 4, 2) := by decide +kernel
theorem d_O_countCrossed_25 : decode c_O_countCrossed 25 = .ok (.iconst 0, 1) := by decide +kernel
theorem d_O_countCrossed_26 : decode c_O_countCrossed 26 = .ok (.istore 5, 2) := by decide +kernel
theorem d_O_countCrossed_28 : decode c_O_countCrossed 28 = .ok (.iload_n 1, 1) := by decide +kernel
theorem d_O_countCrossed_29 : decode c_O_countCrossed 29 = .ok (.iconst 1, 1) := by decide +kernel
theorem d_O_countCrossed_30 : decode c_O_countCrossed 30 = .ok (.iadd, 1) := by decide +kernel
theorem d_O_countCrossed_31 : decode c_O_countCrossed 31 = .ok (.istore 6, 2) := by decide +kernel
theorem d_O_countCrossed_33 : decode c_O_countCrossed 33 = .ok (.iload 6, 2) := by decide +kernel
theorem d_O_countCrossed_35 : decode c_O_countCrossed 35 = .ok (.iload_n 2, 1) := by decide +kernel
theorem d_O_countCrossed_36 : decode c_O_countCrossed 36 = .ok (.if_icmp .ge 45, 3) := by decide +kernel
theorem d_O_countCrossed_39 : decode c_O_countCrossed 39 = .ok (.aload_n 0, 1) := by decide +kernel
theorem d_O_countCrossed_40 : decode c_O_countCrossed 40 = .ok (.getfield 9, 3) := by decide +kernel
theorem d_O_countCrossed_43 : decode c_O_countCrossed 43 = .ok (.aload_n 0, 1) := by decide +kernel
theorem d_O_countCrossed_44 : decode c_O_countCrossed 44 = .ok (.getfield 27, 3) := by decide +kernel
theorem d_O_countCrossed_47 : decode c_O_countCrossed 47 = .ok (.iload 6, 2) := by decide +kernel
theorem d_O_countCrossed_49 : decode c_O_countCrossed 49 = .ok (.iaload, 1) := by decide +kernel
theorem d_O_countCrossed_50 : decode c_O_countCrossed 50 = .ok (.iaload, 1) := by decide +kernel
theorem d_O_countCrossed_51 : decode c_O_countCrossed 51 = .ok (.iload_n 3, 1) := by decide +kernel
theorem d_O_countCrossed_52 : decode c_O_countCrossed 52 = .ok (.isub, 1) := by decide +kernel
theorem d_O_countCrossed_53 : decode c_O_countCrossed 53 = .ok (.aload_n 0, 1) := by decide +kernel
theorem d_O_countCrossed_54 : decode c_O_countCrossed 54 = .ok (.getfield 9, 3) := by decide +kernel
theorem d_O_countCrossed_57 : decode c_O_countCrossed 57 = .ok (.aload_n 0, 1) := by decide +kernel
theorem d_O_countCrossed_58 : decode c_O_countCrossed 58 = .ok (.getfield 30, 3) := by decide +kernel
theorem d_O_countCrossed_61 : decode c_O_countCrossed 61 = .ok (.iload 6, 2) := by decide +kernel
theorem d_O_countCrossed_63 : decode c_O_countCrossed 63 = .ok (.iaload, 1) := by decide +kernel
theorem d_O_countCrossed_64 : decode c_O_countCrossed 64 = .ok (.iaload, 1) := by decide +kernel
theorem d_O_countCrossed_65 : decode c_O_countCrossed 65 = .ok (.iload 4, 2) := by decide +kernel
theorem d_O_countCrossed_67 : decode c_O_countCrossed 67 = .ok (.isub, 1) := by decide +kernel
theorem d_O_countCrossed_68 : decode c_O_countCrossed 68 = .ok (.imul, 1) := by decide +kernel
theorem d_O_countCrossed_69 : decode c_O_countCrossed 69 = .ok (.ifCond .ge 6, 3) := by decide +kernel
theorem d_O_countCrossed_72 : decode c_O_countCrossed 72 = .ok (.iinc 5 1, 3) := by decide +kernel
theorem d_O_countCrossed_75 : decode c_O_countCrossed 75 = .ok (.iinc 6 1, 3) := by decide +kernel
theorem d_O_countCrossed_78 : decode c_O_countCrossed 78 = .ok (.goto (-45), 3) := by decide +kernel
theorem d_O_countCrossed_81 : decode c_O_countCrossed 81 = .ok (.iload 5, 2) := by decide +kernel
theorem d_O_countCrossed_83 : decode c_O_countCrossed 83 = .ok (.ireturn, 1) := by decide +kernel
theorem d_O_keepBest_0 : decode c_O_keepBest 0 = .ok (.aload_n 0, 1) := by decide +kernel
theorem d_O_keepBest_1 : decode c_O_keepBest 1 = .ok (.getfield 18, 3) := by decide +kernel
theorem d_O_keepBest_4 : decode c_O_keepBest 4 = .ok (.iconst 0, 1) := by decide +kernel
theorem d_O_keepBest_5 : decode c_O_keepBest 5 = .ok (.aload_n 0, 1) := by decide +kernel
theorem d_O_keepBest_6 : decode c_O_keepBest 6 = .ok (.getfield 21, 3) := by decide +kernel
theorem d_O_keepBest_9 : decode c_O_keepBest 9 = .ok (.iconst 0, 1) := by decide +kernel
theorem d_O_keepBest_10 : decode c_O_keepBest 10 = .ok (.aload_n 0, 1) := by decide +kernel
theorem d_O_keepBest_11 : decode c_O_keepBest 11 = .ok (.getfield 72, 3) := by decide +kernel
theorem d_O_keepBest_14 : decode c_O_keepBest 14 = .ok (.invokestatic 126, 3) := by decide +kernel
theorem d_O_keepBest_17 : decode c_O_keepBest 17 = .ok (.return_, 1) := by decide +kernel
theorem d_O_takeBest_0 : decode c_O_takeBest 0 = .ok (.aload_n 0, 1) := by decide +kernel
theorem d_O_takeBest_1 : decode c_O_takeBest 1 = .ok (.getfield 21, 3) := by decide +kernel
theorem d_O_takeBest_4 : decode c_O_takeBest 4 = .ok (.iconst 0, 1) := by decide +kernel
theorem d_O_takeBest_5 : decode c_O_takeBest 5 = .ok (.aload_n 0, 1) := by decide +kernel
theorem d_O_takeBest_6 : decode c_O_takeBest 6 = .ok (.getfield 18, 3) := by decide +kernel
theorem d_O_takeBest_9 : decode c_O_takeBest 9 = .ok (.iconst 0, 1) := by decide +kernel
theorem d_O_takeBest_10 : decode c_O_takeBest 10 = .ok (.aload_n 0, 1) := by decide +kernel
theorem d_O_takeBest_11 : decode c_O_takeBest 11 = .ok (.getfield 72, 3) := by decide +kernel
theorem d_O_takeBest_14 : decode c_O_takeBest 14 = .ok (.invokestatic 126, 3) := by decide +kernel
theorem d_O_takeBest_17 : decode c_O_takeBest 17 = .ok (.iconst 0, 1) := by decide +kernel
theorem d_O_takeBest_18 : decode c_O_takeBest 18 = .ok (.istore_n 1, 1) := by decide +kernel
theorem d_O_takeBest_19 : decode c_O_takeBest 19 = .ok (.iload_n 1, 1) := by decide +kernel
theorem d_O_takeBest_20 : decode c_O_takeBest 20 = .ok (.aload_n 0, 1) := by decide +kernel
theorem d_O_takeBest_21 : decode c_O_takeBest 21 = .ok (.getfield 51, 3) := by decide +kernel
theorem d_O_takeBest_24 : decode c_O_takeBest 24 = .ok (.if_icmp .ge 22, 3) := by decide +kernel
theorem d_O_takeBest_27 : decode c_O_takeBest 27 = .ok (.aload_n 0, 1) := by decide +kernel
theorem d_O_takeBest_28 : decode c_O_takeBest 28 = .ok (.iload_n 1, 1) := by decide +kernel
theorem d_O_takeBest_29 : decode c_O_takeBest 29 = .ok (.aload_n 0, 1) := by decide +kernel
theorem d_O_takeBest_30 : decode c_O_takeBest 30 = .ok (.getfield 24, 3) := by decide +kernel
theorem d_O_takeBest_33 : decode c_O_takeBest 33 = .ok (.iload_n 1, 1) := by decide +kernel
theorem d_O_takeBest_34 : decode c_O_takeBest 34 = .ok (.iconst 1, 1) := by decide +kernel
theorem d_O_takeBest_35 : decode c_O_takeBest 35 = .ok (.iadd, 1) := by decide +kernel
theorem d_O_takeBest_36 : decode c_O_takeBest 36 = .ok (.iaload, 1) := by decide +kernel
theorem d_O_takeBest_37 : decode c_O_takeBest 37 = .ok (.invokevirtual 103, 3) := by decide +kernel
theorem d_O_takeBest_40 : decode c_O_takeBest 40 = .ok (.iinc 1 1, 3) := by decide +kernel
theorem d_O_takeBest_43 : decode c_O_takeBest 43 = .ok (.goto (-24), 3) := by decide +kernel
theorem d_O_takeBest_46 : decode c_O_takeBest 46 = .ok (.return_, 1) := by decide +kernel
