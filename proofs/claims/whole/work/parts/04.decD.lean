theorem d_D_init_0 : decode c_D_init 0 = .ok (.aload_n 0, 1) := by decide +kernel
theorem d_D_init_1 : decode c_D_init 1 = .ok (.invokespecial 3, 3) := by decide +kernel
theorem d_D_init_4 : decode c_D_init 4 = .ok (.aload_n 0, 1) := by decide +kernel
theorem d_D_init_5 : decode c_D_init 5 = .ok (.bipush 16, 2) := by decide +kernel
theorem d_D_init_7 : decode c_D_init 7 = .ok (.newarray .int, 2) := by decide +kernel
theorem d_D_init_9 : decode c_D_init 9 = .ok (.putfield 9, 3) := by decide +kernel
theorem d_D_init_12 : decode c_D_init 12 = .ok (.aload_n 0, 1) := by decide +kernel
theorem d_D_init_13 : decode c_D_init 13 = .ok (.bipush 16, 2) := by decide +kernel
theorem d_D_init_15 : decode c_D_init 15 = .ok (.newarray .int, 2) := by decide +kernel
theorem d_D_init_17 : decode c_D_init 17 = .ok (.putfield 15, 3) := by decide +kernel
theorem d_D_init_20 : decode c_D_init 20 = .ok (.aload_n 0, 1) := by decide +kernel
theorem d_D_init_21 : decode c_D_init 21 = .ok (.bipush 16, 2) := by decide +kernel
theorem d_D_init_23 : decode c_D_init 23 = .ok (.newarray .int, 2) := by decide +kernel
theorem d_D_init_25 : decode c_D_init 25 = .ok (.putfield 18, 3) := by decide +kernel
theorem d_D_init_28 : decode c_D_init 28 = .ok (.aload_n 0, 1) := by decide +kernel
theorem d_D_init_29 : decode c_D_init 29 = .ok (.bipush 16, 2) := by decide +kernel
theorem d_D_init_31 : decode c_D_init 31 = .ok (.newarray .int, 2) := by decide +kernel
theorem d_D_init_33 : decode c_D_init 33 = .ok (.putfield 21, 3) := by decide +kernel
theorem d_D_init_36 : decode c_D_init 36 = .ok (.aload_n 0, 1) := by decide +kernel
theorem d_D_init_37 : decode c_D_init 37 = .ok (.bipush 16, 2) := by decide +kernel
theorem d_D_init_39 : decode c_D_init 39 = .ok (.newarray .int, 2) := by decide +kernel
theorem d_D_init_41 : decode c_D_init 41 = .ok (.putfield 24, 3) := by decide +kernel
theorem d_D_init_44 : decode c_D_init 44 = .ok (.aload_n 0, 1) := by decide +kernel
theorem d_D_init_45 : decode c_D_init 45 = .ok (.bipush 16, 2) := by decide +kernel
theorem d_D_init_47 : decode c_D_init 47 = .ok (.newarray .int, 2) := by decide +kernel
theorem d_D_init_49 : decode c_D_init 49 = .ok (.putfield 27, 3) := by decide +kernel
theorem d_D_init_52 : decode c_D_init 52 = .ok (.iconst 0, 1) := by decide +kernel
theorem d_D_init_53 : decode c_D_init 53 = .ok (.istore_n 1, 1) := by decide +kernel
theorem d_D_init_54 : decode c_D_init 54 = .ok (.iload_n 1, 1) := by decide +kernel
theorem d_D_init_55 : decode c_D_init 55 = .ok (.bipush 16, 2) := by decide +kernel
theorem d_D_init_57 : decode c_D_init 57 = .ok (.if_icmp .ge 30, 3) := by decide +kernel
theorem d_D_init_60 : decode c_D_init 60 = .ok (.aload_n 0, 1) := by decide +kernel
theorem d_D_init_61 : decode c_D_init 61 = .ok (.getfield 9, 3) := by decide +kernel
theorem d_D_init_64 : decode c_D_init 64 = .ok (.iload_n 1, 1) := by decide +kernel
theorem d_D_init_65 : decode c_D_init 65 = .ok (.iload_n 1, 1) := by decide +kernel
theorem d_D_init_66 : decode c_D_init 66 = .ok (.iastore, 1) := by decide +kernel
theorem d_D_init_67 : decode c_D_init 67 = .ok (.aload_n 0, 1) := by decide +kernel
theorem d_D_init_68 : decode c_D_init 68 = .ok (.getfield 24, 3) := by decide +kernel
theorem d_D_init_71 : decode c_D_init 71 = .ok (.iload_n 1, 1) := by decide +kernel
theorem d_D_init_72 : decode c_D_init 72 = .ok (.iconst (-1), 1) := by decide +kernel
theorem d_D_init_73 : decode c_D_init 73 = .ok (.iastore, 1) := by decide +kernel
theorem d_D_init_74 : decode c_D_init 74 = .ok (.aload_n 0, 1) := by decide +kernel
theorem d_D_init_75 : decode c_D_init 75 = .ok (.getfield 15, 3) := by decide +kernel
theorem d_D_init_78 : decode c_D_init 78 = .ok (.iload_n 1, 1) := by decide +kernel
theorem d_D_init_79 : decode c_D_init 79 = .ok (.iconst (-1), 1) := by decide +kernel
theorem d_D_init_80 : decode c_D_init 80 = .ok (.iastore, 1) := by decide +kernel
theorem d_D_init_81 : decode c_D_init 81 = .ok (.iinc 1 1, 3) := by decide +kernel
theorem d_D_init_84 : decode c_D_init 84 = .ok (.goto (-30), 3) := by decide +kernel
theorem d_D_init_87 : decode c_D_init 87 = .ok (.return_, 1) := by decide +kernel
theorem d_D_tellAbove_0 : decode c_D_tellAbove 0 = .ok (.aload_n 0, 1) := by decide +kernel
theorem d_D_tellAbove_1 : decode c_D_tellAbove 1 = .ok (.getfield 21, 3) := by decide +kernel
theorem d_D_tellAbove_4 : decode c_D_tellAbove 4 = .ok (.iload_n 1, 1) := by decide +kernel
theorem d_D_tellAbove_5 : decode c_D_tellAbove 5 = .ok (.iaload, 1) := by decide +kernel
theorem d_D_tellAbove_6 : decode c_D_tellAbove 6 = .ok (.iload_n 2, 1) := by decide +kernel
theorem d_D_tellAbove_7 : decode c_D_tellAbove 7 = .ok (.invokestatic 30, 3) := by decide +kernel
theorem d_D_tellAbove_10 : decode c_D_tellAbove 10 = .ok (.ifCond .eq 5, 3) := by decide +kernel
theorem d_D_tellAbove_13 : decode c_D_tellAbove 13 = .ok (.iconst 0, 1) := by decide +kernel
theorem d_D_tellAbove_14 : decode c_D_tellAbove 14 = .ok (.ireturn, 1) := by decide +kernel
theorem d_D_tellAbove_15 : decode c_D_tellAbove 15 = .ok (.aload_n 0, 1) := by decide +kernel
theorem d_D_tellAbove_16 : decode c_D_tellAbove 16 = .ok (.getfield 9, 3) := by decide +kernel
theorem d_D_tellAbove_19 : decode c_D_tellAbove 19 = .ok (.iload_n 1, 1) := by decide +kernel
theorem d_D_tellAbove_20 : decode c_D_tellAbove 20 = .ok (.iaload, 1) := by decide +kernel
theorem d_D_tellAbove_21 : decode c_D_tellAbove 21 = .ok (.aload_n 0, 1) := by decide +kernel
theorem d_D_tellAbove_22 : decode c_D_tellAbove 22 = .ok (.getfield 9, 3) := by decide +kernel
theorem d_D_tellAbove_25 : decode c_D_tellAbove 25 = .ok (.iload_n 2, 1) := by decide +kernel
theorem d_D_tellAbove_26 : decode c_D_tellAbove 26 = .ok (.iaload, 1) := by decide +kernel
theorem d_D_tellAbove_27 : decode c_D_tellAbove 27 = .ok (.if_icmp .eq 26, 3) := by decide +kernel
theorem d_D_tellAbove_30 : decode c_D_tellAbove 30 = .ok (.aload_n 0, 1) := by decide +kernel
theorem d_D_tellAbove_31 : decode c_D_tellAbove 31 = .ok (.getfield 27, 3) := by decide +kernel
theorem d_D_tellAbove_34 : decode c_D_tellAbove 34 = .ok (.aload_n 0, 1) := by decide +kernel
theorem d_D_tellAbove_35 : decode c_D_tellAbove 35 = .ok (.getfield 9, 3) := by decide +kernel
theorem d_D_tellAbove_38 : decode c_D_tellAbove 38 = .ok (.iload_n 2, 1) := by decide +kernel
theorem d_D_tellAbove_39 : decode c_D_tellAbove 39 = .ok (.iaload, 1) := by decide +kernel
theorem d_D_tellAbove_40 : decode c_D_tellAbove 40 = .ok (.iaload, 1) := by decide +kernel
theorem d_D_tellAbove_41 : decode c_D_tellAbove 41 = .ok (.aload_n 0, 1) := by decide +kernel
theorem d_D_tellAbove_42 : decode c_D_tellAbove 42 = .ok (.getfield 9, 3) := by decide +kernel
theorem d_D_tellAbove_45 : decode c_D_tellAbove 45 = .ok (.iload_n 1, 1) := by decide +kernel
theorem d_D_tellAbove_46 : decode c_D_tellAbove 46 = .ok (.iaload, 1) := by decide +kernel
theorem d_D_tellAbove_47 : decode c_D_tellAbove 47 = .ok (.invokestatic 30, 3) := by decide +kernel
theorem d_D_tellAbove_50 : decode c_D_tellAbove 50 = .ok (.ifCond .eq 5, 3) := by decide +kernel
theorem d_D_tellAbove_53 : decode c_D_tellAbove 53 = .ok (.iconst (-1), 1) := by decide +kernel
theorem d_D_tellAbove_54 : decode c_D_tellAbove 54 = .ok (.ireturn, 1) := by decide +kernel
theorem d_D_tellAbove_55 : decode c_D_tellAbove 55 = .ok (.aload_n 0, 1) := by decide +kernel
theorem d_D_tellAbove_56 : decode c_D_tellAbove 56 = .ok (.getfield 21, 3) := by decide +kernel
theorem d_D_tellAbove_59 : decode c_D_tellAbove 59 = .ok (.iload_n 1, 1) := by decide +kernel
theorem d_D_tellAbove_60 : decode c_D_tellAbove 60 = .ok (.dup2, 1) := by decide +kernel
theorem d_D_tellAbove_61 : decode c_D_tellAbove 61 = .ok (.iaload, 1) := by decide +kernel
theorem d_D_tellAbove_62 : decode c_D_tellAbove 62 = .ok (.iconst 1, 1) := by decide +kernel
theorem d_D_tellAbove_63 : decode c_D_tellAbove 63 = .ok (.iload_n 2, 1) := by decide +kernel
theorem d_D_tellAbove_64 : decode c_D_tellAbove 64 = .ok (.ishl, 1) := by decide +kernel
theorem d_D_tellAbove_65 : decode c_D_tellAbove 65 = .ok (.ior, 1) := by decide +kernel
theorem d_D_tellAbove_66 : decode c_D_tellAbove 66 = .ok (.iastore, 1) := by decide +kernel
theorem d_D_tellAbove_67 : decode c_D_tellAbove 67 = .ok (.aload_n 0, 1) := by decide +kernel
theorem d_D_tellAbove_68 : decode c_D_tellAbove 68 = .ok (.dup, 1) := by decide +kernel
theorem d_D_tellAbove_69 : decode c_D_tellAbove 69 = .ok (.getfield 34, 3) := by decide +kernel
theorem d_D_tellAbove_72 : decode c_D_tellAbove 72 = .ok (.iconst 1, 1) := by decide +kernel
theorem d_D_tellAbove_73 : decode c_D_tellAbove 73 = .ok (.iadd, 1) := by decide +kernel
theorem d_D_tellAbove_74 : decode c_D_tellAbove 74 = .ok (.putfield 34, 3) := by decide +kernel
theorem d_D_tellAbove_77 : decode c_D_tellAbove 77 = .ok (.aload_n 0, 1) := by decide +kernel
theorem d_D_tellAbove_78 : decode c_D_tellAbove 78 = .ok (.dup, 1) := by decide +kernel
theorem d_D_tellAbove_79 : decode c_D_tellAbove 79 = .ok (.getfield 38, 3) := by decide +kernel
theorem d_D_tellAbove_82 : decode c_D_tellAbove 82 = .ok (.iconst 1, 1) := by decide +kernel
theorem d_D_tellAbove_83 : decode c_D_tellAbove 83 = .ok (.iload_n 1, 1) := by decide +kernel
theorem d_D_tellAbove_84 : decode c_D_tellAbove 84 = .ok (.ishl, 1) := by decide +kernel
theorem d_D_tellAbove_85 : decode c_D_tellAbove 85 = .ok (.iconst 1, 1) := by decide +kernel
theorem d_D_tellAbove_86 : decode c_D_tellAbove 86 = .ok (.iload_n 2, 1) := by decide +kernel
theorem d_D_tellAbove_87 : decode c_D_tellAbove 87 = .ok (.ishl, 1) := by decide +kernel
theorem d_D_tellAbove_88 : decode c_D_tellAbove 88 = .ok (.ior, 1) := by decide +kernel
theorem d_D_tellAbove_89 : decode c_D_tellAbove 89 = .ok (.ior, 1) := by decide +kernel
theorem d_D_tellAbove_90 : decode c_D_tellAbove 90 = .ok (.putfield 38, 3) := by decide +kernel
theorem d_D_tellAbove_93 : decode c_D_tellAbove 93 = .ok (.aload_n 0, 1) := by decide +kernel
theorem d_D_tellAbove_94 : decode c_D_tellAbove 94 = .ok (.invokevirtual 41, 3) := by decide +kernel
theorem d_D_tellAbove_97 : decode c_D_tellAbove 97 = .ok (.iconst 1, 1) := by decide +kernel
theorem d_D_tellAbove_98 : decode c_D_tellAbove 98 = .ok (.ireturn, 1) := by decide +kernel
theorem d_D_tellSame_0 : decode c_D_tellSame 0 = .ok (.aload_n 0, 1) := by decide +kernel
theorem d_D_tellSame_1 : decode c_D_tellSame 1 = .ok (.getfield 9, 3) := by decide +kernel
theorem d_D_tellSame_4 : decode c_D_tellSame 4 = .ok (.iload_n 1, 1) := by decide +kernel
theorem d_D_tellSame_5 : decode c_D_tellSame 5 = .ok (.iaload, 1) := by decide +kernel
theorem d_D_tellSame_6 : decode c_D_tellSame 6 = .ok (.istore_n 3, 1) := by decide +kernel
theorem d_D_tellSame_7 : decode c_D_tellSame 7 = .ok (.aload_n 0, 1) := by decide +kernel
theorem d_D_tellSame_8 : decode c_D_tellSame 8 = .ok (.getfield 9, 3) := by decide +kernel
theorem d_D_tellSame_11 : decode c_D_tellSame 11 = .ok (.iload_n 2, 1) := by decide +kernel
theorem d_D_tellSame_12 : decode c_D_tellSame 12 = .ok (.iaload, 1) := by decide +kernel
theorem d_D_tellSame_13 : decode c_D_tellSame 13 = .ok (.istore 4, 2) := by decide +kernel
theorem d_D_tellSame_15 : decode c_D_tellSame 15 = .ok (.iload_n 3, 1) := by decide +kernel
theorem d_D_tellSame_16 : decode c_D_tellSame 16 = .ok (.iload 4, 2) := by decide +kernel
theorem d_D_tellSame_18 : decode c_D_tellSame 18 = .ok (.if_icmp .ne 5, 3) := by decide +kernel
theorem d_D_tellSame_21 : decode c_D_tellSame 21 = .ok (.iconst 0, 1) := by decide +kernel
theorem d_D_tellSame_22 : decode c_D_tellSame 22 = .ok (.ireturn, 1) := by decide +kernel
theorem d_D_tellSame_23 : decode c_D_tellSame 23 = .ok (.aload_n 0, 1) := by decide +kernel
theorem d_D_tellSame_24 : decode c_D_tellSame 24 = .ok (.getfield 27, 3) := by decide +kernel
theorem d_D_tellSame_27 : decode c_D_tellSame 27 = .ok (.iload_n 3, 1) := by decide +kernel
theorem d_D_tellSame_28 : decode c_D_tellSame 28 = .ok (.iaload, 1) := by decide +kernel
theorem d_D_tellSame_29 : decode c_D_tellSame 29 = .ok (.iload 4, 2) := by decide +kernel
theorem d_D_tellSame_31 : decode c_D_tellSame 31 = .ok (.invokestatic 30, 3) := by decide +kernel
theorem d_D_tellSame_34 : decode c_D_tellSame 34 = .ok (.ifCond .ne 17, 3) := by decide +kernel
theorem d_D_tellSame_37 : decode c_D_tellSame 37 = .ok (.aload_n 0, 1) := by decide +kernel
theorem d_D_tellSame_38 : decode c_D_tellSame 38 = .ok (.getfield 27, 3) := by decide +kernel
theorem d_D_tellSame_41 : decode c_D_tellSame 41 = .ok (.iload 4, 2) := by decide +kernel
theorem d_D_tellSame_43 : decode c_D_tellSame 43 = .ok (.iaload, 1) := by decide +kernel
theorem d_D_tellSame_44 : decode c_D_tellSame 44 = .ok (.iload_n 3, 1) := by decide +kernel
theorem d_D_tellSame_45 : decode c_D_tellSame 45 = .ok (.invokestatic 30, 3) := by decide +kernel
theorem d_D_tellSame_48 : decode c_D_tellSame 48 = .ok (.ifCond .eq 5, 3) := by decide +kernel
theorem d_D_tellSame_51 : decode c_D_tellSame 51 = .ok (.iconst (-1), 1) := by decide +kernel
theorem d_D_tellSame_52 : decode c_D_tellSame 52 = .ok (.ireturn, 1) := by decide +kernel
theorem d_D_tellSame_53 : decode c_D_tellSame 53 = .ok (.aload_n 0, 1) := by decide +kernel
theorem d_D_tellSame_54 : decode c_D_tellSame 54 = .ok (.iload_n 3, 1) := by decide +kernel
theorem d_D_tellSame_55 : decode c_D_tellSame 55 = .ok (.iload 4, 2) := by decide +kernel
theorem d_D_tellSame_57 : decode c_D_tellSame 57 = .ok (.invokestatic 44, 3) := by decide +kernel
theorem d_D_tellSame_60 : decode c_D_tellSame 60 = .ok (.iload_n 3, 1) := by decide +kernel
theorem d_D_tellSame_61 : decode c_D_tellSame 61 = .ok (.iload 4, 2) := by decide +kernel
theorem d_D_tellSame_63 : decode c_D_tellSame 63 = .ok (.invokestatic 50, 3) := by decide +kernel
theorem d_D_tellSame_66 : decode c_D_tellSame 66 = .ok (.invokevirtual 53, 3) := by decide +kernel
theorem d_D_tellSame_69 : decode c_D_tellSame 69 = .ok (.aload_n 0, 1) := by decide +kernel
theorem d_D_tellSame_70 : decode c_D_tellSame 70 = .ok (.dup, 1) := by decide +kernel
theorem d_D_tellSame_71 : decode c_D_tellSame 71 = .ok (.getfield 38, 3) := by decide +kernel
theorem d_D_tellSame_74 : decode c_D_tellSame 74 = .ok (.iconst 1, 1) := by decide +kernel
theorem d_D_tellSame_75 : decode c_D_tellSame 75 = .ok (.iload_n 1, 1) := by decide +kernel
theorem d_D_tellSame_76 : decode c_D_tellSame 76 = .ok (.ishl, 1) := by decide +kernel
theorem d_D_tellSame_77 : decode c_D_tellSame 77 = .ok (.iconst 1, 1) := by decide +kernel
theorem d_D_tellSame_78 : decode c_D_tellSame 78 = .ok (.iload_n 2, 1) := by decide +kernel
theorem d_D_tellSame_79 : decode c_D_tellSame 79 = .ok (.ishl, 1) := by decide +kernel
theorem d_D_tellSame_80 : decode c_D_tellSame 80 = .ok (.ior, 1) := by decide +kernel
theorem d_D_tellSame_81 : decode c_D_tellSame 81 = .ok (.ior, 1) := by decide +kernel
theorem d_D_tellSame_82 : decode c_D_tellSame 82 = .ok (.putfield 38, 3) := by decide +kernel
theorem d_D_tellSame_85 : decode c_D_tellSame 85 = .ok (.aload_n 0, 1) := by decide +kernel
theorem d_D_tellSame_86 : decode c_D_tellSame 86 = .ok (.invokevirtual 41, 3) := by decide +kernel
theorem d_D_tellSame_89 : decode c_D_tellSame 89 = .ok (.iconst 1, 1) := by decide +kernel
theorem d_D_tellSame_90 : decode c_D_tellSame 90 = .ok (.ireturn, 1) := by decide +kernel
theorem d_D_tellPhase_0 : decode c_D_tellPhase 0 = .ok (.aload_n 0, 1) := by decide +kernel
theorem d_D_tellPhase_1 : decode c_D_tellPhase 1 = .ok (.getfield 24, 3) := by decide +kernel
theorem d_D_tellPhase_4 : decode c_D_tellPhase 4 = .ok (.iload_n 1, 1) := by decide +kernel
theorem d_D_tellPhase_5 : decode c_D_tellPhase 5 = .ok (.iaload, 1) := by decide +kernel
theorem d_D_tellPhase_6 : decode c_D_tellPhase 6 = .ok (.istore_n 3, 1) := by decide +kernel
theorem d_D_tellPhase_7 : decode c_D_tellPhase 7 = .ok (.aload_n 0, 1) := by decide +kernel
theorem d_D_tellPhase_8 : decode c_D_tellPhase 8 = .ok (.getfield 24, 3) := by decide +kernel
theorem d_D_tellPhase_11 : decode c_D_tellPhase 11 = .ok (.iload_n 1, 1) := by decide +kernel
theorem d_D_tellPhase_12 : decode c_D_tellPhase 12 = .ok (.iload_n 2, 1) := by decide +kernel
theorem d_D_tellPhase_13 : decode c_D_tellPhase 13 = .ok (.iastore, 1) := by decide +kernel
theorem d_D_tellPhase_14 : decode c_D_tellPhase 14 = .ok (.aload_n 0, 1) := by decide +kernel
theorem d_D_tellPhase_15 : decode c_D_tellPhase 15 = .ok (.dup, 1) := by decide +kernel
theorem d_D_tellPhase_16 : decode c_D_tellPhase 16 = .ok (.getfield 38, 3) := by decide +kernel
theorem d_D_tellPhase_19 : decode c_D_tellPhase 19 = .ok (.iconst 1, 1) := by decide +kernel
theorem d_D_tellPhase_20 : decode c_D_tellPhase 20 = .ok (.iload_n 1, 1) := by decide +kernel
theorem d_D_tellPhase_21 : decode c_D_tellPhase 21 = .ok (.ishl, 1) := by decide +kernel
theorem d_D_tellPhase_22 : decode c_D_tellPhase 22 = .ok (.ior, 1) := by decide +kernel
theorem d_D_tellPhase_23 : decode c_D_tellPhase 23 = .ok (.putfield 38, 3) := by decide +kernel
theorem d_D_tellPhase_26 : decode c_D_tellPhase 26 = .ok (.aload_n 0, 1) := by decide +kernel
theorem d_D_tellPhase_27 : decode c_D_tellPhase 27 = .ok (.invokevirtual 41, 3) := by decide +kernel
theorem d_D_tellPhase_30 : decode c_D_tellPhase 30 = .ok (.iload_n 3, 1) := by decide +kernel
theorem d_D_tellPhase_31 : decode c_D_tellPhase 31 = .ok (.ireturn, 1) := by decide +kernel
theorem d_D_tellHidden_0 : decode c_D_tellHidden 0 = .ok (.aload_n 0, 1) := by decide +kernel
theorem d_D_tellHidden_1 : decode c_D_tellHidden 1 = .ok (.getfield 57, 3) := by decide +kernel
theorem d_D_tellHidden_4 : decode c_D_tellHidden 4 = .ok (.iload_n 1, 1) := by decide +kernel
theorem d_D_tellHidden_5 : decode c_D_tellHidden 5 = .ok (.invokestatic 30, 3) := by decide +kernel
theorem d_D_tellHidden_8 : decode c_D_tellHidden 8 = .ok (.iload_n 2, 1) := by decide +kernel
theorem d_D_tellHidden_9 : decode c_D_tellHidden 9 = .ok (.if_icmp .ne 5, 3) := by decide +kernel
theorem d_D_tellHidden_12 : decode c_D_tellHidden 12 = .ok (.iconst 0, 1) := by decide +kernel
theorem d_D_tellHidden_13 : decode c_D_tellHidden 13 = .ok (.ireturn, 1) := by decide +kernel
theorem d_D_tellHidden_14 : decode c_D_tellHidden 14 = .ok (.aload_n 0, 1) := by decide +kernel
theorem d_D_tellHidden_15 : decode c_D_tellHidden 15 = .ok (.dup, 1) := by decide +kernel
theorem d_D_tellHidden_16 : decode c_D_tellHidden 16 = .ok (.getfield 57, 3) := by decide +kernel
theorem d_D_tellHidden_19 : decode c_D_tellHidden 19 = .ok (.iconst 1, 1) := by decide +kernel
theorem d_D_tellHidden_20 : decode c_D_tellHidden 20 = .ok (.iload_n 1, 1) := by decide +kernel
theorem d_D_tellHidden_21 : decode c_D_tellHidden 21 = .ok (.ishl, 1) := by decide +kernel
theorem d_D_tellHidden_22 : decode c_D_tellHidden 22 = .ok (.ixor, 1) := by decide +kernel
theorem d_D_tellHidden_23 : decode c_D_tellHidden 23 = .ok (.putfield 57, 3) := by decide +kernel
theorem d_D_tellHidden_26 : decode c_D_tellHidden 26 = .ok (.aload_n 0, 1) := by decide +kernel
theorem d_D_tellHidden_27 : decode c_D_tellHidden 27 = .ok (.dup, 1) := by decide +kernel
theorem d_D_tellHidden_28 : decode c_D_tellHidden 28 = .ok (.getfield 38, 3) := by decide +kernel
theorem d_D_tellHidden_31 : decode c_D_tellHidden 31 = .ok (.iconst 1, 1) := by decide +kernel
theorem d_D_tellHidden_32 : decode c_D_tellHidden 32 = .ok (.iload_n 1, 1) := by decide +kernel
theorem d_D_tellHidden_33 : decode c_D_tellHidden 33 = .ok (.ishl, 1) := by decide +kernel
theorem d_D_tellHidden_34 : decode c_D_tellHidden 34 = .ok (.ior, 1) := by decide +kernel
theorem d_D_tellHidden_35 : decode c_D_tellHidden 35 = .ok (.putfield 38, 3) := by decide +kernel
theorem d_D_tellHidden_38 : decode c_D_tellHidden 38 = .ok (.iconst 1, 1) := by decide +kernel
theorem d_D_tellHidden_39 : decode c_D_tellHidden 39 = .ok (.ireturn, 1) := by decide +kernel
theorem d_D_leadersOf_0 : decode c_D_leadersOf 0 = .ok (.iconst 0, 1) := by decide +kernel
theorem d_D_leadersOf_1 : decode c_D_leadersOf 1 = .ok (.istore_n 2, 1) := by decide +kernel
theorem d_D_leadersOf_2 : decode c_D_leadersOf 2 = .ok (.iconst 0, 1) := by decide +kernel
theorem d_D_leadersOf_3 : decode c_D_leadersOf 3 = .ok (.istore_n 3, 1) := by decide +kernel
theorem d_D_leadersOf_4 : decode c_D_leadersOf 4 = .ok (.iload_n 3, 1) := by decide +kernel
theorem d_D_leadersOf_5 : decode c_D_leadersOf 5 = .ok (.bipush 16, 2) := by decide +kernel
theorem d_D_leadersOf_7 : decode c_D_leadersOf 7 = .ok (.if_icmp .ge 28, 3) := by decide +kernel
theorem d_D_leadersOf_10 : decode c_D_leadersOf 10 = .ok (.iload_n 1, 1) := by decide +kernel
theorem d_D_leadersOf_11 : decode c_D_leadersOf 11 = .ok (.iload_n 3, 1) := by decide +kernel
theorem d_D_leadersOf_12 : decode c_D_leadersOf 12 = .ok (.invokestatic 30, 3) := by decide +kernel
theorem d_D_leadersOf_15 : decode c_D_leadersOf 15 = .ok (.ifCond .eq 14, 3) := by decide +kernel
theorem d_D_leadersOf_18 : decode c_D_leadersOf 18 = .ok (.iload_n 2, 1) := by decide +kernel
theorem d_D_leadersOf_19 : decode c_D_leadersOf 19 = .ok (.iconst 1, 1) := by decide +kernel
theorem d_D_leadersOf_20 : decode c_D_leadersOf 20 = .ok (.aload_n 0, 1) := by decide +kernel
theorem d_D_leadersOf_21 : decode c_D_leadersOf 21 = .ok (.getfield 9, 3) := by decide +kernel
theorem d_D_leadersOf_24 : decode c_D_leadersOf 24 = .ok (.iload_n 3, 1) := by decide +kernel
theorem d_D_leadersOf_25 : decode c_D_leadersOf 25 = .ok (.iaload, 1) := by decide +kernel
theorem d_D_leadersOf_26 : decode c_D_leadersOf 26 = .ok (.ishl, 1) := by decide +kernel
theorem d_D_leadersOf_27 : decode c_D_leadersOf 27 = .ok (.ior, 1) := by decide +kernel
theorem d_D_leadersOf_28 : decode c_D_leadersOf 28 = .ok (.istore_n 2, 1) := by decide +kernel
theorem d_D_leadersOf_29 : decode c_D_leadersOf 29 = .ok (.iinc 3 1, 3) := by decide +kernel
theorem d_D_leadersOf_32 : decode c_D_leadersOf 32 = .ok (.goto (-28), 3) := by decide +kernel
theorem d_D_leadersOf_35 : decode c_D_leadersOf 35 = .ok (.iload_n 2, 1) := by decide +kernel
theorem d_D_leadersOf_36 : decode c_D_leadersOf 36 = .ok (.ireturn, 1) := by decide +kernel
theorem d_D_findMisfit_0 : decode c_D_findMisfit 0 = .ok (.iload_n 1, 1) := by decide +kernel
theorem d_D_findMisfit_1 : decode c_D_findMisfit 1 = .ok (.istore_n 2, 1) := by decide +kernel
theorem d_D_findMisfit_2 : decode c_D_findMisfit 2 = .ok (.iconst 0, 1) := by decide +kernel
theorem d_D_findMisfit_3 : decode c_D_findMisfit 3 = .ok (.istore_n 3, 1) := by decide +kernel
theorem d_D_findMisfit_4 : decode c_D_findMisfit 4 = .ok (.iload_n 3, 1) := by decide +kernel
theorem d_D_findMisfit_5 : decode c_D_findMisfit 5 = .ok (.bipush 16, 2) := by decide +kernel
theorem d_D_findMisfit_7 : decode c_D_findMisfit 7 = .ok (.if_icmp .ge 64, 3) := by decide +kernel
theorem d_D_findMisfit_10 : decode c_D_findMisfit 10 = .ok (.iconst 0, 1) := by decide +kernel
theorem d_D_findMisfit_11 : decode c_D_findMisfit 11 = .ok (.istore 4, 2) := by decide +kernel
theorem d_D_findMisfit_13 : decode c_D_findMisfit 13 = .ok (.iload 4, 2) := by decide +kernel
theorem d_D_findMisfit_15 : decode c_D_findMisfit 15 = .ok (.bipush 16, 2) := by decide +kernel
theorem d_D_findMisfit_17 : decode c_D_findMisfit 17 = .ok (.if_icmp .ge 48, 3) := by decide +kernel
theorem d_D_findMisfit_20 : decode c_D_findMisfit 20 = .ok (.aload_n 0, 1) := by decide +kernel
theorem d_D_findMisfit_21 : decode c_D_findMisfit 21 = .ok (.getfield 27, 3) := by decide +kernel
theorem d_D_findMisfit_24 : decode c_D_findMisfit 24 = .ok (.iload_n 3, 1) := by decide +kernel
theorem d_D_findMisfit_25 : decode c_D_findMisfit 25 = .ok (.iaload, 1) := by decide +kernel
theorem d_D_findMisfit_26 : decode c_D_findMisfit 26 = .ok (.iload 4, 2) := by decide +kernel
theorem d_D_findMisfit_28 : decode c_D_findMisfit 28 = .ok (.invokestatic 30, 3) := by decide +kernel
theorem d_D_findMisfit_31 : decode c_D_findMisfit 31 = .ok (.ifCond .eq 28, 3) := by decide +kernel
theorem d_D_findMisfit_34 : decode c_D_findMisfit 34 = .ok (.aload_n 0, 1) := by decide +kernel
theorem d_D_findMisfit_35 : decode c_D_findMisfit 35 = .ok (.iload_n 3, 1) := by decide +kernel
theorem d_D_findMisfit_36 : decode c_D_findMisfit 36 = .ok (.iload 4, 2) := by decide +kernel
theorem d_D_findMisfit_38 : decode c_D_findMisfit 38 = .ok (.invokevirtual 60, 3) := by decide +kernel
theorem d_D_findMisfit_41 : decode c_D_findMisfit 41 = .ok (.ifCond .eq 18, 3) := by decide +kernel
theorem d_D_findMisfit_44 : decode c_D_findMisfit 44 = .ok (.iload_n 2, 1) := by decide +kernel
theorem d_D_findMisfit_45 : decode c_D_findMisfit 45 = .ok (.ifCond .ne 11, 3) := by decide +kernel
theorem d_D_findMisfit_48 : decode c_D_findMisfit 48 = .ok (.bipush 16, 2) := by decide +kernel
theorem d_D_findMisfit_50 : decode c_D_findMisfit 50 = .ok (.iload_n 3, 1) := by decide +kernel
theorem d_D_findMisfit_51 : decode c_D_findMisfit 51 = .ok (.imul, 1) := by decide +kernel
theorem d_D_findMisfit_52 : decode c_D_findMisfit 52 = .ok (.iload 4, 2) := by decide +kernel
theorem d_D_findMisfit_54 : decode c_D_findMisfit 54 = .ok (.iadd, 1) := by decide +kernel
theorem d_D_findMisfit_55 : decode c_D_findMisfit 55 = .ok (.ireturn, 1) := by decide +kernel
theorem d_D_findMisfit_56 : decode c_D_findMisfit 56 = .ok (.iinc 2 (-1), 3) := by decide +kernel
theorem d_D_findMisfit_59 : decode c_D_findMisfit 59 = .ok (.iinc 4 1, 3) := by decide +kernel
theorem d_D_findMisfit_62 : decode c_D_findMisfit 62 = .ok (.goto (-49), 3) := by decide +kernel
theorem d_D_findMisfit_65 : decode c_D_findMisfit 65 = .ok (.iinc 3 1, 3) := by decide +kernel
theorem d_D_findMisfit_68 : decode c_D_findMisfit 68 = .ok (.goto (-64), 3) := by decide +kernel
theorem d_D_findMisfit_71 : decode c_D_findMisfit 71 = .ok (.iconst (-1), 1) := by decide +kernel
theorem d_D_findMisfit_72 : decode c_D_findMisfit 72 = .ok (.ireturn, 1) := by decide +kernel
theorem d_D_isLaterPhase_0 : decode c_D_isLaterPhase 0 = .ok (.aload_n 0, 1) := by decide +kernel
theorem d_D_isLaterPhase_1 : decode c_D_isLaterPhase 1 = .ok (.getfield 15, 3) := by decide +kernel
theorem d_D_isLaterPhase_4 : decode c_D_isLaterPhase 4 = .ok (.iload_n 2, 1) := by decide +kernel
theorem d_D_isLaterPhase_5 : decode c_D_isLaterPhase 5 = .ok (.iaload, 1) := by decide +kernel
theorem d_D_isLaterPhase_6 : decode c_D_isLaterPhase 6 = .ok (.iconst (-1), 1) := by decide +kernel
theorem d_D_isLaterPhase_7 : decode c_D_isLaterPhase 7 = .ok (.if_icmp .eq 22, 3) := by decide +kernel
theorem d_D_isLaterPhase_10 : decode c_D_isLaterPhase 10 = .ok (.aload_n 0, 1) := by decide +kernel
theorem d_D_isLaterPhase_11 : decode c_D_isLaterPhase 11 = .ok (.getfield 15, 3) := by decide +kernel
theorem d_D_isLaterPhase_14 : decode c_D_isLaterPhase 14 = .ok (.iload_n 1, 1) := by decide +kernel
theorem d_D_isLaterPhase_15 : decode c_D_isLaterPhase 15 = .ok (.iaload, 1) := by decide +kernel
theorem d_D_isLaterPhase_16 : decode c_D_isLaterPhase 16 = .ok (.aload_n 0, 1) := by decide +kernel
theorem d_D_isLaterPhase_17 : decode c_D_isLaterPhase 17 = .ok (.getfield 15, 3) := by decide +kernel
theorem d_D_isLaterPhase_20 : decode c_D_isLaterPhase 20 = .ok (.iload_n 2, 1) := by decide +kernel
theorem d_D_isLaterPhase_21 : decode c_D_isLaterPhase 21 = .ok (.iaload, 1) := by decide +kernel
theorem d_D_isLaterPhase_22 : decode c_D_isLaterPhase 22 = .ok (.if_icmp .le 7, 3) := by decide +kernel
theorem d_D_isLaterPhase_25 : decode c_D_isLaterPhase 25 = .ok (.iconst 1, 1) := by decide +kernel
theorem d_D_isLaterPhase_26 : decode c_D_isLaterPhase 26 = .ok (.goto 4, 3) := by decide +kernel
theorem d_D_isLaterPhase_29 : decode c_D_isLaterPhase 29 = .ok (.iconst 0, 1) := by decide +kernel
theorem d_D_isLaterPhase_30 : decode c_D_isLaterPhase 30 = .ok (.ireturn, 1) := by decide +kernel
theorem d_D_join_0 : decode c_D_join 0 = .ok (.iconst 0, 1) := by decide +kernel
theorem d_D_join_1 : decode c_D_join 1 = .ok (.istore_n 3, 1) := by decide +kernel
theorem d_D_join_2 : decode c_D_join 2 = .ok (.iload_n 3, 1) := by decide +kernel
theorem d_D_join_3 : decode c_D_join 3 = .ok (.bipush 16, 2) := by decide +kernel
theorem d_D_join_5 : decode c_D_join 5 = .ok (.if_icmp .ge 26, 3) := by decide +kernel
theorem d_D_join_8 : decode c_D_join 8 = .ok (.aload_n 0, 1) := by decide +kernel
theorem d_D_join_9 : decode c_D_join 9 = .ok (.getfield 9, 3) := by decide +kernel
theorem d_D_join_12 : decode c_D_join 12 = .ok (.iload_n 3, 1) := by decide +kernel
theorem d_D_join_13 : decode c_D_join 13 = .ok (.iaload, 1) := by decide +kernel
theorem d_D_join_14 : decode c_D_join 14 = .ok (.iload_n 2, 1) := by decide +kernel
theorem d_D_join_15 : decode c_D_join 15 = .ok (.if_icmp .ne 10, 3) := by decide +kernel
theorem d_D_join_18 : decode c_D_join 18 = .ok (.aload_n 0, 1) := by decide +kernel
theorem d_D_join_19 : decode c_D_join 19 = .ok (.getfield 9, 3) := by decide +kernel
theorem d_D_join_22 : decode c_D_join 22 = .ok (.iload_n 3, 1) := by decide +kernel
theorem d_D_join_23 : decode c_D_join 23 = .ok (.iload_n 1, 1) := by decide +kernel
theorem d_D_join_24 : decode c_D_join 24 = .ok (.iastore, 1) := by decide +kernel
theorem d_D_join_25 : decode c_D_join 25 = .ok (.iinc 3 1, 3) := by decide +kernel
theorem d_D_join_28 : decode c_D_join 28 = .ok (.goto (-26), 3) := by decide +kernel
theorem d_D_join_31 : decode c_D_join 31 = .ok (.return_, 1) := by decide +kernel
theorem d_D_settle_0 : decode c_D_settle 0 = .ok (.iconst 0, 1) := by decide +kernel
theorem d_D_settle_1 : decode c_D_settle 1 = .ok (.istore_n 1, 1) := by decide +kernel
theorem d_D_settle_2 : decode c_D_settle 2 = .ok (.iload_n 1, 1) := by decide +kernel
theorem d_D_settle_3 : decode c_D_settle 3 = .ok (.bipush 16, 2) := by decide +kernel
theorem d_D_settle_5 : decode c_D_settle 5 = .ok (.if_icmp .ge 23, 3) := by decide +kernel
theorem d_D_settle_8 : decode c_D_settle 8 = .ok (.aload_n 0, 1) := by decide +kernel
theorem d_D_settle_9 : decode c_D_settle 9 = .ok (.getfield 18, 3) := by decide +kernel
theorem d_D_settle_12 : decode c_D_settle 12 = .ok (.iload_n 1, 1) := by decide +kernel
theorem d_D_settle_13 : decode c_D_settle 13 = .ok (.iconst 0, 1) := by decide +kernel
theorem d_D_settle_14 : decode c_D_settle 14 = .ok (.iastore, 1) := by decide +kernel
theorem d_D_settle_15 : decode c_D_settle 15 = .ok (.aload_n 0, 1) := by decide +kernel
theorem d_D_settle_16 : decode c_D_settle 16 = .ok (.getfield 15, 3) := by decide +kernel
theorem d_D_settle_19 : decode c_D_settle 19 = .ok (.iload_n 1, 1) := by decide +kernel
theorem d_D_settle_20 : decode c_D_settle 20 = .ok (.iconst (-1), 1) := by decide +kernel
theorem d_D_settle_21 : decode c_D_settle 21 = .ok (.iastore, 1) := by decide +kernel
theorem d_D_settle_22 : decode c_D_settle 22 = .ok (.iinc 1 1, 3) := by decide +kernel
theorem d_D_settle_25 : decode c_D_settle 25 = .ok (.goto (-23), 3) := by decide +kernel
theorem d_D_settle_28 : decode c_D_settle 28 = .ok (.iconst 0, 1) := by decide +kernel
theorem d_D_settle_29 : decode c_D_settle 29 = .ok (.istore_n 1, 1) := by decide +kernel
theorem d_D_settle_30 : decode c_D_settle 30 = .ok (.iload_n 1, 1) := by decide +kernel
theorem d_D_settle_31 : decode c_D_settle 31 = .ok (.bipush 16, 2) := by decide +kernel
theorem d_D_settle_33 : decode c_D_settle 33 = .ok (.if_icmp .ge 49, 3) := by decide +kernel
theorem d_D_settle_36 : decode c_D_settle 36 = .ok (.aload_n 0, 1) := by decide +kernel
theorem d_D_settle_37 : decode c_D_settle 37 = .ok (.getfield 18, 3) := by decide +kernel
theorem d_D_settle_40 : decode c_D_settle 40 = .ok (.aload_n 0, 1) := by decide +kernel
theorem d_D_settle_41 : decode c_D_settle 41 = .ok (.getfield 9, 3) := by decide +kernel
theorem d_D_settle_44 : decode c_D_settle 44 = .ok (.iload_n 1, 1) := by decide +kernel
theorem d_D_settle_45 : decode c_D_settle 45 = .ok (.iaload, 1) := by decide +kernel
theorem d_D_settle_46 : decode c_D_settle 46 = .ok (.dup2, 1) := by decide +kernel
theorem d_D_settle_47 : decode c_D_settle 47 = .ok (.iaload, 1) := by decide +kernel
theorem d_D_settle_48 : decode c_D_settle 48 = .ok (.aload_n 0, 1) := by decide +kernel
theorem d_D_settle_49 : decode c_D_settle 49 = .ok (.aload_n 0, 1) := by decide +kernel
theorem d_D_settle_50 : decode c_D_settle 50 = .ok (.getfield 21, 3) := by decide +kernel
theorem d_D_settle_53 : decode c_D_settle 53 = .ok (.iload_n 1, 1) := by decide +kernel
theorem d_D_settle_54 : decode c_D_settle 54 = .ok (.iaload, 1) := by decide +kernel
theorem d_D_settle_55 : decode c_D_settle 55 = .ok (.invokevirtual 63, 3) := by decide +kernel
theorem d_D_settle_58 : decode c_D_settle 58 = .ok (.ior, 1) := by decide +kernel
theorem d_D_settle_59 : decode c_D_settle 59 = .ok (.iastore, 1) := by decide +kernel
theorem d_D_settle_60 : decode c_D_settle 60 = .ok (.aload_n 0, 1) := by decide +kernel
theorem d_D_settle_61 : decode c_D_settle 61 = .ok (.aload_n 0, 1) := by decide +kernel
theorem d_D_settle_62 : decode c_D_settle 62 = .ok (.getfield 9, 3) := by decide +kernel
theorem d_D_settle_65 : decode c_D_settle 65 = .ok (.iload_n 1, 1) := by decide +kernel
theorem d_D_settle_66 : decode c_D_settle 66 = .ok (.iaload, 1) := by decide +kernel
theorem d_D_settle_67 : decode c_D_settle 67 = .ok (.aload_n 0, 1) := by decide +kernel
theorem d_D_settle_68 : decode c_D_settle 68 = .ok (.getfield 24, 3) := by decide +kernel
theorem d_D_settle_71 : decode c_D_settle 71 = .ok (.iload_n 1, 1) := by decide +kernel
theorem d_D_settle_72 : decode c_D_settle 72 = .ok (.iaload, 1) := by decide +kernel
theorem d_D_settle_73 : decode c_D_settle 73 = .ok (.invokevirtual 67, 3) := by decide +kernel
theorem d_D_settle_76 : decode c_D_settle 76 = .ok (.iinc 1 1, 3) := by decide +kernel
theorem d_D_settle_79 : decode c_D_settle 79 = .ok (.goto (-49), 3) := by decide +kernel
theorem d_D_settle_82 : decode c_D_settle 82 = .ok (.aload_n 0, 1) := by decide +kernel
theorem d_D_settle_83 : decode c_D_settle 83 = .ok (.getfield 18, 3) := by decide +kernel
theorem d_D_settle_86 : decode c_D_settle 86 = .ok (.iconst 0, 1) := by decide +kernel
theorem d_D_settle_87 : decode c_D_settle 87 = .ok (.aload_n 0, 1) := by decide +kernel
theorem d_D_settle_88 : decode c_D_settle 88 = .ok (.getfield 27, 3) := by decide +kernel
theorem d_D_settle_91 : decode c_D_settle 91 = .ok (.iconst 0, 1) := by decide +kernel
theorem d_D_settle_92 : decode c_D_settle 92 = .ok (.bipush 16, 2) := by decide +kernel
theorem d_D_settle_94 : decode c_D_settle 94 = .ok (.invokestatic 70, 3) := by decide +kernel
theorem d_D_settle_97 : decode c_D_settle 97 = .ok (.aload_n 0, 1) := by decide +kernel
theorem d_D_settle_98 : decode c_D_settle 98 = .ok (.getfield 27, 3) := by decide +kernel
theorem d_D_settle_101 : decode c_D_settle 101 = .ok (.aload_n 0, 1) := by decide +kernel
theorem d_D_settle_102 : decode c_D_settle 102 = .ok (.aload_n 0, 1) := by decide +kernel
theorem d_D_settle_103 : decode c_D_settle 103 = .ok (.getfield 38, 3) := by decide +kernel
theorem d_D_settle_106 : decode c_D_settle 106 = .ok (.invokevirtual 63, 3) := by decide +kernel
theorem d_D_settle_109 : decode c_D_settle 109 = .ok (.invokestatic 76, 3) := by decide +kernel
theorem d_D_settle_112 : decode c_D_settle 112 = .ok (.return_, 1) := by decide +kernel
theorem d_D_lowerGroupPhase_0 : decode c_D_lowerGroupPhase 0 = .ok (.iload_n 2, 1) := by decide +kernel
theorem d_D_lowerGroupPhase_1 : decode c_D_lowerGroupPhase 1 = .ok (.iconst (-1), 1) := by decide +kernel
theorem d_D_lowerGroupPhase_2 : decode c_D_lowerGroupPhase 2 = .ok (.if_icmp .eq 30, 3) := by decide +kernel
theorem d_D_lowerGroupPhase_5 : decode c_D_lowerGroupPhase 5 = .ok (.aload_n 0, 1) := by decide +kernel
theorem d_D_lowerGroupPhase_6 : decode c_D_lowerGroupPhase 6 = .ok (.getfield 15, 3) := by decide +kernel
theorem d_D_lowerGroupPhase_9 : decode c_D_lowerGroupPhase 9 = .ok (.iload_n 1, 1) := by decide +kernel
theorem d_D_lowerGroupPhase_10 : decode c_D_lowerGroupPhase 10 = .ok (.iaload, 1) := by decide +kernel
theorem d_D_lowerGroupPhase_11 : decode c_D_lowerGroupPhase 11 = .ok (.iconst (-1), 1) := by decide +kernel
theorem d_D_lowerGroupPhase_12 : decode c_D_lowerGroupPhase 12 = .ok (.if_icmp .eq 13, 3) := by decide +kernel
theorem d_D_lowerGroupPhase_15 : decode c_D_lowerGroupPhase 15 = .ok (.iload_n 2, 1) := by decide +kernel
theorem d_D_lowerGroupPhase_16 : decode c_D_lowerGroupPhase 16 = .ok (.aload_n 0, 1) := by decide +kernel
theorem d_D_lowerGroupPhase_17 : decode c_D_lowerGroupPhase 17 = .ok (.getfield 15, 3) := by decide +kernel
theorem d_D_lowerGroupPhase_20 : decode c_D_lowerGroupPhase 20 = .ok (.iload_n 1, 1) := by decide +kernel
theorem d_D_lowerGroupPhase_21 : decode c_D_lowerGroupPhase 21 = .ok (.iaload, 1) := by decide +kernel
theorem d_D_lowerGroupPhase_22 : decode c_D_lowerGroupPhase 22 = .ok (.if_icmp .ge 10, 3) := by decide +kernel
theorem d_D_lowerGroupPhase_25 : decode c_D_lowerGroupPhase 25 = .ok (.aload_n 0, 1) := by decide +kernel
theorem d_D_lowerGroupPhase_26 : decode c_D_lowerGroupPhase 26 = .ok (.getfield 15, 3) := by decide +kernel
theorem d_D_lowerGroupPhase_29 : decode c_D_lowerGroupPhase 29 = .ok (.iload_n 1, 1) := by decide +kernel
theorem d_D_lowerGroupPhase_30 : decode c_D_lowerGroupPhase 30 = .ok (.iload_n 2, 1) := by decide +kernel
theorem d_D_lowerGroupPhase_31 : decode c_D_lowerGroupPhase 31 = .ok (.iastore, 1) := by decide +kernel
theorem d_D_lowerGroupPhase_32 : decode c_D_lowerGroupPhase 32 = .ok (.return_, 1) := by decide +kernel
theorem d_P_init_0 : decode c_P_init 0 = .ok (.aload_n 0, 1) := by decide +kernel
theorem d_P_init_1 : decode c_P_init 1 = .ok (.invokespecial 3, 3) := by decide +kernel
theorem d_P_init_4 : decode c_P_init 4 = .ok (.aload_n 0, 1) := by decide +kernel
theorem d_P_init_5 : decode c_P_init 5 = .ok (.bipush 16, 2) := by decide +kernel
theorem d_P_init_7 : decode c_P_init 7 = .ok (.newarray .int, 2) := by decide +kernel
theorem d_P_init_9 : decode c_P_init 9 = .ok (.putfield 9, 3) := by decide +kernel
theorem d_P_init_12 : decode c_P_init 12 = .ok (.aload_n 0, 1) := by decide +kernel
theorem d_P_init_13 : decode c_P_init 13 = .ok (.sipush 256, 3) := by decide +kernel
theorem d_P_init_16 : decode c_P_init 16 = .ok (.newarray .int, 2) := by decide +kernel
theorem d_P_init_18 : decode c_P_init 18 = .ok (.putfield 15, 3) := by decide +kernel
theorem d_P_init_21 : decode c_P_init 21 = .ok (.aload_n 0, 1) := by decide +kernel
theorem d_P_init_22 : decode c_P_init 22 = .ok (.sipush 256, 3) := by decide +kernel
theorem d_P_init_25 : decode c_P_init 25 = .ok (.newarray .int, 2) := by decide +kernel
theorem d_P_init_27 : decode c_P_init 27 = .ok (.putfield 18, 3) := by decide +kernel
theorem d_P_init_30 : decode c_P_init 30 = .ok (.aload_n 0, 1) := by decide +kernel
theorem d_P_init_31 : decode c_P_init 31 = .ok (.bipush 16, 2) := by decide +kernel
theorem d_P_init_33 : decode c_P_init 33 = .ok (.newarray .int, 2) := by decide +kernel
theorem d_P_init_35 : decode c_P_init 35 = .ok (.putfield 21, 3) := by decide +kernel
theorem d_P_init_38 : decode c_P_init 38 = .ok (.aload_n 0, 1) := by decide +kernel
theorem d_P_init_39 : decode c_P_init 39 = .ok (.bipush 16, 2) := by decide +kernel
theorem d_P_init_41 : decode c_P_init 41 = .ok (.newarray .int, 2) := by decide +kernel
theorem d_P_init_43 : decode c_P_init 43 = .ok (.putfield 24, 3) := by decide +kernel
theorem d_P_init_46 : decode c_P_init 46 = .ok (.aload_n 0, 1) := by decide +kernel
theorem d_P_init_47 : decode c_P_init 47 = .ok (.sipush 256, 3) := by decide +kernel
theorem d_P_init_50 : decode c_P_init 50 = .ok (.newarray .int, 2) := by decide +kernel
theorem d_P_init_52 : decode c_P_init 52 = .ok (.putfield 27, 3) := by decide +kernel
theorem d_P_init_55 : decode c_P_init 55 = .ok (.return_, 1) := by decide +kernel
theorem d_P_make_0 : decode c_P_make 0 = .ok (.aload_n 0, 1) := by decide +kernel
theorem d_P_make_1 : decode c_P_make 1 = .ok (.aload_n 1, 1) := by decide +kernel
theorem d_P_make_2 : decode c_P_make 2 = .ok (.aload_n 1, 1) := by decide +kernel
theorem d_P_make_3 : decode c_P_make 3 = .ok (.getfield 30, 3) := by decide +kernel
theorem d_P_make_6 : decode c_P_make 6 = .ok (.aload_n 1, 1) := by decide +kernel
theorem d_P_make_7 : decode c_P_make 7 = .ok (.getfield 36, 3) := by decide +kernel
theorem d_P_make_10 : decode c_P_make 10 = .ok (.iconst (-1), 1) := by decide +kernel
theorem d_P_make_11 : decode c_P_make 11 = .ok (.ixor, 1) := by decide +kernel
theorem d_P_make_12 : decode c_P_make 12 = .ok (.iand, 1) := by decide +kernel
theorem d_P_make_13 : decode c_P_make 13 = .ok (.invokevirtual 39, 3) := by decide +kernel
theorem d_P_make_16 : decode c_P_make 16 = .ok (.putfield 43, 3) := by decide +kernel
theorem d_P_make_19 : decode c_P_make 19 = .ok (.aload_n 0, 1) := by decide +kernel
theorem d_P_make_20 : decode c_P_make 20 = .ok (.aload_n 1, 1) := by decide +kernel
theorem d_P_make_21 : decode c_P_make 21 = .ok (.invokevirtual 46, 3) := by decide +kernel
theorem d_P_make_24 : decode c_P_make 24 = .ok (.aload_n 0, 1) := by decide +kernel
theorem d_P_make_25 : decode c_P_make 25 = .ok (.aload_n 1, 1) := by decide +kernel
theorem d_P_make_26 : decode c_P_make 26 = .ok (.invokevirtual 50, 3) := by decide +kernel
theorem d_P_make_29 : decode c_P_make 29 = .ok (.aload_n 0, 1) := by decide +kernel
theorem d_P_make_30 : decode c_P_make 30 = .ok (.invokevirtual 53, 3) := by decide +kernel
theorem d_P_make_33 : decode c_P_make 33 = .ok (.aload_n 0, 1) := by decide +kernel
theorem d_P_make_34 : decode c_P_make 34 = .ok (.invokevirtual 56, 3) := by decide +kernel
theorem d_P_make_37 : decode c_P_make 37 = .ok (.return_, 1) := by decide +kernel
theorem d_P_bendsOf_0 : decode c_P_bendsOf 0 = .ok (.aload_n 0, 1) := by decide +kernel
theorem d_P_bendsOf_1 : decode c_P_bendsOf 1 = .ok (.getfield 9, 3) := by decide +kernel
theorem d_P_bendsOf_4 : decode c_P_bendsOf 4 = .ok (.aload_n 0, 1) := by decide +kernel
theorem d_P_bendsOf_5 : decode c_P_bendsOf 5 = .ok (.getfield 18, 3) := by decide +kernel
theorem d_P_bendsOf_8 : decode c_P_bendsOf 8 = .ok (.iload_n 1, 1) := by decide +kernel
theorem d_P_bendsOf_9 : decode c_P_bendsOf 9 = .ok (.iaload, 1) := by decide +kernel
theorem d_P_bendsOf_10 : decode c_P_bendsOf 10 = .ok (.iaload, 1) := by decide +kernel
theorem d_P_bendsOf_11 : decode c_P_bendsOf 11 = .ok (.aload_n 0, 1) := by decide +kernel
theorem d_P_bendsOf_12 : decode c_P_bendsOf 12 = .ok (.getfield 9, 3) := by decide +kernel
theorem d_P_bendsOf_15 : decode c_P_bendsOf 15 = .ok (.aload_n 0, 1) := by decide +kernel
theorem d_P_bendsOf_16 : decode c_P_bendsOf 16 = .ok (.getfield 15, 3) := by decide +kernel
theorem d_P_bendsOf_19 : decode c_P_bendsOf 19 = .ok (.iload_n 1, 1) := by decide +kernel
theorem d_P_bendsOf_20 : decode c_P_bendsOf 20 = .ok (.iaload, 1) := by decide +kernel
theorem d_P_bendsOf_21 : decode c_P_bendsOf 21 = .ok (.iaload, 1) := by decide +kernel
theorem d_P_bendsOf_22 : decode c_P_bendsOf 22 = .ok (.isub, 1) := by decide +kernel
theorem d_P_bendsOf_23 : decode c_P_bendsOf 23 = .ok (.iconst 1, 1) := by decide +kernel
theorem d_P_bendsOf_24 : decode c_P_bendsOf 24 = .ok (.isub, 1) := by decide +kernel
theorem d_P_bendsOf_25 : decode c_P_bendsOf 25 = .ok (.ireturn, 1) := by decide +kernel
theorem d_P_pointOf_0 : decode c_P_pointOf 0 = .ok (.iload_n 2, 1) := by decide +kernel
theorem d_P_pointOf_1 : decode c_P_pointOf 1 = .ok (.ifCond .gt 10, 3) := by decide +kernel
theorem d_P_pointOf_4 : decode c_P_pointOf 4 = .ok (.aload_n 0, 1) := by decide +kernel
theorem d_P_pointOf_5 : decode c_P_pointOf 5 = .ok (.getfield 15, 3) := by decide +kernel
theorem d_P_pointOf_8 : decode c_P_pointOf 8 = .ok (.iload_n 1, 1) := by decide +kernel
theorem d_P_pointOf_9 : decode c_P_pointOf 9 = .ok (.iaload, 1) := by decide +kernel
theorem d_P_pointOf_10 : decode c_P_pointOf 10 = .ok (.ireturn, 1) := by decide +kernel
theorem d_P_pointOf_11 : decode c_P_pointOf 11 = .ok (.iload_n 2, 1) := by decide +kernel
theorem d_P_pointOf_12 : decode c_P_pointOf 12 = .ok (.aload_n 0, 1) := by decide +kernel
theorem d_P_pointOf_13 : decode c_P_pointOf 13 = .ok (.iload_n 1, 1) := by decide +kernel
theorem d_P_pointOf_14 : decode c_P_pointOf 14 = .ok (.invokevirtual 59, 3) := by decide +kernel
theorem d_P_pointOf_17 : decode c_P_pointOf 17 = .ok (.if_icmp .le 12, 3) := by decide +kernel
theorem d_P_pointOf_20 : decode c_P_pointOf 20 = .ok (.aload_n 0, 1) := by decide +kernel
theorem d_P_pointOf_21 : decode c_P_pointOf 21 = .ok (.getfield 18, 3) := by decide +kernel
theorem d_P_pointOf_24 : decode c_P_pointOf 24 = .ok (.iload_n 1, 1) := by decide +kernel
theorem d_P_pointOf_25 : decode c_P_pointOf 25 = .ok (.iaload, 1) := by decide +kernel
theorem d_P_pointOf_26 : decode c_P_pointOf 26 = .ok (.goto 16, 3) := by decide +kernel
theorem d_P_pointOf_29 : decode c_P_pointOf 29 = .ok (.bipush 16, 2) := by decide +kernel
theorem d_P_pointOf_31 : decode c_P_pointOf 31 = .ok (.aload_n 0, 1) := by decide +kernel
theorem d_P_pointOf_32 : decode c_P_pointOf 32 = .ok (.getfield 27, 3) := by decide +kernel
theorem d_P_pointOf_35 : decode c_P_pointOf 35 = .ok (.iload_n 1, 1) := by decide +kernel
theorem d_P_pointOf_36 : decode c_P_pointOf 36 = .ok (.iaload, 1) := by decide +kernel
theorem d_P_pointOf_37 : decode c_P_pointOf 37 = .ok (.iadd, 1) := by decide +kernel
theorem d_P_pointOf_38 : decode c_P_pointOf 38 = .ok (.iload_n 2, 1) := by decide +kernel
theorem d_P_pointOf_39 : decode c_P_pointOf 39 = .ok (.iadd, 1) := by decide +kernel
theorem d_P_pointOf_40 : decode c_P_pointOf 40 = .ok (.iconst 1, 1) := by decide +kernel
theorem d_P_pointOf_41 : decode c_P_pointOf 41 = .ok (.isub, 1) := by decide +kernel
theorem d_P_pointOf_42 : decode c_P_pointOf 42 = .ok (.ireturn, 1) := by decide +kernel
theorem d_P_findLinks_0 : decode c_P_findLinks 0 = .ok (.aload_n 1, 1) := by decide +kernel
theorem d_P_findLinks_1 : decode c_P_findLinks 1 = .ok (.aload_n 1, 1) := by decide +kernel
theorem d_P_findLinks_2 : decode c_P_findLinks 2 = .ok (.getfield 30, 3) := by decide +kernel
theorem d_P_findLinks_5 : decode c_P_findLinks 5 = .ok (.invokevirtual 39, 3) := by decide +kernel
theorem d_P_findLinks_8 : decode c_P_findLinks 8 = .ok (.aload_n 0, 1) := by decide +kernel
theorem d_P_findLinks_9 : decode c_P_findLinks 9 = .ok (.getfield 43, 3) := by decide +kernel
theorem d_P_findLinks_12 : decode c_P_findLinks 12 = .ok (.iconst (-1), 1) := by decide +kernel
theorem d_P_findLinks_13 : decode c_P_findLinks 13 = .ok (.ixor, 1) := by decide +kernel
theorem d_P_findLinks_14 : decode c_P_findLinks 14 = .ok (.iand, 1) := by decide +kernel
theorem d_P_findLinks_15 : decode c_P_findLinks 15 = .ok (.istore_n 2, 1) := by decide +kernel
theorem d_P_findLinks_16 : decode c_P_findLinks 16 = .ok (.aload_n 1, 1) := by decide +kernel
theorem d_P_findLinks_17 : decode c_P_findLinks 17 = .ok (.getfield 62, 3) := by decide +kernel
theorem d_P_findLinks_20 : decode c_P_findLinks 20 = .ok (.iconst 0, 1) := by decide +kernel
theorem d_P_findLinks_21 : decode c_P_findLinks 21 = .ok (.aload_n 0, 1) := by decide +kernel
theorem d_P_findLinks_22 : decode c_P_findLinks 22 = .ok (.getfield 21, 3) := by decide +kernel
theorem d_P_findLinks_25 : decode c_P_findLinks 25 = .ok (.iconst 0, 1) := by decide +kernel
theorem d_P_findLinks_26 : decode c_P_findLinks 26 = .ok (.bipush 16, 2) := by decide +kernel
theorem d_P_findLinks_28 : decode c_P_findLinks 28 = .ok (.invokestatic 65, 3) := by decide +kernel
theorem d_P_findLinks_31 : decode c_P_findLinks 31 = .ok (.aload_n 0, 1) := by decide +kernel
theorem d_P_findLinks_32 : decode c_P_findLinks 32 = .ok (.getfield 21, 3) := by decide +kernel
theorem d_P_findLinks_35 : decode c_P_findLinks 35 = .ok (.iload_n 2, 1) := by decide +kernel
theorem d_P_findLinks_36 : decode c_P_findLinks 36 = .ok (.invokestatic 71, 3) := by decide +kernel
theorem d_P_findLinks_39 : decode c_P_findLinks 39 = .ok (.aload_n 0, 1) := by decide +kernel
theorem d_P_findLinks_40 : decode c_P_findLinks 40 = .ok (.iconst 0, 1) := by decide +kernel
theorem d_P_findLinks_41 : decode c_P_findLinks 41 = .ok (.putfield 75, 3) := by decide +kernel
theorem d_P_findLinks_44 : decode c_P_findLinks 44 = .ok (.iconst 0, 1) := by decide +kernel
theorem d_P_findLinks_45 : decode c_P_findLinks 45 = .ok (.istore_n 3, 1) := by decide +kernel
theorem d_P_findLinks_46 : decode c_P_findLinks 46 = .ok (.iload_n 3, 1) := by decide +kernel
theorem d_P_findLinks_47 : decode c_P_findLinks 47 = .ok (.bipush 16, 2) := by decide +kernel
theorem d_P_findLinks_49 : decode c_P_findLinks 49 = .ok (.if_icmp .ge 86, 3) := by decide +kernel
theorem d_P_findLinks_52 : decode c_P_findLinks 52 = .ok (.iconst 0, 1) := by decide +kernel
theorem d_P_findLinks_53 : decode c_P_findLinks 53 = .ok (.istore 4, 2) := by decide +kernel
theorem d_P_findLinks_55 : decode c_P_findLinks 55 = .ok (.iload 4, 2) := by decide +kernel
theorem d_P_findLinks_57 : decode c_P_findLinks 57 = .ok (.bipush 16, 2) := by decide +kernel
theorem d_P_findLinks_59 : decode c_P_findLinks 59 = .ok (.if_icmp .ge 70, 3) := by decide +kernel
theorem d_P_findLinks_62 : decode c_P_findLinks 62 = .ok (.aload_n 0, 1) := by decide +kernel
theorem d_P_findLinks_63 : decode c_P_findLinks 63 = .ok (.getfield 43, 3) := by decide +kernel
theorem d_P_findLinks_66 : decode c_P_findLinks 66 = .ok (.iload_n 3, 1) := by decide +kernel
theorem d_P_findLinks_67 : decode c_P_findLinks 67 = .ok (.invokestatic 78, 3) := by decide +kernel
theorem d_P_findLinks_70 : decode c_P_findLinks 70 = .ok (.ifCond .eq 53, 3) := by decide +kernel
theorem d_P_findLinks_73 : decode c_P_findLinks 73 = .ok (.aload_n 0, 1) := by decide +kernel
theorem d_P_findLinks_74 : decode c_P_findLinks 74 = .ok (.getfield 21, 3) := by decide +kernel
theorem d_P_findLinks_77 : decode c_P_findLinks 77 = .ok (.iload_n 3, 1) := by decide +kernel
theorem d_P_findLinks_78 : decode c_P_findLinks 78 = .ok (.iaload, 1) := by decide +kernel
theorem d_P_findLinks_79 : decode c_P_findLinks 79 = .ok (.aload_n 0, 1) := by decide +kernel
theorem d_P_findLinks_80 : decode c_P_findLinks 80 = .ok (.getfield 43, 3) := by decide +kernel
theorem d_P_findLinks_83 : decode c_P_findLinks 83 = .ok (.iand, 1) := by decide +kernel
theorem d_P_findLinks_84 : decode c_P_findLinks 84 = .ok (.iload 4, 2) := by decide +kernel
theorem d_P_findLinks_86 : decode c_P_findLinks 86 = .ok (.invokestatic 78, 3) := by decide +kernel
theorem d_P_findLinks_89 : decode c_P_findLinks 89 = .ok (.ifCond .eq 34, 3) := by decide +kernel
theorem d_P_findLinks_92 : decode c_P_findLinks 92 = .ok (.aload_n 0, 1) := by decide +kernel
theorem d_P_findLinks_93 : decode c_P_findLinks 93 = .ok (.getfield 15, 3) := by decide +kernel
theorem d_P_findLinks_96 : decode c_P_findLinks 96 = .ok (.aload_n 0, 1) := by decide +kernel
theorem d_P_findLinks_97 : decode c_P_findLinks 97 = .ok (.getfield 75, 3) := by decide +kernel
theorem d_P_findLinks_100 : decode c_P_findLinks 100 = .ok (.iload_n 3, 1) := by decide +kernel
theorem d_P_findLinks_101 : decode c_P_findLinks 101 = .ok (.iastore, 1) := by decide +kernel
theorem d_P_findLinks_102 : decode c_P_findLinks 102 = .ok (.aload_n 0, 1) := by decide +kernel
theorem d_P_findLinks_103 : decode c_P_findLinks 103 = .ok (.getfield 18, 3) := by decide +kernel
theorem d_P_findLinks_106 : decode c_P_findLinks 106 = .ok (.aload_n 0, 1) := by decide +kernel
theorem d_P_findLinks_107 : decode c_P_findLinks 107 = .ok (.getfield 75, 3) := by decide +kernel
theorem d_P_findLinks_110 : decode c_P_findLinks 110 = .ok (.iload 4, 2) := by decide +kernel
theorem d_P_findLinks_112 : decode c_P_findLinks 112 = .ok (.iastore, 1) := by decide +kernel
theorem d_P_findLinks_113 : decode c_P_findLinks 113 = .ok (.aload_n 0, 1) := by decide +kernel
theorem d_P_findLinks_114 : decode c_P_findLinks 114 = .ok (.dup, 1) := by decide +kernel
theorem d_P_findLinks_115 : decode c_P_findLinks 115 = .ok (.getfield 75, 3) := by decide +kernel
theorem d_P_findLinks_118 : decode c_P_findLinks 118 = .ok (.iconst 1, 1) := by decide +kernel
theorem d_P_findLinks_119 : decode c_P_findLinks 119 = .ok (.iadd, 1) := by decide +kernel
theorem d_P_findLinks_120 : decode c_P_findLinks 120 = .ok (.putfield 75, 3) := by decide +kernel
theorem d_P_findLinks_123 : decode c_P_findLinks 123 = .ok (.iinc 4 1, 3) := by decide +kernel
theorem d_P_findLinks_126 : decode c_P_findLinks 126 = .ok (.goto (-71), 3) := by decide +kernel
theorem d_P_findLinks_129 : decode c_P_findLinks 129 = .ok (.iinc 3 1, 3) := by decide +kernel
theorem d_P_findLinks_132 : decode c_P_findLinks 132 = .ok (.goto (-86), 3) := by decide +kernel
theorem d_P_findLinks_135 : decode c_P_findLinks 135 = .ok (.return_, 1) := by decide +kernel
theorem d_P_findForerunners_0 : decode c_P_findForerunners 0 = .ok (.iconst 0, 1) := by decide +kernel
theorem d_P_findForerunners_1 : decode c_P_findForerunners 1 = .ok (.istore_n 2, 1) := by decide +kernel
theorem d_P_findForerunners_2 : decode c_P_findForerunners 2 = .ok (.iload_n 2, 1) := by decide +kernel
theorem d_P_findForerunners_3 : decode c_P_findForerunners 3 = .ok (.bipush 16, 2) := by decide +kernel
theorem d_P_findForerunners_5 : decode c_P_findForerunners 5 = .ok (.if_icmp .ge 75, 3) := by decide +kernel
theorem d_P_findForerunners_8 : decode c_P_findForerunners 8 = .ok (.aload_n 0, 1) := by decide +kernel
theorem d_P_findForerunners_9 : decode c_P_findForerunners 9 = .ok (.getfield 24, 3) := by decide +kernel
theorem d_P_findForerunners_12 : decode c_P_findForerunners 12 = .ok (.iload_n 2, 1) := by decide +kernel
theorem d_P_findForerunners_13 : decode c_P_findForerunners 13 = .ok (.iconst 0, 1) := by decide +kernel
theorem d_P_findForerunners_14 : decode c_P_findForerunners 14 = .ok (.iastore, 1) := by decide +kernel
theorem d_P_findForerunners_15 : decode c_P_findForerunners 15 = .ok (.iconst 0, 1) := by decide +kernel
theorem d_P_findForerunners_16 : decode c_P_findForerunners 16 = .ok (.istore_n 3, 1) := by decide +kernel
theorem d_P_findForerunners_17 : decode c_P_findForerunners 17 = .ok (.iload_n 3, 1) := by decide +kernel
theorem d_P_findForerunners_18 : decode c_P_findForerunners 18 = .ok (.bipush 16, 2) := by decide +kernel
theorem d_P_findForerunners_20 : decode c_P_findForerunners 20 = .ok (.if_icmp .ge 54, 3) := by decide +kernel
theorem d_P_findForerunners_23 : decode c_P_findForerunners 23 = .ok (.aload_n 0, 1) := by decide +kernel
theorem d_P_findForerunners_24 : decode c_P_findForerunners 24 = .ok (.getfield 43, 3) := by decide +kernel
theorem d_P_findForerunners_27 : decode c_P_findForerunners 27 = .ok (.iload_n 3, 1) := by decide +kernel
theorem d_P_findForerunners_28 : decode c_P_findForerunners 28 = .ok (.invokestatic 78, 3) := by decide +kernel
theorem d_P_findForerunners_31 : decode c_P_findForerunners 31 = .ok (.ifCond .eq 37, 3) := by decide +kernel
theorem d_P_findForerunners_34 : decode c_P_findForerunners 34 = .ok (.aload_n 0, 1) := by decide +kernel
theorem d_P_findForerunners_35 : decode c_P_findForerunners 35 = .ok (.getfield 21, 3) := by decide +kernel
theorem d_P_findForerunners_38 : decode c_P_findForerunners 38 = .ok (.iload_n 3, 1) := by decide +kernel
theorem d_P_findForerunners_39 : decode c_P_findForerunners 39 = .ok (.iaload, 1) := by decide +kernel
theorem d_P_findForerunners_40 : decode c_P_findForerunners 40 = .ok (.iload_n 2, 1) := by decide +kernel
theorem d_P_findForerunners_41 : decode c_P_findForerunners 41 = .ok (.invokestatic 78, 3) := by decide +kernel
theorem d_P_findForerunners_44 : decode c_P_findForerunners 44 = .ok (.ifCond .ne 12, 3) := by decide +kernel
theorem d_P_findForerunners_47 : decode c_P_findForerunners 47 = .ok (.aload_n 1, 1) := by decide +kernel
theorem d_P_findForerunners_48 : decode c_P_findForerunners 48 = .ok (.iload_n 2, 1) := by decide +kernel
theorem d_P_findForerunners_49 : decode c_P_findForerunners 49 = .ok (.iload_n 3, 1) := by decide +kernel
theorem d_P_findForerunners_50 : decode c_P_findForerunners 50 = .ok (.invokevirtual 82, 3) := by decide +kernel
theorem d_P_findForerunners_53 : decode c_P_findForerunners 53 = .ok (.ifCond .eq 15, 3) := by decide +kernel
theorem d_P_findForerunners_56 : decode c_P_findForerunners 56 = .ok (.aload_n 0, 1) := by decide +kernel
theorem d_P_findForerunners_57 : decode c_P_findForerunners 57 = .ok (.getfield 24, 3) := by decide +kernel
theorem d_P_findForerunners_60 : decode c_P_findForerunners 60 = .ok (.iload_n 2, 1) := by decide +kernel
theorem d_P_findForerunners_61 : decode c_P_findForerunners 61 = .ok (.dup2, 1) := by decide +kernel
theorem d_P_findForerunners_62 : decode c_P_findForerunners 62 = .ok (.iaload, 1) := by decide +kernel
theorem d_P_findForerunners_63 : decode c_P_findForerunners 63 = .ok (.iconst 1, 1) := by decide +kernel
theorem d_P_findForerunners_64 : decode c_P_findForerunners 64 = .ok (.iload_n 3, 1) := by decide +kernel
theorem d_P_findForerunners_65 : decode c_P_findForerunners 65 = .ok (.ishl, 1) := by decide +kernel
theorem d_P_findForerunners_66 : decode c_P_findForerunners 66 = .ok (.ior, 1) := by decide +kernel
theorem d_P_findForerunners_67 : decode c_P_findForerunners 67 = .ok (.iastore, 1) := by decide +kernel
theorem d_P_findForerunners_68 : decode c_P_findForerunners 68 = .ok (.iinc 3 1, 3) := by decide +kernel
theorem d_P_findForerunners_71 : decode c_P_findForerunners 71 = .ok (.goto (-54), 3) := by decide +kernel
theorem d_P_findForerunners_74 : decode c_P_findForerunners 74 = .ok (.iinc 2 1, 3) := by decide +kernel
theorem d_P_findForerunners_77 : decode c_P_findForerunners 77 = .ok (.goto (-75), 3) := by decide +kernel
theorem d_P_findForerunners_80 : decode c_P_findForerunners 80 = .ok (.return_, 1) := by decide +kernel
theorem d_P_layRows_0 : decode c_P_layRows 0 = .ok (.iconst 0, 1) := by decide +kernel
theorem d_P_layRows_1 : decode c_P_layRows 1 = .ok (.istore_n 1, 1) := by decide +kernel
theorem d_P_layRows_2 : decode c_P_layRows 2 = .ok (.aload_n 0, 1) := by decide +kernel
theorem d_P_layRows_3 : decode c_P_layRows 3 = .ok (.iconst 0, 1) := by decide +kernel
theorem d_P_layRows_4 : decode c_P_layRows 4 = .ok (.putfield 85, 3) := by decide +kernel
theorem d_P_layRows_7 : decode c_P_layRows 7 = .ok (.iload_n 1, 1) := by decide +kernel
theorem d_P_layRows_8 : decode c_P_layRows 8 = .ok (.aload_n 0, 1) := by decide +kernel
theorem d_P_layRows_9 : decode c_P_layRows 9 = .ok (.getfield 43, 3) := by decide +kernel
theorem d_P_layRows_12 : decode c_P_layRows 12 = .ok (.if_icmp .eq 89, 3) := by decide +kernel
theorem d_P_layRows_15 : decode c_P_layRows 15 = .ok (.aload_n 0, 1) := by decide +kernel
theorem d_P_layRows_16 : decode c_P_layRows 16 = .ok (.getfield 85, 3) := by decide +kernel
theorem d_P_layRows_19 : decode c_P_layRows 19 = .ok (.bipush 16, 2) := by decide +kernel
theorem d_P_layRows_21 : decode c_P_layRows 21 = .ok (.if_icmp .ge 80, 3) := by decide +kernel
theorem d_P_layRows_24 : decode c_P_layRows 24 = .ok (.iconst 0, 1) := by decide +kernel
theorem d_P_layRows_25 : decode c_P_layRows 25 = .ok (.istore_n 2, 1) := by decide +kernel
theorem d_P_layRows_26 : decode c_P_layRows 26 = .ok (.iconst 0, 1) := by decide +kernel
theorem d_P_layRows_27 : decode c_P_layRows 27 = .ok (.istore_n 3, 1) := by decide +kernel
theorem d_P_layRows_28 : decode c_P_layRows 28 = .ok (.iload_n 3, 1) := by decide +kernel
theorem d_P_layRows_29 : decode c_P_layRows 29 = .ok (.bipush 16, 2) := by decide +kernel
theorem d_P_layRows_31 : decode c_P_layRows 31 = .ok (.if_icmp .ge 53, 3) := by decide +kernel
theorem d_P_layRows_34 : decode c_P_layRows 34 = .ok (.aload_n 0, 1) := by decide +kernel
theorem d_P_layRows_35 : decode c_P_layRows 35 = .ok (.getfield 43, 3) := by decide +kernel
theorem d_P_layRows_38 : decode c_P_layRows 38 = .ok (.iload_n 1, 1) := by decide +kernel
theorem d_P_layRows_39 : decode c_P_layRows 39 = .ok (.iconst (-1), 1) := by decide +kernel
theorem d_P_layRows_40 : decode c_P_layRows 40 = .ok (.ixor, 1) := by decide +kernel
theorem d_P_layRows_41 : decode c_P_layRows 41 = .ok (.iand, 1) := by decide +kernel
theorem d_P_layRows_42 : decode c_P_layRows 42 = .ok (.iload_n 3, 1) := by decide +kernel
theorem d_P_layRows_43 : decode c_P_layRows 43 = .ok (.invokestatic 78, 3) := by decide +kernel
theorem d_P_layRows_46 : decode c_P_layRows 46 = .ok (.ifCond .eq 32, 3) := by decide +kernel
theorem d_P_layRows_49 : decode c_P_layRows 49 = .ok (.aload_n 0, 1) := by decide +kernel
theorem d_P_layRows_50 : decode c_P_layRows 50 = .ok (.getfield 24, 3) := by decide +kernel
theorem d_P_layRows_53 : decode c_P_layRows 53 = .ok (.iload_n 3, 1) := by decide +kernel
theorem d_P_layRows_54 : decode c_P_layRows 54 = .ok (.iaload, 1) := by decide +kernel
theorem d_P_layRows_55 : decode c_P_layRows 55 = .ok (.iload_n 1, 1) := by decide +kernel
theorem d_P_layRows_56 : decode c_P_layRows 56 = .ok (.iconst (-1), 1) := by decide +kernel
theorem d_P_layRows_57 : decode c_P_layRows 57 = .ok (.ixor, 1) := by decide +kernel
theorem d_P_layRows_58 : decode c_P_layRows 58 = .ok (.iand, 1) := by decide +kernel
theorem d_P_layRows_59 : decode c_P_layRows 59 = .ok (.ifCond .ne 19, 3) := by decide +kernel
theorem d_P_layRows_62 : decode c_P_layRows 62 = .ok (.aload_n 0, 1) := by decide +kernel
theorem d_P_layRows_63 : decode c_P_layRows 63 = .ok (.getfield 9, 3) := by decide +kernel
theorem d_P_layRows_66 : decode c_P_layRows 66 = .ok (.iload_n 3, 1) := by decide +kernel
theorem d_P_layRows_67 : decode c_P_layRows 67 = .ok (.aload_n 0, 1) := by decide +kernel
theorem d_P_layRows_68 : decode c_P_layRows 68 = .ok (.getfield 85, 3) := by decide +kernel
theorem d_P_layRows_71 : decode c_P_layRows 71 = .ok (.iastore, 1) := by decide +kernel
theorem d_P_layRows_72 : decode c_P_layRows 72 = .ok (.iload_n 2, 1) := by decide +kernel
theorem d_P_layRows_73 : decode c_P_layRows 73 = .ok (.iconst 1, 1) := by decide +kernel
theorem d_P_layRows_74 : decode c_P_layRows 74 = .ok (.iload_n 3, 1) := by decide +kernel
theorem d_P_layRows_75 : decode c_P_layRows 75 = .ok (.ishl, 1) := by decide +kernel
theorem d_P_layRows_76 : decode c_P_layRows 76 = .ok (.ior, 1) := by decide +kernel
theorem d_P_layRows_77 : decode c_P_layRows 77 = .ok (.istore_n 2, 1) := by decide +kernel
theorem d_P_layRows_78 : decode c_P_layRows 78 = .ok (.iinc 3 1, 3) := by decide +kernel
theorem d_P_layRows_81 : decode c_P_layRows 81 = .ok (.goto (-53), 3) := by decide +kernel
theorem d_P_layRows_84 : decode c_P_layRows 84 = .ok (.iload_n 1, 1) := by decide +kernel
theorem d_P_layRows_85 : decode c_P_layRows 85 = .ok (.iload_n 2, 1) := by decide +kernel
theorem d_P_layRows_86 : decode c_P_layRows 86 = .ok (.ior, 1) := by decide +kernel
theorem d_P_layRows_87 : decode c_P_layRows 87 = .ok (.istore_n 1, 1) := by decide +kernel
theorem d_P_layRows_88 : decode c_P_layRows 88 = .ok (.aload_n 0, 1) := by decide +kernel
theorem d_P_layRows_89 : decode c_P_layRows 89 = .ok (.dup, 1) := by decide +kernel
theorem d_P_layRows_90 : decode c_P_layRows 90 = .ok (.getfield 85, 3) := by decide +kernel
theorem d_P_layRows_93 : decode c_P_layRows 93 = .ok (.iconst 1, 1) := by decide +kernel
theorem d_P_layRows_94 : decode c_P_layRows 94 = .ok (.iadd, 1) := by decide +kernel
theorem d_P_layRows_95 : decode c_P_layRows 95 = .ok (.putfield 85, 3) := by decide +kernel
theorem d_P_layRows_98 : decode c_P_layRows 98 = .ok (.goto (-91), 3) := by decide +kernel
theorem d_P_layRows_101 : decode c_P_layRows 101 = .ok (.return_, 1) := by decide +kernel
theorem d_P_layBends_0 : decode c_P_layBends 0 = .ok (.aload_n 0, 1) := by decide +kernel
theorem d_P_layBends_1 : decode c_P_layBends 1 = .ok (.iconst 0, 1) := by decide +kernel
theorem d_P_layBends_2 : decode c_P_layBends 2 = .ok (.putfield 88, 3) := by decide +kernel
theorem d_P_layBends_5 : decode c_P_layBends 5 = .ok (.iconst 0, 1) := by decide +kernel
theorem d_P_layBends_6 : decode c_P_layBends 6 = .ok (.istore_n 1, 1) := by decide +kernel
theorem d_P_layBends_7 : decode c_P_layBends 7 = .ok (.iload_n 1, 1) := by decide +kernel
theorem d_P_layBends_8 : decode c_P_layBends 8 = .ok (.aload_n 0, 1) := by decide +kernel
theorem d_P_layBends_9 : decode c_P_layBends 9 = .ok (.getfield 75, 3) := by decide +kernel
theorem d_P_layBends_12 : decode c_P_layBends 12 = .ok (.if_icmp .ge 33, 3) := by decide +kernel
theorem d_P_layBends_15 : decode c_P_layBends 15 = .ok (.aload_n 0, 1) := by decide +kernel
theorem d_P_layBends_16 : decode c_P_layBends 16 = .ok (.getfield 27, 3) := by decide +kernel
theorem d_P_layBends_19 : decode c_P_layBends 19 = .ok (.iload_n 1, 1) := by decide +kernel
theorem d_P_layBends_20 : decode c_P_layBends 20 = .ok (.aload_n 0, 1) := by decide +kernel
theorem d_P_layBends_21 : decode c_P_layBends 21 = .ok (.getfield 88, 3) := by decide +kernel
theorem d_P_layBends_24 : decode c_P_layBends 24 = .ok (.iastore, 1) := by decide +kernel
theorem d_P_layBends_25 : decode c_P_layBends 25 = .ok (.aload_n 0, 1) := by decide +kernel
theorem d_P_layBends_26 : decode c_P_layBends 26 = .ok (.dup, 1) := by decide +kernel
theorem d_P_layBends_27 : decode c_P_layBends 27 = .ok (.getfield 88, 3) := by decide +kernel
theorem d_P_layBends_30 : decode c_P_layBends 30 = .ok (.aload_n 0, 1) := by decide +kernel
theorem d_P_layBends_31 : decode c_P_layBends 31 = .ok (.iload_n 1, 1) := by decide +kernel
theorem d_P_layBends_32 : decode c_P_layBends 32 = .ok (.invokevirtual 59, 3) := by decide +kernel
theorem d_P_layBends_35 : decode c_P_layBends 35 = .ok (.iadd, 1) := by decide +kernel
theorem d_P_layBends_36 : decode c_P_layBends 36 = .ok (.putfield 88, 3) := by decide +kernel
theorem d_P_layBends_39 : decode c_P_layBends 39 = .ok (.iinc 1 1, 3) := by decide +kernel
theorem d_P_layBends_42 : decode c_P_layBends 42 = .ok (.goto (-35), 3) := by decide +kernel
theorem d_P_layBends_45 : decode c_P_layBends 45 = .ok (.return_, 1) := by decide +kernel
