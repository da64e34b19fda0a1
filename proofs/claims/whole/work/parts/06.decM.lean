theorem d_M_init_0 : decode c_M_init 0 = .ok (.aload_n 0, 1) := by decide +kernel
theorem d_M_init_1 : decode c_M_init 1 = .ok (.invokespecial 3, 3) := by decide +kernel
theorem d_M_init_4 : decode c_M_init 4 = .ok (.aload_n 0, 1) := by decide +kernel
theorem d_M_init_5 : decode c_M_init 5 = .ok (.new 9, 3) := by decide +kernel
theorem d_M_init_8 : decode c_M_init 8 = .ok (.dup, 1) := by decide +kernel
theorem d_M_init_9 : decode c_M_init 9 = .ok (.invokespecial 11, 3) := by decide +kernel
theorem d_M_init_12 : decode c_M_init 12 = .ok (.putfield 12, 3) := by decide +kernel
theorem d_M_init_15 : decode c_M_init 15 = .ok (.aload_n 0, 1) := by decide +kernel
theorem d_M_init_16 : decode c_M_init 16 = .ok (.new 16, 3) := by decide +kernel
theorem d_M_init_19 : decode c_M_init 19 = .ok (.dup, 1) := by decide +kernel
theorem d_M_init_20 : decode c_M_init 20 = .ok (.invokespecial 18, 3) := by decide +kernel
theorem d_M_init_23 : decode c_M_init 23 = .ok (.putfield 19, 3) := by decide +kernel
theorem d_M_init_26 : decode c_M_init 26 = .ok (.aload_n 0, 1) := by decide +kernel
theorem d_M_init_27 : decode c_M_init 27 = .ok (.new 23, 3) := by decide +kernel
theorem d_M_init_30 : decode c_M_init 30 = .ok (.dup, 1) := by decide +kernel
theorem d_M_init_31 : decode c_M_init 31 = .ok (.invokespecial 25, 3) := by decide +kernel
theorem d_M_init_34 : decode c_M_init 34 = .ok (.putfield 26, 3) := by decide +kernel
theorem d_M_init_37 : decode c_M_init 37 = .ok (.aload_n 0, 1) := by decide +kernel
theorem d_M_init_38 : decode c_M_init 38 = .ok (.iconst 0, 1) := by decide +kernel
theorem d_M_init_39 : decode c_M_init 39 = .ok (.putfield 30, 3) := by decide +kernel
theorem d_M_init_42 : decode c_M_init 42 = .ok (.return_, 1) := by decide +kernel
theorem d_M_above_0 : decode c_M_above 0 = .ok (.iload_n 1, 1) := by decide +kernel
theorem d_M_above_1 : decode c_M_above 1 = .ok (.invokestatic 34, 3) := by decide +kernel
theorem d_M_above_4 : decode c_M_above 4 = .ok (.iload_n 2, 1) := by decide +kernel
theorem d_M_above_5 : decode c_M_above 5 = .ok (.invokestatic 34, 3) := by decide +kernel
theorem d_M_above_8 : decode c_M_above 8 = .ok (.aload_n 0, 1) := by decide +kernel
theorem d_M_above_9 : decode c_M_above 9 = .ok (.aload_n 0, 1) := by decide +kernel
theorem d_M_above_10 : decode c_M_above 10 = .ok (.getfield 12, 3) := by decide +kernel
theorem d_M_above_13 : decode c_M_above 13 = .ok (.iload_n 1, 1) := by decide +kernel
theorem d_M_above_14 : decode c_M_above 14 = .ok (.iload_n 2, 1) := by decide +kernel
theorem d_M_above_15 : decode c_M_above 15 = .ok (.invokevirtual 38, 3) := by decide +kernel
theorem d_M_above_18 : decode c_M_above 18 = .ok (.invokevirtual 42, 3) := by decide +kernel
theorem d_M_above_21 : decode c_M_above 21 = .ok (.ireturn, 1) := by decide +kernel
theorem d_M_same_0 : decode c_M_same 0 = .ok (.iload_n 1, 1) := by decide +kernel
theorem d_M_same_1 : decode c_M_same 1 = .ok (.invokestatic 34, 3) := by decide +kernel
theorem d_M_same_4 : decode c_M_same 4 = .ok (.iload_n 2, 1) := by decide +kernel
theorem d_M_same_5 : decode c_M_same 5 = .ok (.invokestatic 34, 3) := by decide +kernel
theorem d_M_same_8 : decode c_M_same 8 = .ok (.aload_n 0, 1) := by decide +kernel
theorem d_M_same_9 : decode c_M_same 9 = .ok (.aload_n 0, 1) := by decide +kernel
theorem d_M_same_10 : decode c_M_same 10 = .ok (.getfield 12, 3) := by decide +kernel
theorem d_M_same_13 : decode c_M_same 13 = .ok (.iload_n 1, 1) := by decide +kernel
theorem d_M_same_14 : decode c_M_same 14 = .ok (.iload_n 2, 1) := by decide +kernel
theorem d_M_same_15 : decode c_M_same 15 = .ok (.invokevirtual 46, 3) := by decide +kernel
theorem d_M_same_18 : decode c_M_same 18 = .ok (.invokevirtual 42, 3) := by decide +kernel
theorem d_M_same_21 : decode c_M_same 21 = .ok (.ireturn, 1) := by decide +kernel
theorem d_M_phase_0 : decode c_M_phase 0 = .ok (.iload_n 1, 1) := by decide +kernel
theorem d_M_phase_1 : decode c_M_phase 1 = .ok (.invokestatic 34, 3) := by decide +kernel
theorem d_M_phase_4 : decode c_M_phase 4 = .ok (.iload_n 2, 1) := by decide +kernel
theorem d_M_phase_5 : decode c_M_phase 5 = .ok (.iconst (-1), 1) := by decide +kernel
theorem d_M_phase_6 : decode c_M_phase 6 = .ok (.if_icmp .eq 23, 3) := by decide +kernel
theorem d_M_phase_9 : decode c_M_phase 9 = .ok (.iload_n 2, 1) := by decide +kernel
theorem d_M_phase_10 : decode c_M_phase 10 = .ok (.ifCond .lt 9, 3) := by decide +kernel
theorem d_M_phase_13 : decode c_M_phase 13 = .ok (.iload_n 2, 1) := by decide +kernel
theorem d_M_phase_14 : decode c_M_phase 14 = .ok (.bipush 6, 2) := by decide +kernel
theorem d_M_phase_16 : decode c_M_phase 16 = .ok (.if_icmp .lt 13, 3) := by decide +kernel
theorem d_M_phase_19 : decode c_M_phase 19 = .ok (.new 49, 3) := by decide +kernel
theorem d_M_phase_22 : decode c_M_phase 22 = .ok (.dup, 1) := by decide +kernel
theorem d_M_phase_23 : decode c_M_phase 23 = .ok (.ldc 51, 2) := by decide +kernel
theorem d_M_phase_25 : decode c_M_phase 25 = .ok (.invokespecial 53, 3) := by decide +kernel
theorem d_M_phase_28 : decode c_M_phase 28 = .ok (.athrow, 1) := by decide +kernel
theorem d_M_phase_29 : decode c_M_phase 29 = .ok (.aload_n 0, 1) := by decide +kernel
theorem d_M_phase_30 : decode c_M_phase 30 = .ok (.iconst 0, 1) := by decide +kernel
theorem d_M_phase_31 : decode c_M_phase 31 = .ok (.putfield 30, 3) := by decide +kernel
theorem d_M_phase_34 : decode c_M_phase 34 = .ok (.aload_n 0, 1) := by decide +kernel
theorem d_M_phase_35 : decode c_M_phase 35 = .ok (.getfield 12, 3) := by decide +kernel
theorem d_M_phase_38 : decode c_M_phase 38 = .ok (.iload_n 1, 1) := by decide +kernel
theorem d_M_phase_39 : decode c_M_phase 39 = .ok (.iload_n 2, 1) := by decide +kernel
theorem d_M_phase_40 : decode c_M_phase 40 = .ok (.invokevirtual 56, 3) := by decide +kernel
theorem d_M_phase_43 : decode c_M_phase 43 = .ok (.ireturn, 1) := by decide +kernel
theorem d_M_hide_0 : decode c_M_hide 0 = .ok (.iload_n 1, 1) := by decide +kernel
theorem d_M_hide_1 : decode c_M_hide 1 = .ok (.invokestatic 34, 3) := by decide +kernel
theorem d_M_hide_4 : decode c_M_hide 4 = .ok (.aload_n 0, 1) := by decide +kernel
theorem d_M_hide_5 : decode c_M_hide 5 = .ok (.iconst 0, 1) := by decide +kernel
theorem d_M_hide_6 : decode c_M_hide 6 = .ok (.putfield 30, 3) := by decide +kernel
theorem d_M_hide_9 : decode c_M_hide 9 = .ok (.aload_n 0, 1) := by decide +kernel
theorem d_M_hide_10 : decode c_M_hide 10 = .ok (.getfield 12, 3) := by decide +kernel
theorem d_M_hide_13 : decode c_M_hide 13 = .ok (.iload_n 1, 1) := by decide +kernel
theorem d_M_hide_14 : decode c_M_hide 14 = .ok (.iload_n 2, 1) := by decide +kernel
theorem d_M_hide_15 : decode c_M_hide 15 = .ok (.invokevirtual 59, 3) := by decide +kernel
theorem d_M_hide_18 : decode c_M_hide 18 = .ok (.ireturn, 1) := by decide +kernel
theorem d_M_group_0 : decode c_M_group 0 = .ok (.iload_n 1, 1) := by decide +kernel
theorem d_M_group_1 : decode c_M_group 1 = .ok (.invokestatic 34, 3) := by decide +kernel
theorem d_M_group_4 : decode c_M_group 4 = .ok (.aload_n 0, 1) := by decide +kernel
theorem d_M_group_5 : decode c_M_group 5 = .ok (.getfield 12, 3) := by decide +kernel
theorem d_M_group_8 : decode c_M_group 8 = .ok (.getfield 63, 3) := by decide +kernel
theorem d_M_group_11 : decode c_M_group 11 = .ok (.iload_n 1, 1) := by decide +kernel
theorem d_M_group_12 : decode c_M_group 12 = .ok (.iaload, 1) := by decide +kernel
theorem d_M_group_13 : decode c_M_group 13 = .ok (.ireturn, 1) := by decide +kernel
theorem d_M_misfit_0 : decode c_M_misfit 0 = .ok (.iload_n 1, 1) := by decide +kernel
theorem d_M_misfit_1 : decode c_M_misfit 1 = .ok (.ifCond .lt 16, 3) := by decide +kernel
theorem d_M_misfit_4 : decode c_M_misfit 4 = .ok (.iload_n 2, 1) := by decide +kernel
theorem d_M_misfit_5 : decode c_M_misfit 5 = .ok (.ifCond .eq 8, 3) := by decide +kernel
theorem d_M_misfit_8 : decode c_M_misfit 8 = .ok (.iload_n 2, 1) := by decide +kernel
theorem d_M_misfit_9 : decode c_M_misfit 9 = .ok (.iconst 1, 1) := by decide +kernel
theorem d_M_misfit_10 : decode c_M_misfit 10 = .ok (.if_icmp .ne 7, 3) := by decide +kernel
theorem d_M_misfit_13 : decode c_M_misfit 13 = .ok (.iconst 1, 1) := by decide +kernel
theorem d_M_misfit_14 : decode c_M_misfit 14 = .ok (.goto 4, 3) := by decide +kernel
theorem d_M_misfit_17 : decode c_M_misfit 17 = .ok (.iconst 0, 1) := by decide +kernel
theorem d_M_misfit_18 : decode c_M_misfit 18 = .ok (.invokestatic 67, 3) := by decide +kernel
theorem d_M_misfit_21 : decode c_M_misfit 21 = .ok (.aload_n 0, 1) := by decide +kernel
theorem d_M_misfit_22 : decode c_M_misfit 22 = .ok (.getfield 12, 3) := by decide +kernel
theorem d_M_misfit_25 : decode c_M_misfit 25 = .ok (.iload_n 1, 1) := by decide +kernel
theorem d_M_misfit_26 : decode c_M_misfit 26 = .ok (.invokevirtual 71, 3) := by decide +kernel
theorem d_M_misfit_29 : decode c_M_misfit 29 = .ok (.istore_n 3, 1) := by decide +kernel
theorem d_M_misfit_30 : decode c_M_misfit 30 = .ok (.iload_n 3, 1) := by decide +kernel
theorem d_M_misfit_31 : decode c_M_misfit 31 = .ok (.iconst (-1), 1) := by decide +kernel
theorem d_M_misfit_32 : decode c_M_misfit 32 = .ok (.if_icmp .ne 5, 3) := by decide +kernel
theorem d_M_misfit_35 : decode c_M_misfit 35 = .ok (.iconst (-1), 1) := by decide +kernel
theorem d_M_misfit_36 : decode c_M_misfit 36 = .ok (.ireturn, 1) := by decide +kernel
theorem d_M_misfit_37 : decode c_M_misfit 37 = .ok (.iload_n 2, 1) := by decide +kernel
theorem d_M_misfit_38 : decode c_M_misfit 38 = .ok (.ifCond .ne 10, 3) := by decide +kernel
theorem d_M_misfit_41 : decode c_M_misfit 41 = .ok (.iload_n 3, 1) := by decide +kernel
theorem d_M_misfit_42 : decode c_M_misfit 42 = .ok (.bipush 16, 2) := by decide +kernel
theorem d_M_misfit_44 : decode c_M_misfit 44 = .ok (.idiv, 1) := by decide +kernel
theorem d_M_misfit_45 : decode c_M_misfit 45 = .ok (.goto 7, 3) := by decide +kernel
theorem d_M_misfit_48 : decode c_M_misfit 48 = .ok (.iload_n 3, 1) := by decide +kernel
theorem d_M_misfit_49 : decode c_M_misfit 49 = .ok (.bipush 16, 2) := by decide +kernel
theorem d_M_misfit_51 : decode c_M_misfit 51 = .ok (.irem, 1) := by decide +kernel
theorem d_M_misfit_52 : decode c_M_misfit 52 = .ok (.ireturn, 1) := by decide +kernel
theorem d_M_draw_0 : decode c_M_draw 0 = .ok (.iload_n 1, 1) := by decide +kernel
theorem d_M_draw_1 : decode c_M_draw 1 = .ok (.ifCond .lt 9, 3) := by decide +kernel
theorem d_M_draw_4 : decode c_M_draw 4 = .ok (.iload_n 1, 1) := by decide +kernel
theorem d_M_draw_5 : decode c_M_draw 5 = .ok (.bipush 12, 2) := by decide +kernel
theorem d_M_draw_7 : decode c_M_draw 7 = .ok (.if_icmp .le 13, 3) := by decide +kernel
theorem d_M_draw_10 : decode c_M_draw 10 = .ok (.new 49, 3) := by decide +kernel
theorem d_M_draw_13 : decode c_M_draw 13 = .ok (.dup, 1) := by decide +kernel
theorem d_M_draw_14 : decode c_M_draw 14 = .ok (.ldc 74, 2) := by decide +kernel
theorem d_M_draw_16 : decode c_M_draw 16 = .ok (.invokespecial 53, 3) := by decide +kernel
theorem d_M_draw_19 : decode c_M_draw 19 = .ok (.athrow, 1) := by decide +kernel
theorem d_M_draw_20 : decode c_M_draw 20 = .ok (.aload_n 0, 1) := by decide +kernel
theorem d_M_draw_21 : decode c_M_draw 21 = .ok (.iconst 0, 1) := by decide +kernel
theorem d_M_draw_22 : decode c_M_draw 22 = .ok (.putfield 30, 3) := by decide +kernel
theorem d_M_draw_25 : decode c_M_draw 25 = .ok (.aload_n 0, 1) := by decide +kernel
theorem d_M_draw_26 : decode c_M_draw 26 = .ok (.getfield 12, 3) := by decide +kernel
theorem d_M_draw_29 : decode c_M_draw 29 = .ok (.iconst 0, 1) := by decide +kernel
theorem d_M_draw_30 : decode c_M_draw 30 = .ok (.invokevirtual 71, 3) := by decide +kernel
theorem d_M_draw_33 : decode c_M_draw 33 = .ok (.iconst (-1), 1) := by decide +kernel
theorem d_M_draw_34 : decode c_M_draw 34 = .ok (.if_icmp .eq 6, 3) := by decide +kernel
theorem d_M_draw_37 : decode c_M_draw 37 = .ok (.bipush (-2), 2) := by decide +kernel
theorem d_M_draw_39 : decode c_M_draw 39 = .ok (.ireturn, 1) := by decide +kernel
theorem d_M_draw_40 : decode c_M_draw 40 = .ok (.aload_n 0, 1) := by decide +kernel
theorem d_M_draw_41 : decode c_M_draw 41 = .ok (.getfield 19, 3) := by decide +kernel
theorem d_M_draw_44 : decode c_M_draw 44 = .ok (.aload_n 0, 1) := by decide +kernel
theorem d_M_draw_45 : decode c_M_draw 45 = .ok (.getfield 12, 3) := by decide +kernel
theorem d_M_draw_48 : decode c_M_draw 48 = .ok (.invokevirtual 76, 3) := by decide +kernel
theorem d_M_draw_51 : decode c_M_draw 51 = .ok (.aload_n 0, 1) := by decide +kernel
theorem d_M_draw_52 : decode c_M_draw 52 = .ok (.getfield 19, 3) := by decide +kernel
theorem d_M_draw_55 : decode c_M_draw 55 = .ok (.getfield 80, 3) := by decide +kernel
theorem d_M_draw_58 : decode c_M_draw 58 = .ok (.sipush 150, 3) := by decide +kernel
theorem d_M_draw_61 : decode c_M_draw 61 = .ok (.if_icmp .le 6, 3) := by decide +kernel
theorem d_M_draw_64 : decode c_M_draw 64 = .ok (.bipush (-3), 2) := by decide +kernel
theorem d_M_draw_66 : decode c_M_draw 66 = .ok (.ireturn, 1) := by decide +kernel
theorem d_M_draw_67 : decode c_M_draw 67 = .ok (.aload_n 0, 1) := by decide +kernel
theorem d_M_draw_68 : decode c_M_draw 68 = .ok (.getfield 26, 3) := by decide +kernel
theorem d_M_draw_71 : decode c_M_draw 71 = .ok (.aload_n 0, 1) := by decide +kernel
theorem d_M_draw_72 : decode c_M_draw 72 = .ok (.getfield 19, 3) := by decide +kernel
theorem d_M_draw_75 : decode c_M_draw 75 = .ok (.iload_n 1, 1) := by decide +kernel
theorem d_M_draw_76 : decode c_M_draw 76 = .ok (.invokevirtual 84, 3) := by decide +kernel
theorem d_M_draw_79 : decode c_M_draw 79 = .ok (.istore_n 2, 1) := by decide +kernel
theorem d_M_draw_80 : decode c_M_draw 80 = .ok (.aload_n 0, 1) := by decide +kernel
theorem d_M_draw_81 : decode c_M_draw 81 = .ok (.iconst 1, 1) := by decide +kernel
theorem d_M_draw_82 : decode c_M_draw 82 = .ok (.putfield 30, 3) := by decide +kernel
theorem d_M_draw_85 : decode c_M_draw 85 = .ok (.iload_n 2, 1) := by decide +kernel
theorem d_M_draw_86 : decode c_M_draw 86 = .ok (.ireturn, 1) := by decide +kernel
theorem d_M_crossings_0 : decode c_M_crossings 0 = .ok (.iload_n 1, 1) := by decide +kernel
theorem d_M_crossings_1 : decode c_M_crossings 1 = .ok (.ifCond .lt 7, 3) := by decide +kernel
theorem d_M_crossings_4 : decode c_M_crossings 4 = .ok (.iconst 1, 1) := by decide +kernel
theorem d_M_crossings_5 : decode c_M_crossings 5 = .ok (.goto 4, 3) := by decide +kernel
theorem d_M_crossings_8 : decode c_M_crossings 8 = .ok (.iconst 0, 1) := by decide +kernel
theorem d_M_crossings_9 : decode c_M_crossings 9 = .ok (.invokestatic 67, 3) := by decide +kernel
theorem d_M_crossings_12 : decode c_M_crossings 12 = .ok (.aload_n 0, 1) := by decide +kernel
theorem d_M_crossings_13 : decode c_M_crossings 13 = .ok (.invokevirtual 87, 3) := by decide +kernel
theorem d_M_crossings_16 : decode c_M_crossings 16 = .ok (.iload_n 1, 1) := by decide +kernel
theorem d_M_crossings_17 : decode c_M_crossings 17 = .ok (.aload_n 0, 1) := by decide +kernel
theorem d_M_crossings_18 : decode c_M_crossings 18 = .ok (.getfield 26, 3) := by decide +kernel
theorem d_M_crossings_21 : decode c_M_crossings 21 = .ok (.getfield 90, 3) := by decide +kernel
theorem d_M_crossings_24 : decode c_M_crossings 24 = .ok (.if_icmp .gt 7, 3) := by decide +kernel
theorem d_M_crossings_27 : decode c_M_crossings 27 = .ok (.iconst 1, 1) := by decide +kernel
theorem d_M_crossings_28 : decode c_M_crossings 28 = .ok (.goto 4, 3) := by decide +kernel
theorem d_M_crossings_31 : decode c_M_crossings 31 = .ok (.iconst 0, 1) := by decide +kernel
theorem d_M_crossings_32 : decode c_M_crossings 32 = .ok (.invokestatic 67, 3) := by decide +kernel
theorem d_M_crossings_35 : decode c_M_crossings 35 = .ok (.aload_n 0, 1) := by decide +kernel
theorem d_M_crossings_36 : decode c_M_crossings 36 = .ok (.getfield 26, 3) := by decide +kernel
theorem d_M_crossings_39 : decode c_M_crossings 39 = .ok (.getfield 93, 3) := by decide +kernel
theorem d_M_crossings_42 : decode c_M_crossings 42 = .ok (.iload_n 1, 1) := by decide +kernel
theorem d_M_crossings_43 : decode c_M_crossings 43 = .ok (.iaload, 1) := by decide +kernel
theorem d_M_crossings_44 : decode c_M_crossings 44 = .ok (.ireturn, 1) := by decide +kernel
theorem d_M_at_0 : decode c_M_at 0 = .ok (.iload_n 1, 1) := by decide +kernel
theorem d_M_at_1 : decode c_M_at 1 = .ok (.invokestatic 34, 3) := by decide +kernel
theorem d_M_at_4 : decode c_M_at 4 = .ok (.iload_n 2, 1) := by decide +kernel
theorem d_M_at_5 : decode c_M_at 5 = .ok (.ifCond .eq 8, 3) := by decide +kernel
theorem d_M_at_8 : decode c_M_at 8 = .ok (.iload_n 2, 1) := by decide +kernel
theorem d_M_at_9 : decode c_M_at 9 = .ok (.iconst 1, 1) := by decide +kernel
theorem d_M_at_10 : decode c_M_at 10 = .ok (.if_icmp .ne 7, 3) := by decide +kernel
theorem d_M_at_13 : decode c_M_at 13 = .ok (.iconst 1, 1) := by decide +kernel
theorem d_M_at_14 : decode c_M_at 14 = .ok (.goto 4, 3) := by decide +kernel
theorem d_M_at_17 : decode c_M_at 17 = .ok (.iconst 0, 1) := by decide +kernel
theorem d_M_at_18 : decode c_M_at 18 = .ok (.invokestatic 67, 3) := by decide +kernel
theorem d_M_at_21 : decode c_M_at 21 = .ok (.aload_n 0, 1) := by decide +kernel
theorem d_M_at_22 : decode c_M_at 22 = .ok (.invokevirtual 87, 3) := by decide +kernel
theorem d_M_at_25 : decode c_M_at 25 = .ok (.aload_n 0, 1) := by decide +kernel
theorem d_M_at_26 : decode c_M_at 26 = .ok (.getfield 12, 3) := by decide +kernel
theorem d_M_at_29 : decode c_M_at 29 = .ok (.getfield 63, 3) := by decide +kernel
theorem d_M_at_32 : decode c_M_at 32 = .ok (.iload_n 1, 1) := by decide +kernel
theorem d_M_at_33 : decode c_M_at 33 = .ok (.iaload, 1) := by decide +kernel
theorem d_M_at_34 : decode c_M_at 34 = .ok (.istore_n 3, 1) := by decide +kernel
theorem d_M_at_35 : decode c_M_at 35 = .ok (.aload_n 0, 1) := by decide +kernel
theorem d_M_at_36 : decode c_M_at 36 = .ok (.getfield 19, 3) := by decide +kernel
theorem d_M_at_39 : decode c_M_at 39 = .ok (.getfield 96, 3) := by decide +kernel
theorem d_M_at_42 : decode c_M_at 42 = .ok (.iload_n 3, 1) := by decide +kernel
theorem d_M_at_43 : decode c_M_at 43 = .ok (.invokestatic 99, 3) := by decide +kernel
theorem d_M_at_46 : decode c_M_at 46 = .ok (.ifCond .ne 5, 3) := by decide +kernel
theorem d_M_at_49 : decode c_M_at 49 = .ok (.iconst (-1), 1) := by decide +kernel
theorem d_M_at_50 : decode c_M_at 50 = .ok (.ireturn, 1) := by decide +kernel
theorem d_M_at_51 : decode c_M_at 51 = .ok (.iload_n 2, 1) := by decide +kernel
theorem d_M_at_52 : decode c_M_at 52 = .ok (.ifCond .ne 15, 3) := by decide +kernel
theorem d_M_at_55 : decode c_M_at 55 = .ok (.aload_n 0, 1) := by decide +kernel
theorem d_M_at_56 : decode c_M_at 56 = .ok (.getfield 19, 3) := by decide +kernel
theorem d_M_at_59 : decode c_M_at 59 = .ok (.getfield 103, 3) := by decide +kernel
theorem d_M_at_62 : decode c_M_at 62 = .ok (.iload_n 3, 1) := by decide +kernel
theorem d_M_at_63 : decode c_M_at 63 = .ok (.iaload, 1) := by decide +kernel
theorem d_M_at_64 : decode c_M_at 64 = .ok (.goto 12, 3) := by decide +kernel
theorem d_M_at_67 : decode c_M_at 67 = .ok (.aload_n 0, 1) := by decide +kernel
theorem d_M_at_68 : decode c_M_at 68 = .ok (.getfield 26, 3) := by decide +kernel
theorem d_M_at_71 : decode c_M_at 71 = .ok (.getfield 106, 3) := by decide +kernel
theorem d_M_at_74 : decode c_M_at 74 = .ok (.iload_n 3, 1) := by decide +kernel
theorem d_M_at_75 : decode c_M_at 75 = .ok (.iaload, 1) := by decide +kernel
theorem d_M_at_76 : decode c_M_at 76 = .ok (.ireturn, 1) := by decide +kernel
theorem d_M_links_0 : decode c_M_links 0 = .ok (.aload_n 0, 1) := by decide +kernel
theorem d_M_links_1 : decode c_M_links 1 = .ok (.invokevirtual 87, 3) := by decide +kernel
theorem d_M_links_4 : decode c_M_links 4 = .ok (.aload_n 0, 1) := by decide +kernel
theorem d_M_links_5 : decode c_M_links 5 = .ok (.getfield 19, 3) := by decide +kernel
theorem d_M_links_8 : decode c_M_links 8 = .ok (.getfield 109, 3) := by decide +kernel
theorem d_M_links_11 : decode c_M_links 11 = .ok (.ireturn, 1) := by decide +kernel
theorem d_M_link_0 : decode c_M_link 0 = .ok (.iload_n 1, 1) := by decide +kernel
theorem d_M_link_1 : decode c_M_link 1 = .ok (.ifCond .lt 11, 3) := by decide +kernel
theorem d_M_link_4 : decode c_M_link 4 = .ok (.iload_n 2, 1) := by decide +kernel
theorem d_M_link_5 : decode c_M_link 5 = .ok (.ifCond .lt 7, 3) := by decide +kernel
theorem d_M_link_8 : decode c_M_link 8 = .ok (.iconst 1, 1) := by decide +kernel
theorem d_M_link_9 : decode c_M_link 9 = .ok (.goto 4, 3) := by decide +kernel
theorem d_M_link_12 : decode c_M_link 12 = .ok (.iconst 0, 1) := by decide +kernel
theorem d_M_link_13 : decode c_M_link 13 = .ok (.invokestatic 67, 3) := by decide +kernel
theorem d_M_link_16 : decode c_M_link 16 = .ok (.aload_n 0, 1) := by decide +kernel
theorem d_M_link_17 : decode c_M_link 17 = .ok (.invokevirtual 87, 3) := by decide +kernel
theorem d_M_link_20 : decode c_M_link 20 = .ok (.iload_n 1, 1) := by decide +kernel
theorem d_M_link_21 : decode c_M_link 21 = .ok (.aload_n 0, 1) := by decide +kernel
theorem d_M_link_22 : decode c_M_link 22 = .ok (.getfield 19, 3) := by decide +kernel
theorem d_M_link_25 : decode c_M_link 25 = .ok (.getfield 109, 3) := by decide +kernel
theorem d_M_link_28 : decode c_M_link 28 = .ok (.if_icmp .ge 21, 3) := by decide +kernel
theorem d_M_link_31 : decode c_M_link 31 = .ok (.iload_n 2, 1) := by decide +kernel
theorem d_M_link_32 : decode c_M_link 32 = .ok (.iconst 3, 1) := by decide +kernel
theorem d_M_link_33 : decode c_M_link 33 = .ok (.aload_n 0, 1) := by decide +kernel
theorem d_M_link_34 : decode c_M_link 34 = .ok (.getfield 19, 3) := by decide +kernel
theorem d_M_link_37 : decode c_M_link 37 = .ok (.iload_n 1, 1) := by decide +kernel
theorem d_M_link_38 : decode c_M_link 38 = .ok (.invokevirtual 112, 3) := by decide +kernel
theorem d_M_link_41 : decode c_M_link 41 = .ok (.iadd, 1) := by decide +kernel
theorem d_M_link_42 : decode c_M_link 42 = .ok (.if_icmp .ge 7, 3) := by decide +kernel
theorem d_M_link_45 : decode c_M_link 45 = .ok (.iconst 1, 1) := by decide +kernel
theorem d_M_link_46 : decode c_M_link 46 = .ok (.goto 4, 3) := by decide +kernel
theorem d_M_link_49 : decode c_M_link 49 = .ok (.iconst 0, 1) := by decide +kernel
theorem d_M_link_50 : decode c_M_link 50 = .ok (.invokestatic 67, 3) := by decide +kernel
theorem d_M_link_53 : decode c_M_link 53 = .ok (.iload_n 2, 1) := by decide +kernel
theorem d_M_link_54 : decode c_M_link 54 = .ok (.tableswitch 55 0 2 #[26, 36, 46], 26) := by decide +kernel
theorem d_M_link_80 : decode c_M_link 80 = .ok (.aload_n 0, 1) := by decide +kernel
theorem d_M_link_81 : decode c_M_link 81 = .ok (.getfield 19, 3) := by decide +kernel
theorem d_M_link_84 : decode c_M_link 84 = .ok (.getfield 115, 3) := by decide +kernel
theorem d_M_link_87 : decode c_M_link 87 = .ok (.iload_n 1, 1) := by decide +kernel
theorem d_M_link_88 : decode c_M_link 88 = .ok (.iaload, 1) := by decide +kernel
theorem d_M_link_89 : decode c_M_link 89 = .ok (.ireturn, 1) := by decide +kernel
theorem d_M_link_90 : decode c_M_link 90 = .ok (.aload_n 0, 1) := by decide +kernel
theorem d_M_link_91 : decode c_M_link 91 = .ok (.getfield 19, 3) := by decide +kernel
theorem d_M_link_94 : decode c_M_link 94 = .ok (.getfield 118, 3) := by decide +kernel
theorem d_M_link_97 : decode c_M_link 97 = .ok (.iload_n 1, 1) := by decide +kernel
theorem d_M_link_98 : decode c_M_link 98 = .ok (.iaload, 1) := by decide +kernel
theorem d_M_link_99 : decode c_M_link 99 = .ok (.ireturn, 1) := by decide +kernel
theorem d_M_link_100 : decode c_M_link 100 = .ok (.aload_n 0, 1) := by decide +kernel
theorem d_M_link_101 : decode c_M_link 101 = .ok (.getfield 19, 3) := by decide +kernel
theorem d_M_link_104 : decode c_M_link 104 = .ok (.iload_n 1, 1) := by decide +kernel
theorem d_M_link_105 : decode c_M_link 105 = .ok (.invokevirtual 112, 3) := by decide +kernel
theorem d_M_link_108 : decode c_M_link 108 = .ok (.ireturn, 1) := by decide +kernel
theorem d_M_link_109 : decode c_M_link 109 = .ok (.aload_n 0, 1) := by decide +kernel
theorem d_M_link_110 : decode c_M_link 110 = .ok (.getfield 26, 3) := by decide +kernel
theorem d_M_link_113 : decode c_M_link 113 = .ok (.getfield 106, 3) := by decide +kernel
theorem d_M_link_116 : decode c_M_link 116 = .ok (.aload_n 0, 1) := by decide +kernel
theorem d_M_link_117 : decode c_M_link 117 = .ok (.getfield 19, 3) := by decide +kernel
theorem d_M_link_120 : decode c_M_link 120 = .ok (.iload_n 1, 1) := by decide +kernel
theorem d_M_link_121 : decode c_M_link 121 = .ok (.iload_n 2, 1) := by decide +kernel
theorem d_M_link_122 : decode c_M_link 122 = .ok (.iconst 2, 1) := by decide +kernel
theorem d_M_link_123 : decode c_M_link 123 = .ok (.isub, 1) := by decide +kernel
theorem d_M_link_124 : decode c_M_link 124 = .ok (.invokevirtual 121, 3) := by decide +kernel
theorem d_M_link_127 : decode c_M_link 127 = .ok (.iaload, 1) := by decide +kernel
theorem d_M_link_128 : decode c_M_link 128 = .ok (.ireturn, 1) := by decide +kernel
theorem d_M_command_0 : decode c_M_command 0 = .ok (.iload_n 1, 1) := by decide +kernel
theorem d_M_command_1 : decode c_M_command 1 = .ok (.iconst (-1), 1) := by decide +kernel
theorem d_M_command_2 : decode c_M_command 2 = .ok (.if_icmp .lt 7, 3) := by decide +kernel
theorem d_M_command_5 : decode c_M_command 5 = .ok (.iconst 1, 1) := by decide +kernel
theorem d_M_command_6 : decode c_M_command 6 = .ok (.goto 4, 3) := by decide +kernel
theorem d_M_command_9 : decode c_M_command 9 = .ok (.iconst 0, 1) := by decide +kernel
theorem d_M_command_10 : decode c_M_command 10 = .ok (.invokestatic 67, 3) := by decide +kernel
theorem d_M_command_13 : decode c_M_command 13 = .ok (.aload_n 0, 1) := by decide +kernel
theorem d_M_command_14 : decode c_M_command 14 = .ok (.invokevirtual 87, 3) := by decide +kernel
theorem d_M_command_17 : decode c_M_command 17 = .ok (.iconst 4, 1) := by decide +kernel
theorem d_M_command_18 : decode c_M_command 18 = .ok (.aload_n 0, 1) := by decide +kernel
theorem d_M_command_19 : decode c_M_command 19 = .ok (.getfield 19, 3) := by decide +kernel
theorem d_M_command_22 : decode c_M_command 22 = .ok (.getfield 96, 3) := by decide +kernel
theorem d_M_command_25 : decode c_M_command 25 = .ok (.invokestatic 124, 3) := by decide +kernel
theorem d_M_command_28 : decode c_M_command 28 = .ok (.imul, 1) := by decide +kernel
theorem d_M_command_29 : decode c_M_command 29 = .ok (.istore_n 2, 1) := by decide +kernel
theorem d_M_command_30 : decode c_M_command 30 = .ok (.iload_n 2, 1) := by decide +kernel
theorem d_M_command_31 : decode c_M_command 31 = .ok (.bipush 6, 2) := by decide +kernel
theorem d_M_command_33 : decode c_M_command 33 = .ok (.aload_n 0, 1) := by decide +kernel
theorem d_M_command_34 : decode c_M_command 34 = .ok (.getfield 19, 3) := by decide +kernel
theorem d_M_command_37 : decode c_M_command 37 = .ok (.getfield 109, 3) := by decide +kernel
theorem d_M_command_40 : decode c_M_command 40 = .ok (.imul, 1) := by decide +kernel
theorem d_M_command_41 : decode c_M_command 41 = .ok (.iadd, 1) := by decide +kernel
theorem d_M_command_42 : decode c_M_command 42 = .ok (.iconst 2, 1) := by decide +kernel
theorem d_M_command_43 : decode c_M_command 43 = .ok (.aload_n 0, 1) := by decide +kernel
theorem d_M_command_44 : decode c_M_command 44 = .ok (.getfield 19, 3) := by decide +kernel
theorem d_M_command_47 : decode c_M_command 47 = .ok (.getfield 80, 3) := by decide +kernel
theorem d_M_command_50 : decode c_M_command 50 = .ok (.imul, 1) := by decide +kernel
theorem d_M_command_51 : decode c_M_command 51 = .ok (.iadd, 1) := by decide +kernel
theorem d_M_command_52 : decode c_M_command 52 = .ok (.istore_n 3, 1) := by decide +kernel
theorem d_M_command_53 : decode c_M_command 53 = .ok (.iload_n 1, 1) := by decide +kernel
theorem d_M_command_54 : decode c_M_command 54 = .ok (.iload_n 3, 1) := by decide +kernel
theorem d_M_command_55 : decode c_M_command 55 = .ok (.if_icmp .ge 7, 3) := by decide +kernel
theorem d_M_command_58 : decode c_M_command 58 = .ok (.iconst 1, 1) := by decide +kernel
theorem d_M_command_59 : decode c_M_command 59 = .ok (.goto 4, 3) := by decide +kernel
theorem d_M_command_62 : decode c_M_command 62 = .ok (.iconst 0, 1) := by decide +kernel
theorem d_M_command_63 : decode c_M_command 63 = .ok (.invokestatic 67, 3) := by decide +kernel
theorem d_M_command_66 : decode c_M_command 66 = .ok (.iload_n 1, 1) := by decide +kernel
theorem d_M_command_67 : decode c_M_command 67 = .ok (.iconst (-1), 1) := by decide +kernel
theorem d_M_command_68 : decode c_M_command 68 = .ok (.if_icmp .ne 5, 3) := by decide +kernel
theorem d_M_command_71 : decode c_M_command 71 = .ok (.iload_n 3, 1) := by decide +kernel
theorem d_M_command_72 : decode c_M_command 72 = .ok (.ireturn, 1) := by decide +kernel
theorem d_M_command_73 : decode c_M_command 73 = .ok (.iload_n 1, 1) := by decide +kernel
theorem d_M_command_74 : decode c_M_command 74 = .ok (.iload_n 2, 1) := by decide +kernel
theorem d_M_command_75 : decode c_M_command 75 = .ok (.if_icmp .ge 11, 3) := by decide +kernel
theorem d_M_command_78 : decode c_M_command 78 = .ok (.aload_n 0, 1) := by decide +kernel
theorem d_M_command_79 : decode c_M_command 79 = .ok (.iload_n 1, 1) := by decide +kernel
theorem d_M_command_80 : decode c_M_command 80 = .ok (.invokevirtual 129, 3) := by decide +kernel
theorem d_M_command_83 : decode c_M_command 83 = .ok (.goto 10, 3) := by decide +kernel
theorem d_M_command_86 : decode c_M_command 86 = .ok (.aload_n 0, 1) := by decide +kernel
theorem d_M_command_87 : decode c_M_command 87 = .ok (.iload_n 1, 1) := by decide +kernel
theorem d_M_command_88 : decode c_M_command 88 = .ok (.iload_n 2, 1) := by decide +kernel
theorem d_M_command_89 : decode c_M_command 89 = .ok (.isub, 1) := by decide +kernel
theorem d_M_command_90 : decode c_M_command 90 = .ok (.invokevirtual 132, 3) := by decide +kernel
theorem d_M_command_93 : decode c_M_command 93 = .ok (.ireturn, 1) := by decide +kernel
theorem d_M_count_0 : decode c_M_count 0 = .ok (.iload_n 1, 1) := by decide +kernel
theorem d_M_count_1 : decode c_M_count 1 = .ok (.tableswitch 110 0 4 #[35, 46, 54, 72, 91], 35) := by decide +kernel
theorem d_M_count_36 : decode c_M_count 36 = .ok (.aload_n 0, 1) := by decide +kernel
theorem d_M_count_37 : decode c_M_count 37 = .ok (.getfield 12, 3) := by decide +kernel
theorem d_M_count_40 : decode c_M_count 40 = .ok (.getfield 135, 3) := by decide +kernel
theorem d_M_count_43 : decode c_M_count 43 = .ok (.invokestatic 124, 3) := by decide +kernel
theorem d_M_count_46 : decode c_M_count 46 = .ok (.ireturn, 1) := by decide +kernel
theorem d_M_count_47 : decode c_M_count 47 = .ok (.aload_n 0, 1) := by decide +kernel
theorem d_M_count_48 : decode c_M_count 48 = .ok (.getfield 12, 3) := by decide +kernel
theorem d_M_count_51 : decode c_M_count 51 = .ok (.getfield 138, 3) := by decide +kernel
theorem d_M_count_54 : decode c_M_count 54 = .ok (.ireturn, 1) := by decide +kernel
theorem d_M_count_55 : decode c_M_count 55 = .ok (.aload_n 0, 1) := by decide +kernel
theorem d_M_count_56 : decode c_M_count 56 = .ok (.getfield 12, 3) := by decide +kernel
theorem d_M_count_59 : decode c_M_count 59 = .ok (.aload_n 0, 1) := by decide +kernel
theorem d_M_count_60 : decode c_M_count 60 = .ok (.getfield 12, 3) := by decide +kernel
theorem d_M_count_63 : decode c_M_count 63 = .ok (.getfield 135, 3) := by decide +kernel
theorem d_M_count_66 : decode c_M_count 66 = .ok (.invokevirtual 141, 3) := by decide +kernel
theorem d_M_count_69 : decode c_M_count 69 = .ok (.invokestatic 124, 3) := by decide +kernel
theorem d_M_count_72 : decode c_M_count 72 = .ok (.ireturn, 1) := by decide +kernel
theorem d_M_count_73 : decode c_M_count 73 = .ok (.aload_n 0, 1) := by decide +kernel
theorem d_M_count_74 : decode c_M_count 74 = .ok (.getfield 30, 3) := by decide +kernel
theorem d_M_count_77 : decode c_M_count 77 = .ok (.ifCond .eq 13, 3) := by decide +kernel
theorem d_M_count_80 : decode c_M_count 80 = .ok (.aload_n 0, 1) := by decide +kernel
theorem d_M_count_81 : decode c_M_count 81 = .ok (.getfield 19, 3) := by decide +kernel
theorem d_M_count_84 : decode c_M_count 84 = .ok (.getfield 144, 3) := by decide +kernel
theorem d_M_count_87 : decode c_M_count 87 = .ok (.goto 4, 3) := by decide +kernel
theorem d_M_count_90 : decode c_M_count 90 = .ok (.iconst 0, 1) := by decide +kernel
theorem d_M_count_91 : decode c_M_count 91 = .ok (.ireturn, 1) := by decide +kernel
theorem d_M_count_92 : decode c_M_count 92 = .ok (.aload_n 0, 1) := by decide +kernel
theorem d_M_count_93 : decode c_M_count 93 = .ok (.getfield 30, 3) := by decide +kernel
theorem d_M_count_96 : decode c_M_count 96 = .ok (.ifCond .eq 13, 3) := by decide +kernel
theorem d_M_count_99 : decode c_M_count 99 = .ok (.aload_n 0, 1) := by decide +kernel
theorem d_M_count_100 : decode c_M_count 100 = .ok (.getfield 19, 3) := by decide +kernel
theorem d_M_count_103 : decode c_M_count 103 = .ok (.getfield 80, 3) := by decide +kernel
theorem d_M_count_106 : decode c_M_count 106 = .ok (.goto 4, 3) := by decide +kernel
theorem d_M_count_109 : decode c_M_count 109 = .ok (.iconst 0, 1) := by decide +kernel
theorem d_M_count_110 : decode c_M_count 110 = .ok (.ireturn, 1) := by decide +kernel
theorem d_M_count_111 : decode c_M_count 111 = .ok (.new 147, 3) := by decide +kernel
theorem d_M_count_114 : decode c_M_count 114 = .ok (.dup, 1) := by decide +kernel
theorem d_M_count_115 : decode c_M_count 115 = .ok (.ldc 149, 2) := by decide +kernel
theorem d_M_count_117 : decode c_M_count 117 = .ok (.invokespecial 151, 3) := by decide +kernel
theorem d_M_count_120 : decode c_M_count 120 = .ok (.athrow, 1) := by decide +kernel
theorem d_M_changed_0 : decode c_M_changed 0 = .ok (.iload_n 1, 1) := by decide +kernel
theorem d_M_changed_1 : decode c_M_changed 1 = .ok (.iconst 1, 1) := by decide +kernel
theorem d_M_changed_2 : decode c_M_changed 2 = .ok (.if_icmp .ne 8, 3) := by decide +kernel
theorem d_M_changed_5 : decode c_M_changed 5 = .ok (.aload_n 0, 1) := by decide +kernel
theorem d_M_changed_6 : decode c_M_changed 6 = .ok (.iconst 0, 1) := by decide +kernel
theorem d_M_changed_7 : decode c_M_changed 7 = .ok (.putfield 30, 3) := by decide +kernel
theorem d_M_changed_10 : decode c_M_changed 10 = .ok (.iload_n 1, 1) := by decide +kernel
theorem d_M_changed_11 : decode c_M_changed 11 = .ok (.ireturn, 1) := by decide +kernel
theorem d_M_numberOfGroups_0 : decode c_M_numberOfGroups 0 = .ok (.aload_n 0, 1) := by decide +kernel
theorem d_M_numberOfGroups_1 : decode c_M_numberOfGroups 1 = .ok (.getfield 26, 3) := by decide +kernel
theorem d_M_numberOfGroups_4 : decode c_M_numberOfGroups 4 = .ok (.iload_n 1, 1) := by decide +kernel
theorem d_M_numberOfGroups_5 : decode c_M_numberOfGroups 5 = .ok (.iconst 4, 1) := by decide +kernel
theorem d_M_numberOfGroups_6 : decode c_M_numberOfGroups 6 = .ok (.idiv, 1) := by decide +kernel
theorem d_M_numberOfGroups_7 : decode c_M_numberOfGroups 7 = .ok (.invokevirtual 152, 3) := by decide +kernel
theorem d_M_numberOfGroups_10 : decode c_M_numberOfGroups 10 = .ok (.istore_n 2, 1) := by decide +kernel
theorem d_M_numberOfGroups_11 : decode c_M_numberOfGroups 11 = .ok (.iload_n 1, 1) := by decide +kernel
theorem d_M_numberOfGroups_12 : decode c_M_numberOfGroups 12 = .ok (.iconst 4, 1) := by decide +kernel
theorem d_M_numberOfGroups_13 : decode c_M_numberOfGroups 13 = .ok (.irem, 1) := by decide +kernel
theorem d_M_numberOfGroups_14 : decode c_M_numberOfGroups 14 = .ok (.tableswitch 43 0 2 #[26, 28, 30], 26) := by decide +kernel
theorem d_M_numberOfGroups_40 : decode c_M_numberOfGroups 40 = .ok (.iconst 1, 1) := by decide +kernel
theorem d_M_numberOfGroups_41 : decode c_M_numberOfGroups 41 = .ok (.ireturn, 1) := by decide +kernel
theorem d_M_numberOfGroups_42 : decode c_M_numberOfGroups 42 = .ok (.iload_n 2, 1) := by decide +kernel
theorem d_M_numberOfGroups_43 : decode c_M_numberOfGroups 43 = .ok (.ireturn, 1) := by decide +kernel
theorem d_M_numberOfGroups_44 : decode c_M_numberOfGroups 44 = .ok (.bipush 16, 2) := by decide +kernel
theorem d_M_numberOfGroups_46 : decode c_M_numberOfGroups 46 = .ok (.aload_n 0, 1) := by decide +kernel
theorem d_M_numberOfGroups_47 : decode c_M_numberOfGroups 47 = .ok (.getfield 26, 3) := by decide +kernel
theorem d_M_numberOfGroups_50 : decode c_M_numberOfGroups 50 = .ok (.getfield 106, 3) := by decide +kernel
theorem d_M_numberOfGroups_53 : decode c_M_numberOfGroups 53 = .ok (.iload_n 2, 1) := by decide +kernel
theorem d_M_numberOfGroups_54 : decode c_M_numberOfGroups 54 = .ok (.iaload, 1) := by decide +kernel
theorem d_M_numberOfGroups_55 : decode c_M_numberOfGroups 55 = .ok (.imul, 1) := by decide +kernel
theorem d_M_numberOfGroups_56 : decode c_M_numberOfGroups 56 = .ok (.ireturn, 1) := by decide +kernel
theorem d_M_numberOfGroups_57 : decode c_M_numberOfGroups 57 = .ok (.bipush 16, 2) := by decide +kernel
theorem d_M_numberOfGroups_59 : decode c_M_numberOfGroups 59 = .ok (.aload_n 0, 1) := by decide +kernel
theorem d_M_numberOfGroups_60 : decode c_M_numberOfGroups 60 = .ok (.getfield 19, 3) := by decide +kernel
theorem d_M_numberOfGroups_63 : decode c_M_numberOfGroups 63 = .ok (.getfield 103, 3) := by decide +kernel
theorem d_M_numberOfGroups_66 : decode c_M_numberOfGroups 66 = .ok (.iload_n 2, 1) := by decide +kernel
theorem d_M_numberOfGroups_67 : decode c_M_numberOfGroups 67 = .ok (.iaload, 1) := by decide +kernel
theorem d_M_numberOfGroups_68 : decode c_M_numberOfGroups 68 = .ok (.imul, 1) := by decide +kernel
theorem d_M_numberOfGroups_69 : decode c_M_numberOfGroups 69 = .ok (.ireturn, 1) := by decide +kernel
theorem d_M_numberOfLinks_0 : decode c_M_numberOfLinks 0 = .ok (.iload_n 1, 1) := by decide +kernel
theorem d_M_numberOfLinks_1 : decode c_M_numberOfLinks 1 = .ok (.istore_n 2, 1) := by decide +kernel
theorem d_M_numberOfLinks_2 : decode c_M_numberOfLinks 2 = .ok (.iconst 0, 1) := by decide +kernel
theorem d_M_numberOfLinks_3 : decode c_M_numberOfLinks 3 = .ok (.istore_n 3, 1) := by decide +kernel
theorem d_M_numberOfLinks_4 : decode c_M_numberOfLinks 4 = .ok (.iload_n 3, 1) := by decide +kernel
theorem d_M_numberOfLinks_5 : decode c_M_numberOfLinks 5 = .ok (.aload_n 0, 1) := by decide +kernel
theorem d_M_numberOfLinks_6 : decode c_M_numberOfLinks 6 = .ok (.getfield 19, 3) := by decide +kernel
theorem d_M_numberOfLinks_9 : decode c_M_numberOfLinks 9 = .ok (.getfield 109, 3) := by decide +kernel
theorem d_M_numberOfLinks_12 : decode c_M_numberOfLinks 12 = .ok (.iconst 1, 1) := by decide +kernel
theorem d_M_numberOfLinks_13 : decode c_M_numberOfLinks 13 = .ok (.isub, 1) := by decide +kernel
theorem d_M_numberOfLinks_14 : decode c_M_numberOfLinks 14 = .ok (.if_icmp .ge 26, 3) := by decide +kernel
theorem d_M_numberOfLinks_17 : decode c_M_numberOfLinks 17 = .ok (.iload_n 2, 1) := by decide +kernel
theorem d_M_numberOfLinks_18 : decode c_M_numberOfLinks 18 = .ok (.aload_n 0, 1) := by decide +kernel
theorem d_M_numberOfLinks_19 : decode c_M_numberOfLinks 19 = .ok (.iload_n 3, 1) := by decide +kernel
theorem d_M_numberOfLinks_20 : decode c_M_numberOfLinks 20 = .ok (.invokevirtual 155, 3) := by decide +kernel
theorem d_M_numberOfLinks_23 : decode c_M_numberOfLinks 23 = .ok (.if_icmp .lt 17, 3) := by decide +kernel
theorem d_M_numberOfLinks_26 : decode c_M_numberOfLinks 26 = .ok (.iload_n 2, 1) := by decide +kernel
theorem d_M_numberOfLinks_27 : decode c_M_numberOfLinks 27 = .ok (.aload_n 0, 1) := by decide +kernel
theorem d_M_numberOfLinks_28 : decode c_M_numberOfLinks 28 = .ok (.iload_n 3, 1) := by decide +kernel
theorem d_M_numberOfLinks_29 : decode c_M_numberOfLinks 29 = .ok (.invokevirtual 155, 3) := by decide +kernel
theorem d_M_numberOfLinks_32 : decode c_M_numberOfLinks 32 = .ok (.isub, 1) := by decide +kernel
theorem d_M_numberOfLinks_33 : decode c_M_numberOfLinks 33 = .ok (.istore_n 2, 1) := by decide +kernel
theorem d_M_numberOfLinks_34 : decode c_M_numberOfLinks 34 = .ok (.iinc 3 1, 3) := by decide +kernel
theorem d_M_numberOfLinks_37 : decode c_M_numberOfLinks 37 = .ok (.goto (-33), 3) := by decide +kernel
theorem d_M_numberOfLinks_40 : decode c_M_numberOfLinks 40 = .ok (.iload_n 2, 1) := by decide +kernel
theorem d_M_numberOfLinks_41 : decode c_M_numberOfLinks 41 = .ok (.ifCond .ne 5, 3) := by decide +kernel
theorem d_M_numberOfLinks_44 : decode c_M_numberOfLinks 44 = .ok (.iconst 2, 1) := by decide +kernel
theorem d_M_numberOfLinks_45 : decode c_M_numberOfLinks 45 = .ok (.ireturn, 1) := by decide +kernel
theorem d_M_numberOfLinks_46 : decode c_M_numberOfLinks 46 = .ok (.iload_n 2, 1) := by decide +kernel
theorem d_M_numberOfLinks_47 : decode c_M_numberOfLinks 47 = .ok (.iconst 1, 1) := by decide +kernel
theorem d_M_numberOfLinks_48 : decode c_M_numberOfLinks 48 = .ok (.if_icmp .ne 14, 3) := by decide +kernel
theorem d_M_numberOfLinks_51 : decode c_M_numberOfLinks 51 = .ok (.aload_n 0, 1) := by decide +kernel
theorem d_M_numberOfLinks_52 : decode c_M_numberOfLinks 52 = .ok (.getfield 19, 3) := by decide +kernel
theorem d_M_numberOfLinks_55 : decode c_M_numberOfLinks 55 = .ok (.iload_n 3, 1) := by decide +kernel
theorem d_M_numberOfLinks_56 : decode c_M_numberOfLinks 56 = .ok (.invokevirtual 112, 3) := by decide +kernel
theorem d_M_numberOfLinks_59 : decode c_M_numberOfLinks 59 = .ok (.iconst 2, 1) := by decide +kernel
theorem d_M_numberOfLinks_60 : decode c_M_numberOfLinks 60 = .ok (.iadd, 1) := by decide +kernel
theorem d_M_numberOfLinks_61 : decode c_M_numberOfLinks 61 = .ok (.ireturn, 1) := by decide +kernel
theorem d_M_numberOfLinks_62 : decode c_M_numberOfLinks 62 = .ok (.iload_n 2, 1) := by decide +kernel
theorem d_M_numberOfLinks_63 : decode c_M_numberOfLinks 63 = .ok (.iconst 2, 1) := by decide +kernel
theorem d_M_numberOfLinks_64 : decode c_M_numberOfLinks 64 = .ok (.isub, 1) := by decide +kernel
theorem d_M_numberOfLinks_65 : decode c_M_numberOfLinks 65 = .ok (.iconst 2, 1) := by decide +kernel
theorem d_M_numberOfLinks_66 : decode c_M_numberOfLinks 66 = .ok (.idiv, 1) := by decide +kernel
theorem d_M_numberOfLinks_67 : decode c_M_numberOfLinks 67 = .ok (.istore 4, 2) := by decide +kernel
theorem d_M_numberOfLinks_69 : decode c_M_numberOfLinks 69 = .ok (.iload_n 2, 1) := by decide +kernel
theorem d_M_numberOfLinks_70 : decode c_M_numberOfLinks 70 = .ok (.iconst 2, 1) := by decide +kernel
theorem d_M_numberOfLinks_71 : decode c_M_numberOfLinks 71 = .ok (.irem, 1) := by decide +kernel
theorem d_M_numberOfLinks_72 : decode c_M_numberOfLinks 72 = .ok (.ifCond .ne 25, 3) := by decide +kernel
theorem d_M_numberOfLinks_75 : decode c_M_numberOfLinks 75 = .ok (.bipush 16, 2) := by decide +kernel
theorem d_M_numberOfLinks_77 : decode c_M_numberOfLinks 77 = .ok (.aload_n 0, 1) := by decide +kernel
theorem d_M_numberOfLinks_78 : decode c_M_numberOfLinks 78 = .ok (.getfield 26, 3) := by decide +kernel
theorem d_M_numberOfLinks_81 : decode c_M_numberOfLinks 81 = .ok (.getfield 106, 3) := by decide +kernel
theorem d_M_numberOfLinks_84 : decode c_M_numberOfLinks 84 = .ok (.aload_n 0, 1) := by decide +kernel
theorem d_M_numberOfLinks_85 : decode c_M_numberOfLinks 85 = .ok (.getfield 19, 3) := by decide +kernel
theorem d_M_numberOfLinks_88 : decode c_M_numberOfLinks 88 = .ok (.iload_n 3, 1) := by decide +kernel
theorem d_M_numberOfLinks_89 : decode c_M_numberOfLinks 89 = .ok (.iload 4, 2) := by decide +kernel
theorem d_M_numberOfLinks_91 : decode c_M_numberOfLinks 91 = .ok (.invokevirtual 121, 3) := by decide +kernel
theorem d_M_numberOfLinks_94 : decode c_M_numberOfLinks 94 = .ok (.iaload, 1) := by decide +kernel
theorem d_M_numberOfLinks_95 : decode c_M_numberOfLinks 95 = .ok (.imul, 1) := by decide +kernel
theorem d_M_numberOfLinks_96 : decode c_M_numberOfLinks 96 = .ok (.ireturn, 1) := by decide +kernel
theorem d_M_numberOfLinks_97 : decode c_M_numberOfLinks 97 = .ok (.bipush 16, 2) := by decide +kernel
theorem d_M_numberOfLinks_99 : decode c_M_numberOfLinks 99 = .ok (.aload_n 0, 1) := by decide +kernel
theorem d_M_numberOfLinks_100 : decode c_M_numberOfLinks 100 = .ok (.getfield 19, 3) := by decide +kernel
theorem d_M_numberOfLinks_103 : decode c_M_numberOfLinks 103 = .ok (.getfield 103, 3) := by decide +kernel
theorem d_M_numberOfLinks_106 : decode c_M_numberOfLinks 106 = .ok (.aload_n 0, 1) := by decide +kernel
theorem d_M_numberOfLinks_107 : decode c_M_numberOfLinks 107 = .ok (.getfield 19, 3) := by decide +kernel
theorem d_M_numberOfLinks_110 : decode c_M_numberOfLinks 110 = .ok (.getfield 115, 3) := by decide +kernel
theorem d_M_numberOfLinks_113 : decode c_M_numberOfLinks 113 = .ok (.iload_n 3, 1) := by decide +kernel
theorem d_M_numberOfLinks_114 : decode c_M_numberOfLinks 114 = .ok (.iaload, 1) := by decide +kernel
theorem d_M_numberOfLinks_115 : decode c_M_numberOfLinks 115 = .ok (.iaload, 1) := by decide +kernel
theorem d_M_numberOfLinks_116 : decode c_M_numberOfLinks 116 = .ok (.iload 4, 2) := by decide +kernel
theorem d_M_numberOfLinks_118 : decode c_M_numberOfLinks 118 = .ok (.iadd, 1) := by decide +kernel
theorem d_M_numberOfLinks_119 : decode c_M_numberOfLinks 119 = .ok (.imul, 1) := by decide +kernel
theorem d_M_numberOfLinks_120 : decode c_M_numberOfLinks 120 = .ok (.ireturn, 1) := by decide +kernel
theorem d_M_numbersOf_0 : decode c_M_numbersOf 0 = .ok (.iconst 2, 1) := by decide +kernel
theorem d_M_numbersOf_1 : decode c_M_numbersOf 1 = .ok (.iconst 2, 1) := by decide +kernel
theorem d_M_numbersOf_2 : decode c_M_numbersOf 2 = .ok (.aload_n 0, 1) := by decide +kernel
theorem d_M_numbersOf_3 : decode c_M_numbersOf 3 = .ok (.getfield 19, 3) := by decide +kernel
theorem d_M_numbersOf_6 : decode c_M_numbersOf 6 = .ok (.iload_n 1, 1) := by decide +kernel
theorem d_M_numbersOf_7 : decode c_M_numbersOf 7 = .ok (.invokevirtual 112, 3) := by decide +kernel
theorem d_M_numbersOf_10 : decode c_M_numbersOf 10 = .ok (.iconst 2, 1) := by decide +kernel
theorem d_M_numbersOf_11 : decode c_M_numbersOf 11 = .ok (.iadd, 1) := by decide +kernel
theorem d_M_numbersOf_12 : decode c_M_numbersOf 12 = .ok (.imul, 1) := by decide +kernel
theorem d_M_numbersOf_13 : decode c_M_numbersOf 13 = .ok (.iadd, 1) := by decide +kernel
theorem d_M_numbersOf_14 : decode c_M_numbersOf 14 = .ok (.ireturn, 1) := by decide +kernel
theorem d_M_needSheet_0 : decode c_M_needSheet 0 = .ok (.aload_n 0, 1) := by decide +kernel
theorem d_M_needSheet_1 : decode c_M_needSheet 1 = .ok (.getfield 30, 3) := by decide +kernel
theorem d_M_needSheet_4 : decode c_M_needSheet 4 = .ok (.ifCond .ne 13, 3) := by decide +kernel
theorem d_M_needSheet_7 : decode c_M_needSheet 7 = .ok (.new 158, 3) := by decide +kernel
theorem d_M_needSheet_10 : decode c_M_needSheet 10 = .ok (.dup, 1) := by decide +kernel
theorem d_M_needSheet_11 : decode c_M_needSheet 11 = .ok (.ldc 160, 2) := by decide +kernel
theorem d_M_needSheet_13 : decode c_M_needSheet 13 = .ok (.invokespecial 162, 3) := by decide +kernel
theorem d_M_needSheet_16 : decode c_M_needSheet 16 = .ok (.athrow, 1) := by decide +kernel
theorem d_M_needSheet_17 : decode c_M_needSheet 17 = .ok (.return_, 1) := by decide +kernel
theorem d_M_needContext_0 : decode c_M_needContext 0 = .ok (.iload_n 0, 1) := by decide +kernel
theorem d_M_needContext_1 : decode c_M_needContext 1 = .ok (.ifCond .lt 13, 3) := by decide +kernel
theorem d_M_needContext_4 : decode c_M_needContext 4 = .ok (.iload_n 0, 1) := by decide +kernel
theorem d_M_needContext_5 : decode c_M_needContext 5 = .ok (.bipush 16, 2) := by decide +kernel
theorem d_M_needContext_7 : decode c_M_needContext 7 = .ok (.if_icmp .ge 7, 3) := by decide +kernel
theorem d_M_needContext_10 : decode c_M_needContext 10 = .ok (.iconst 1, 1) := by decide +kernel
theorem d_M_needContext_11 : decode c_M_needContext 11 = .ok (.goto 4, 3) := by decide +kernel
theorem d_M_needContext_14 : decode c_M_needContext 14 = .ok (.iconst 0, 1) := by decide +kernel
theorem d_M_needContext_15 : decode c_M_needContext 15 = .ok (.invokestatic 67, 3) := by decide +kernel
theorem d_M_needContext_18 : decode c_M_needContext 18 = .ok (.return_, 1) := by decide +kernel
theorem d_M_need_0 : decode c_M_need 0 = .ok (.iload_n 0, 1) := by decide +kernel
theorem d_M_need_1 : decode c_M_need 1 = .ok (.ifCond .ne 13, 3) := by decide +kernel
theorem d_M_need_4 : decode c_M_need 4 = .ok (.new 147, 3) := by decide +kernel
theorem d_M_need_7 : decode c_M_need 7 = .ok (.dup, 1) := by decide +kernel
theorem d_M_need_8 : decode c_M_need 8 = .ok (.ldc 163, 2) := by decide +kernel
theorem d_M_need_10 : decode c_M_need 10 = .ok (.invokespecial 151, 3) := by decide +kernel
theorem d_M_need_13 : decode c_M_need 13 = .ok (.athrow, 1) := by decide +kernel
theorem d_M_need_14 : decode c_M_need 14 = .ok (.return_, 1) := by decide +kernel
theorem d_M_has_0 : decode c_M_has 0 = .ok (.iload_n 0, 1) := by decide +kernel
theorem d_M_has_1 : decode c_M_has 1 = .ok (.iload_n 1, 1) := by decide +kernel
theorem d_M_has_2 : decode c_M_has 2 = .ok (.ishr, 1) := by decide +kernel
theorem d_M_has_3 : decode c_M_has 3 = .ok (.iconst 1, 1) := by decide +kernel
theorem d_M_has_4 : decode c_M_has 4 = .ok (.iand, 1) := by decide +kernel
theorem d_M_has_5 : decode c_M_has 5 = .ok (.ifCond .eq 7, 3) := by decide +kernel
theorem d_M_has_8 : decode c_M_has 8 = .ok (.iconst 1, 1) := by decide +kernel
theorem d_M_has_9 : decode c_M_has 9 = .ok (.goto 4, 3) := by decide +kernel
theorem d_M_has_12 : decode c_M_has 12 = .ok (.iconst 0, 1) := by decide +kernel
theorem d_M_has_13 : decode c_M_has 13 = .ok (.ireturn, 1) := by decide +kernel
theorem d_M_goOn_0 : decode c_M_goOn 0 = .ok (.iconst 0, 1) := by decide +kernel
theorem d_M_goOn_1 : decode c_M_goOn 1 = .ok (.istore_n 2, 1) := by decide +kernel
theorem d_M_goOn_2 : decode c_M_goOn 2 = .ok (.iload_n 2, 1) := by decide +kernel
theorem d_M_goOn_3 : decode c_M_goOn 3 = .ok (.bipush 16, 2) := by decide +kernel
theorem d_M_goOn_5 : decode c_M_goOn 5 = .ok (.if_icmp .ge 50, 3) := by decide +kernel
theorem d_M_goOn_8 : decode c_M_goOn 8 = .ok (.iconst 0, 1) := by decide +kernel
theorem d_M_goOn_9 : decode c_M_goOn 9 = .ok (.istore_n 3, 1) := by decide +kernel
theorem d_M_goOn_10 : decode c_M_goOn 10 = .ok (.iload_n 3, 1) := by decide +kernel
theorem d_M_goOn_11 : decode c_M_goOn 11 = .ok (.bipush 16, 2) := by decide +kernel
theorem d_M_goOn_13 : decode c_M_goOn 13 = .ok (.if_icmp .ge 36, 3) := by decide +kernel
theorem d_M_goOn_16 : decode c_M_goOn 16 = .ok (.iload_n 1, 1) := by decide +kernel
theorem d_M_goOn_17 : decode c_M_goOn 17 = .ok (.iload_n 2, 1) := by decide +kernel
theorem d_M_goOn_18 : decode c_M_goOn 18 = .ok (.invokestatic 99, 3) := by decide +kernel
theorem d_M_goOn_21 : decode c_M_goOn 21 = .ok (.ifCond .eq 22, 3) := by decide +kernel
theorem d_M_goOn_24 : decode c_M_goOn 24 = .ok (.aload_n 0, 1) := by decide +kernel
theorem d_M_goOn_25 : decode c_M_goOn 25 = .ok (.iload_n 3, 1) := by decide +kernel
theorem d_M_goOn_26 : decode c_M_goOn 26 = .ok (.iaload, 1) := by decide +kernel
theorem d_M_goOn_27 : decode c_M_goOn 27 = .ok (.iload_n 2, 1) := by decide +kernel
theorem d_M_goOn_28 : decode c_M_goOn 28 = .ok (.invokestatic 99, 3) := by decide +kernel
theorem d_M_goOn_31 : decode c_M_goOn 31 = .ok (.ifCond .eq 12, 3) := by decide +kernel
theorem d_M_goOn_34 : decode c_M_goOn 34 = .ok (.aload_n 0, 1) := by decide +kernel
theorem d_M_goOn_35 : decode c_M_goOn 35 = .ok (.iload_n 3, 1) := by decide +kernel
theorem d_M_goOn_36 : decode c_M_goOn 36 = .ok (.dup2, 1) := by decide +kernel
theorem d_M_goOn_37 : decode c_M_goOn 37 = .ok (.iaload, 1) := by decide +kernel
theorem d_M_goOn_38 : decode c_M_goOn 38 = .ok (.aload_n 0, 1) := by decide +kernel
theorem d_M_goOn_39 : decode c_M_goOn 39 = .ok (.iload_n 2, 1) := by decide +kernel
theorem d_M_goOn_40 : decode c_M_goOn 40 = .ok (.iaload, 1) := by decide +kernel
theorem d_M_goOn_41 : decode c_M_goOn 41 = .ok (.ior, 1) := by decide +kernel
theorem d_M_goOn_42 : decode c_M_goOn 42 = .ok (.iastore, 1) := by decide +kernel
theorem d_M_goOn_43 : decode c_M_goOn 43 = .ok (.iinc 3 1, 3) := by decide +kernel
theorem d_M_goOn_46 : decode c_M_goOn 46 = .ok (.goto (-36), 3) := by decide +kernel
theorem d_M_goOn_49 : decode c_M_goOn 49 = .ok (.iinc 2 1, 3) := by decide +kernel
theorem d_M_goOn_52 : decode c_M_goOn 52 = .ok (.goto (-50), 3) := by decide +kernel
theorem d_M_goOn_55 : decode c_M_goOn 55 = .ok (.return_, 1) := by decide +kernel
theorem d_J_bitCount_0 : decode c_J_bitCount 0 = .ok (.iload_n 0, 1) := by decide +kernel
theorem d_J_bitCount_1 : decode c_J_bitCount 1 = .ok (.iload_n 0, 1) := by decide +kernel
theorem d_J_bitCount_2 : decode c_J_bitCount 2 = .ok (.iconst 1, 1) := by decide +kernel
theorem d_J_bitCount_3 : decode c_J_bitCount 3 = .ok (.iushr, 1) := by decide +kernel
theorem d_J_bitCount_4 : decode c_J_bitCount 4 = .ok (.ldc_w 265, 3) := by decide +kernel
theorem d_J_bitCount_7 : decode c_J_bitCount 7 = .ok (.iand, 1) := by decide +kernel
theorem d_J_bitCount_8 : decode c_J_bitCount 8 = .ok (.isub, 1) := by decide +kernel
theorem d_J_bitCount_9 : decode c_J_bitCount 9 = .ok (.istore_n 0, 1) := by decide +kernel
theorem d_J_bitCount_10 : decode c_J_bitCount 10 = .ok (.iload_n 0, 1) := by decide +kernel
theorem d_J_bitCount_11 : decode c_J_bitCount 11 = .ok (.ldc_w 266, 3) := by decide +kernel
theorem d_J_bitCount_14 : decode c_J_bitCount 14 = .ok (.iand, 1) := by decide +kernel
theorem d_J_bitCount_15 : decode c_J_bitCount 15 = .ok (.iload_n 0, 1) := by decide +kernel
theorem d_J_bitCount_16 : decode c_J_bitCount 16 = .ok (.iconst 2, 1) := by decide +kernel
theorem d_J_bitCount_17 : decode c_J_bitCount 17 = .ok (.iushr, 1) := by decide +kernel
theorem d_J_bitCount_18 : decode c_J_bitCount 18 = .ok (.ldc_w 266, 3) := by decide +kernel
theorem d_J_bitCount_21 : decode c_J_bitCount 21 = .ok (.iand, 1) := by decide +kernel
theorem d_J_bitCount_22 : decode c_J_bitCount 22 = .ok (.iadd, 1) := by decide +kernel
theorem d_J_bitCount_23 : decode c_J_bitCount 23 = .ok (.istore_n 0, 1) := by decide +kernel
theorem d_J_bitCount_24 : decode c_J_bitCount 24 = .ok (.iload_n 0, 1) := by decide +kernel
theorem d_J_bitCount_25 : decode c_J_bitCount 25 = .ok (.iload_n 0, 1) := by decide +kernel
theorem d_J_bitCount_26 : decode c_J_bitCount 26 = .ok (.iconst 4, 1) := by decide +kernel
theorem d_J_bitCount_27 : decode c_J_bitCount 27 = .ok (.iushr, 1) := by decide +kernel
theorem d_J_bitCount_28 : decode c_J_bitCount 28 = .ok (.iadd, 1) := by decide +kernel
theorem d_J_bitCount_29 : decode c_J_bitCount 29 = .ok (.ldc_w 267, 3) := by decide +kernel
theorem d_J_bitCount_32 : decode c_J_bitCount 32 = .ok (.iand, 1) := by decide +kernel
theorem d_J_bitCount_33 : decode c_J_bitCount 33 = .ok (.istore_n 0, 1) := by decide +kernel
theorem d_J_bitCount_34 : decode c_J_bitCount 34 = .ok (.iload_n 0, 1) := by decide +kernel
theorem d_J_bitCount_35 : decode c_J_bitCount 35 = .ok (.iload_n 0, 1) := by decide +kernel
theorem d_J_bitCount_36 : decode c_J_bitCount 36 = .ok (.bipush 8, 2) := by decide +kernel
theorem d_J_bitCount_38 : decode c_J_bitCount 38 = .ok (.iushr, 1) := by decide +kernel
theorem d_J_bitCount_39 : decode c_J_bitCount 39 = .ok (.iadd, 1) := by decide +kernel
theorem d_J_bitCount_40 : decode c_J_bitCount 40 = .ok (.istore_n 0, 1) := by decide +kernel
theorem d_J_bitCount_41 : decode c_J_bitCount 41 = .ok (.iload_n 0, 1) := by decide +kernel
theorem d_J_bitCount_42 : decode c_J_bitCount 42 = .ok (.iload_n 0, 1) := by decide +kernel
theorem d_J_bitCount_43 : decode c_J_bitCount 43 = .ok (.bipush 16, 2) := by decide +kernel
theorem d_J_bitCount_45 : decode c_J_bitCount 45 = .ok (.iushr, 1) := by decide +kernel
theorem d_J_bitCount_46 : decode c_J_bitCount 46 = .ok (.iadd, 1) := by decide +kernel
theorem d_J_bitCount_47 : decode c_J_bitCount 47 = .ok (.istore_n 0, 1) := by decide +kernel
theorem d_J_bitCount_48 : decode c_J_bitCount 48 = .ok (.iload_n 0, 1) := by decide +kernel
theorem d_J_bitCount_49 : decode c_J_bitCount 49 = .ok (.bipush 63, 2) := by decide +kernel
theorem d_J_bitCount_51 : decode c_J_bitCount 51 = .ok (.iand, 1) := by decide +kernel
theorem d_J_bitCount_52 : decode c_J_bitCount 52 = .ok (.ireturn, 1) := by decide +kernel
