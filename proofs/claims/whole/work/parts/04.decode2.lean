theorem dX7_init_46 : decode cX7_init 46 = .ok (.iconst 2, 1) := by decide +kernel
theorem dX7_init_47 : decode cX7_init 47 = .ok (.if_icmp .ge 23, 3) := by decide +kernel
theorem dX7_init_50 : decode cX7_init 50 = .ok (.aload_n 0, 1) := by decide +kernel
theorem dX7_init_51 : decode cX7_init 51 = .ok (.getfield 21, 3) := by decide +kernel
theorem dX7_init_54 : decode cX7_init 54 = .ok (.iload_n 1, 1) := by decide +kernel
theorem dX7_init_55 : decode cX7_init 55 = .ok (.new 7, 3) := by decide +kernel
theorem dX7_init_58 : decode cX7_init 58 = .ok (.dup, 1) := by decide +kernel
theorem dX7_init_59 : decode cX7_init 59 = .ok (.iconst 0, 1) := by decide +kernel
theorem dX7_init_60 : decode cX7_init 60 = .ok (.invokespecial 9, 3) := by decide +kernel
theorem dX7_init_63 : decode cX7_init 63 = .ok (.aastore, 1) := by decide +kernel
theorem dX7_init_64 : decode cX7_init 64 = .ok (.iinc 1 1, 3) := by decide +kernel
theorem dX7_init_67 : decode cX7_init 67 = .ok (.goto (-22), 3) := by decide +kernel
theorem dX7_init_70 : decode cX7_init 70 = .ok (.aload_n 0, 1) := by decide +kernel
theorem dX7_init_71 : decode cX7_init 71 = .ok (.new 29, 3) := by decide +kernel
theorem dX7_init_74 : decode cX7_init 74 = .ok (.dup, 1) := by decide +kernel
theorem dX7_init_75 : decode cX7_init 75 = .ok (.invokespecial 31, 3) := by decide +kernel
theorem dX7_init_78 : decode cX7_init 78 = .ok (.putfield 32, 3) := by decide +kernel
theorem dX7_init_81 : decode cX7_init 81 = .ok (.return_, 1) := by decide +kernel
theorem dX7_begin_0 : decode cX7_begin 0 = .ok (.iload_n 1, 1) := by decide +kernel
theorem dX7_begin_1 : decode cX7_begin 1 = .ok (.iconst 1, 1) := by decide +kernel
theorem dX7_begin_2 : decode cX7_begin 2 = .ok (.bipush 8, 2) := by decide +kernel
theorem dX7_begin_4 : decode cX7_begin 4 = .ok (.invokestatic 36, 3) := by decide +kernel
theorem dX7_begin_7 : decode cX7_begin 7 = .ok (.ifCond .ne 6, 3) := by decide +kernel
theorem dX7_begin_10 : decode cX7_begin 10 = .ok (.bipush (-12), 2) := by decide +kernel
theorem dX7_begin_12 : decode cX7_begin 12 = .ok (.ireturn, 1) := by decide +kernel
theorem dX7_begin_13 : decode cX7_begin 13 = .ok (.aload_n 0, 1) := by decide +kernel
theorem dX7_begin_14 : decode cX7_begin 14 = .ok (.getfield 12, 3) := by decide +kernel
theorem dX7_begin_17 : decode cX7_begin 17 = .ok (.getfield 40, 3) := by decide +kernel
theorem dX7_begin_20 : decode cX7_begin 20 = .ok (.istore_n 2, 1) := by decide +kernel
theorem dX7_begin_21 : decode cX7_begin 21 = .ok (.aload_n 0, 1) := by decide +kernel
theorem dX7_begin_22 : decode cX7_begin 22 = .ok (.getfield 12, 3) := by decide +kernel
theorem dX7_begin_25 : decode cX7_begin 25 = .ok (.iload_n 1, 1) := by decide +kernel
theorem dX7_begin_26 : decode cX7_begin 26 = .ok (.invokevirtual 44, 3) := by decide +kernel
theorem dX7_begin_29 : decode cX7_begin 29 = .ok (.iload_n 2, 1) := by decide +kernel
theorem dX7_begin_30 : decode cX7_begin 30 = .ok (.ireturn, 1) := by decide +kernel
theorem dX7_setLimit_0 : decode cX7_setLimit 0 = .ok (.iload_n 1, 1) := by decide +kernel
theorem dX7_setLimit_1 : decode cX7_setLimit 1 = .ok (.iconst 0, 1) := by decide +kernel
theorem dX7_setLimit_2 : decode cX7_setLimit 2 = .ok (.sipush 1000, 3) := by decide +kernel
theorem dX7_setLimit_5 : decode cX7_setLimit 5 = .ok (.invokestatic 36, 3) := by decide +kernel
theorem dX7_setLimit_8 : decode cX7_setLimit 8 = .ok (.ifCond .ne 6, 3) := by decide +kernel
theorem dX7_setLimit_11 : decode cX7_setLimit 11 = .ok (.bipush (-12), 2) := by decide +kernel
theorem dX7_setLimit_13 : decode cX7_setLimit 13 = .ok (.ireturn, 1) := by decide +kernel
theorem dX7_setLimit_14 : decode cX7_setLimit 14 = .ok (.aload_n 0, 1) := by decide +kernel
theorem dX7_setLimit_15 : decode cX7_setLimit 15 = .ok (.getfield 12, 3) := by decide +kernel
theorem dX7_setLimit_18 : decode cX7_setLimit 18 = .ok (.getfield 48, 3) := by decide +kernel
theorem dX7_setLimit_21 : decode cX7_setLimit 21 = .ok (.istore_n 2, 1) := by decide +kernel
theorem dX7_setLimit_22 : decode cX7_setLimit 22 = .ok (.aload_n 0, 1) := by decide +kernel
theorem dX7_setLimit_23 : decode cX7_setLimit 23 = .ok (.getfield 12, 3) := by decide +kernel
theorem dX7_setLimit_26 : decode cX7_setLimit 26 = .ok (.iload_n 1, 1) := by decide +kernel
theorem dX7_setLimit_27 : decode cX7_setLimit 27 = .ok (.putfield 48, 3) := by decide +kernel
theorem dX7_setLimit_30 : decode cX7_setLimit 30 = .ok (.iload_n 2, 1) := by decide +kernel
theorem dX7_setLimit_31 : decode cX7_setLimit 31 = .ok (.ireturn, 1) := by decide +kernel
theorem dX7_freeze_0 : decode cX7_freeze 0 = .ok (.iload_n 1, 1) := by decide +kernel
theorem dX7_freeze_1 : decode cX7_freeze 1 = .ok (.iconst 0, 1) := by decide +kernel
theorem dX7_freeze_2 : decode cX7_freeze 2 = .ok (.sipush 167, 3) := by decide +kernel
theorem dX7_freeze_5 : decode cX7_freeze 5 = .ok (.invokestatic 36, 3) := by decide +kernel
theorem dX7_freeze_8 : decode cX7_freeze 8 = .ok (.ifCond .eq 16, 3) := by decide +kernel
theorem dX7_freeze_11 : decode cX7_freeze 11 = .ok (.iload_n 2, 1) := by decide +kernel
theorem dX7_freeze_12 : decode cX7_freeze 12 = .ok (.iload_n 1, 1) := by decide +kernel
theorem dX7_freeze_13 : decode cX7_freeze 13 = .ok (.iconst 1, 1) := by decide +kernel
theorem dX7_freeze_14 : decode cX7_freeze 14 = .ok (.iadd, 1) := by decide +kernel
theorem dX7_freeze_15 : decode cX7_freeze 15 = .ok (.sipush 168, 3) := by decide +kernel
theorem dX7_freeze_18 : decode cX7_freeze 18 = .ok (.invokestatic 36, 3) := by decide +kernel
theorem dX7_freeze_21 : decode cX7_freeze 21 = .ok (.ifCond .ne 6, 3) := by decide +kernel
theorem dX7_freeze_24 : decode cX7_freeze 24 = .ok (.bipush (-12), 2) := by decide +kernel
theorem dX7_freeze_26 : decode cX7_freeze 26 = .ok (.ireturn, 1) := by decide +kernel
theorem dX7_freeze_27 : decode cX7_freeze 27 = .ok (.aload_n 0, 1) := by decide +kernel
theorem dX7_freeze_28 : decode cX7_freeze 28 = .ok (.getfield 12, 3) := by decide +kernel
theorem dX7_freeze_31 : decode cX7_freeze 31 = .ok (.getfield 51, 3) := by decide +kernel
theorem dX7_freeze_34 : decode cX7_freeze 34 = .ok (.iload_n 1, 1) := by decide +kernel
theorem dX7_freeze_35 : decode cX7_freeze 35 = .ok (.iload_n 2, 1) := by decide +kernel
theorem dX7_freeze_36 : decode cX7_freeze 36 = .ok (.invokevirtual 55, 3) := by decide +kernel
theorem dX7_freeze_39 : decode cX7_freeze 39 = .ok (.ifCond .eq 16, 3) := by decide +kernel
theorem dX7_freeze_42 : decode cX7_freeze 42 = .ok (.aload_n 0, 1) := by decide +kernel
theorem dX7_freeze_43 : decode cX7_freeze 43 = .ok (.getfield 12, 3) := by decide +kernel
theorem dX7_freeze_46 : decode cX7_freeze 46 = .ok (.getfield 51, 3) := by decide +kernel
theorem dX7_freeze_49 : decode cX7_freeze 49 = .ok (.getfield 61, 3) := by decide +kernel
theorem dX7_freeze_52 : decode cX7_freeze 52 = .ok (.goto 5, 3) := by decide +kernel
theorem dX7_freeze_55 : decode cX7_freeze 55 = .ok (.bipush (-14), 2) := by decide +kernel
theorem dX7_freeze_57 : decode cX7_freeze 57 = .ok (.ireturn, 1) := by decide +kernel
theorem dX7_thaw_0 : decode cX7_thaw 0 = .ok (.aload_n 0, 1) := by decide +kernel
theorem dX7_thaw_1 : decode cX7_thaw 1 = .ok (.getfield 12, 3) := by decide +kernel
theorem dX7_thaw_4 : decode cX7_thaw 4 = .ok (.getfield 51, 3) := by decide +kernel
theorem dX7_thaw_7 : decode cX7_thaw 7 = .ok (.getfield 61, 3) := by decide +kernel
theorem dX7_thaw_10 : decode cX7_thaw 10 = .ok (.istore_n 1, 1) := by decide +kernel
theorem dX7_thaw_11 : decode cX7_thaw 11 = .ok (.aload_n 0, 1) := by decide +kernel
theorem dX7_thaw_12 : decode cX7_thaw 12 = .ok (.getfield 12, 3) := by decide +kernel
theorem dX7_thaw_15 : decode cX7_thaw 15 = .ok (.getfield 51, 3) := by decide +kernel
theorem dX7_thaw_18 : decode cX7_thaw 18 = .ok (.iconst 0, 1) := by decide +kernel
theorem dX7_thaw_19 : decode cX7_thaw 19 = .ok (.putfield 61, 3) := by decide +kernel
theorem dX7_thaw_22 : decode cX7_thaw 22 = .ok (.iload_n 1, 1) := by decide +kernel
theorem dX7_thaw_23 : decode cX7_thaw 23 = .ok (.ireturn, 1) := by decide +kernel
theorem dX7_addChange_0 : decode cX7_addChange 0 = .ok (.aload_n 0, 1) := by decide +kernel
theorem dX7_addChange_1 : decode cX7_addChange 1 = .ok (.getfield 12, 3) := by decide +kernel
theorem dX7_addChange_4 : decode cX7_addChange 4 = .ok (.iload_n 1, 1) := by decide +kernel
theorem dX7_addChange_5 : decode cX7_addChange 5 = .ok (.invokevirtual 64, 3) := by decide +kernel
theorem dX7_addChange_8 : decode cX7_addChange 8 = .ok (.ifCond .eq 15, 3) := by decide +kernel
theorem dX7_addChange_11 : decode cX7_addChange 11 = .ok (.aload_n 0, 1) := by decide +kernel
theorem dX7_addChange_12 : decode cX7_addChange 12 = .ok (.getfield 12, 3) := by decide +kernel
theorem dX7_addChange_15 : decode cX7_addChange 15 = .ok (.getfield 68, 3) := by decide +kernel
theorem dX7_addChange_18 : decode cX7_addChange 18 = .ok (.iconst 1, 1) := by decide +kernel
theorem dX7_addChange_19 : decode cX7_addChange 19 = .ok (.isub, 1) := by decide +kernel
theorem dX7_addChange_20 : decode cX7_addChange 20 = .ok (.goto 5, 3) := by decide +kernel
theorem dX7_addChange_23 : decode cX7_addChange 23 = .ok (.bipush (-14), 2) := by decide +kernel
theorem dX7_addChange_25 : decode cX7_addChange 25 = .ok (.ireturn, 1) := by decide +kernel
theorem dX7_addStage_0 : decode cX7_addStage 0 = .ok (.aload_n 0, 1) := by decide +kernel
theorem dX7_addStage_1 : decode cX7_addStage 1 = .ok (.getfield 12, 3) := by decide +kernel
theorem dX7_addStage_4 : decode cX7_addStage 4 = .ok (.iload_n 1, 1) := by decide +kernel
theorem dX7_addStage_5 : decode cX7_addStage 5 = .ok (.invokevirtual 69, 3) := by decide +kernel
theorem dX7_addStage_8 : decode cX7_addStage 8 = .ok (.astore 5, 2) := by decide +kernel
theorem dX7_addStage_10 : decode cX7_addStage 10 = .ok (.aload 5, 2) := by decide +kernel
theorem dX7_addStage_12 : decode cX7_addStage 12 = .ok (.ifnonnull 6, 3) := by decide +kernel
theorem dX7_addStage_15 : decode cX7_addStage 15 = .ok (.bipush (-11), 2) := by decide +kernel
theorem dX7_addStage_17 : decode cX7_addStage 17 = .ok (.ireturn, 1) := by decide +kernel
theorem dX7_addStage_18 : decode cX7_addStage 18 = .ok (.iload_n 2, 1) := by decide +kernel
theorem dX7_addStage_19 : decode cX7_addStage 19 = .ok (.iconst 1, 1) := by decide +kernel
theorem dX7_addStage_20 : decode cX7_addStage 20 = .ok (.aload_n 0, 1) := by decide +kernel
theorem dX7_addStage_21 : decode cX7_addStage 21 = .ok (.getfield 12, 3) := by decide +kernel
theorem dX7_addStage_24 : decode cX7_addStage 24 = .ok (.invokevirtual 73, 3) := by decide +kernel
theorem dX7_addStage_27 : decode cX7_addStage 27 = .ok (.invokestatic 36, 3) := by decide +kernel
theorem dX7_addStage_30 : decode cX7_addStage 30 = .ok (.ifCond .eq 24, 3) := by decide +kernel
theorem dX7_addStage_33 : decode cX7_addStage 33 = .ok (.iload_n 3, 1) := by decide +kernel
theorem dX7_addStage_34 : decode cX7_addStage 34 = .ok (.iconst 0, 1) := by decide +kernel
theorem dX7_addStage_35 : decode cX7_addStage 35 = .ok (.bipush 48, 2) := by decide +kernel
theorem dX7_addStage_37 : decode cX7_addStage 37 = .ok (.invokestatic 36, 3) := by decide +kernel
theorem dX7_addStage_40 : decode cX7_addStage 40 = .ok (.ifCond .eq 14, 3) := by decide +kernel
theorem dX7_addStage_43 : decode cX7_addStage 43 = .ok (.iload 4, 2) := by decide +kernel
theorem dX7_addStage_45 : decode cX7_addStage 45 = .ok (.iconst 0, 1) := by decide +kernel
theorem dX7_addStage_46 : decode cX7_addStage 46 = .ok (.bipush 25, 2) := by decide +kernel
theorem dX7_addStage_48 : decode cX7_addStage 48 = .ok (.invokestatic 36, 3) := by decide +kernel
theorem dX7_addStage_51 : decode cX7_addStage 51 = .ok (.ifCond .ne 6, 3) := by decide +kernel
theorem dX7_addStage_54 : decode cX7_addStage 54 = .ok (.bipush (-12), 2) := by decide +kernel
theorem dX7_addStage_56 : decode cX7_addStage 56 = .ok (.ireturn, 1) := by decide +kernel
theorem dX7_addStage_57 : decode cX7_addStage 57 = .ok (.aload 5, 2) := by decide +kernel
theorem dX7_addStage_59 : decode cX7_addStage 59 = .ok (.getfield 77, 3) := by decide +kernel
theorem dX7_addStage_62 : decode cX7_addStage 62 = .ok (.ifCond .ne 18, 3) := by decide +kernel
theorem dX7_addStage_65 : decode cX7_addStage 65 = .ok (.aload 5, 2) := by decide +kernel
theorem dX7_addStage_67 : decode cX7_addStage 67 = .ok (.getfield 82, 3) := by decide +kernel
theorem dX7_addStage_70 : decode cX7_addStage 70 = .ok (.bipush 6, 2) := by decide +kernel
theorem dX7_addStage_72 : decode cX7_addStage 72 = .ok (.invokevirtual 86, 3) := by decide +kernel
theorem dX7_addStage_75 : decode cX7_addStage 75 = .ok (.iload_n 2, 1) := by decide +kernel
theorem dX7_addStage_76 : decode cX7_addStage 76 = .ok (.iand, 1) := by decide +kernel
theorem dX7_addStage_77 : decode cX7_addStage 77 = .ok (.ifCond .eq 6, 3) := by decide +kernel
theorem dX7_addStage_80 : decode cX7_addStage 80 = .ok (.bipush (-13), 2) := by decide +kernel
theorem dX7_addStage_82 : decode cX7_addStage 82 = .ok (.ireturn, 1) := by decide +kernel
theorem dX7_addStage_83 : decode cX7_addStage 83 = .ok (.aload 5, 2) := by decide +kernel
theorem dX7_addStage_85 : decode cX7_addStage 85 = .ok (.getfield 82, 3) := by decide +kernel
theorem dX7_addStage_88 : decode cX7_addStage 88 = .ok (.iload_n 2, 1) := by decide +kernel
theorem dX7_addStage_89 : decode cX7_addStage 89 = .ok (.iload_n 3, 1) := by decide +kernel
theorem dX7_addStage_90 : decode cX7_addStage 90 = .ok (.iload 4, 2) := by decide +kernel
theorem dX7_addStage_92 : decode cX7_addStage 92 = .ok (.invokevirtual 92, 3) := by decide +kernel
theorem dX7_addStage_95 : decode cX7_addStage 95 = .ok (.ifCond .eq 14, 3) := by decide +kernel
theorem dX7_addStage_98 : decode cX7_addStage 98 = .ok (.aload 5, 2) := by decide +kernel
theorem dX7_addStage_100 : decode cX7_addStage 100 = .ok (.getfield 82, 3) := by decide +kernel
theorem dX7_addStage_103 : decode cX7_addStage 103 = .ok (.getfield 94, 3) := by decide +kernel
theorem dX7_addStage_106 : decode cX7_addStage 106 = .ok (.goto 5, 3) := by decide +kernel
theorem dX7_addStage_109 : decode cX7_addStage 109 = .ok (.bipush (-14), 2) := by decide +kernel
theorem dX7_addStage_111 : decode cX7_addStage 111 = .ok (.ireturn, 1) := by decide +kernel
theorem dX7_putAfter_0 : decode cX7_putAfter 0 = .ok (.aload_n 0, 1) := by decide +kernel
theorem dX7_putAfter_1 : decode cX7_putAfter 1 = .ok (.getfield 12, 3) := by decide +kernel
theorem dX7_putAfter_4 : decode cX7_putAfter 4 = .ok (.iload_n 1, 1) := by decide +kernel
theorem dX7_putAfter_5 : decode cX7_putAfter 5 = .ok (.invokevirtual 69, 3) := by decide +kernel
theorem dX7_putAfter_8 : decode cX7_putAfter 8 = .ok (.astore_n 3, 1) := by decide +kernel
theorem dX7_putAfter_9 : decode cX7_putAfter 9 = .ok (.aload_n 3, 1) := by decide +kernel
theorem dX7_putAfter_10 : decode cX7_putAfter 10 = .ok (.ifnull 14, 3) := by decide +kernel
theorem dX7_putAfter_13 : decode cX7_putAfter 13 = .ok (.iload_n 2, 1) := by decide +kernel
theorem dX7_putAfter_14 : decode cX7_putAfter 14 = .ok (.iconst 0, 1) := by decide +kernel
theorem dX7_putAfter_15 : decode cX7_putAfter 15 = .ok (.iload_n 1, 1) := by decide +kernel
theorem dX7_putAfter_16 : decode cX7_putAfter 16 = .ok (.iconst 1, 1) := by decide +kernel
theorem dX7_putAfter_17 : decode cX7_putAfter 17 = .ok (.isub, 1) := by decide +kernel
theorem dX7_putAfter_18 : decode cX7_putAfter 18 = .ok (.invokestatic 36, 3) := by decide +kernel
theorem dX7_putAfter_21 : decode cX7_putAfter 21 = .ok (.ifCond .ne 6, 3) := by decide +kernel
theorem dX7_putAfter_24 : decode cX7_putAfter 24 = .ok (.bipush (-11), 2) := by decide +kernel
theorem dX7_putAfter_26 : decode cX7_putAfter 26 = .ok (.ireturn, 1) := by decide +kernel
theorem dX7_putAfter_27 : decode cX7_putAfter 27 = .ok (.aload_n 3, 1) := by decide +kernel
theorem dX7_putAfter_28 : decode cX7_putAfter 28 = .ok (.getfield 77, 3) := by decide +kernel
theorem dX7_putAfter_31 : decode cX7_putAfter 31 = .ok (.ifCond .eq 6, 3) := by decide +kernel
theorem dX7_putAfter_34 : decode cX7_putAfter 34 = .ok (.bipush (-13), 2) := by decide +kernel
theorem dX7_putAfter_36 : decode cX7_putAfter 36 = .ok (.ireturn, 1) := by decide +kernel
theorem dX7_putAfter_37 : decode cX7_putAfter 37 = .ok (.aload_n 3, 1) := by decide +kernel
theorem dX7_putAfter_38 : decode cX7_putAfter 38 = .ok (.dup, 1) := by decide +kernel
theorem dX7_putAfter_39 : decode cX7_putAfter 39 = .ok (.getfield 95, 3) := by decide +kernel
theorem dX7_putAfter_42 : decode cX7_putAfter 42 = .ok (.iconst 1, 1) := by decide +kernel
theorem dX7_putAfter_43 : decode cX7_putAfter 43 = .ok (.iload_n 2, 1) := by decide +kernel
theorem dX7_putAfter_44 : decode cX7_putAfter 44 = .ok (.ishl, 1) := by decide +kernel
theorem dX7_putAfter_45 : decode cX7_putAfter 45 = .ok (.ior, 1) := by decide +kernel
theorem dX7_putAfter_46 : decode cX7_putAfter 46 = .ok (.putfield 95, 3) := by decide +kernel
theorem dX7_putAfter_49 : decode cX7_putAfter 49 = .ok (.aload_n 3, 1) := by decide +kernel
theorem dX7_putAfter_50 : decode cX7_putAfter 50 = .ok (.getfield 95, 3) := by decide +kernel
theorem dX7_putAfter_53 : decode cX7_putAfter 53 = .ok (.invokestatic 98, 3) := by decide +kernel
theorem dX7_putAfter_56 : decode cX7_putAfter 56 = .ok (.ireturn, 1) := by decide +kernel
theorem dX7_changes_0 : decode cX7_changes 0 = .ok (.aload_n 0, 1) := by decide +kernel
theorem dX7_changes_1 : decode cX7_changes 1 = .ok (.getfield 12, 3) := by decide +kernel
theorem dX7_changes_4 : decode cX7_changes 4 = .ok (.getfield 68, 3) := by decide +kernel
theorem dX7_changes_7 : decode cX7_changes 7 = .ok (.ireturn, 1) := by decide +kernel
theorem dX7_stage_0 : decode cX7_stage 0 = .ok (.aload_n 0, 1) := by decide +kernel
theorem dX7_stage_1 : decode cX7_stage 1 = .ok (.getfield 12, 3) := by decide +kernel
theorem dX7_stage_4 : decode cX7_stage 4 = .ok (.iload_n 1, 1) := by decide +kernel
theorem dX7_stage_5 : decode cX7_stage 5 = .ok (.invokevirtual 69, 3) := by decide +kernel
theorem dX7_stage_8 : decode cX7_stage 8 = .ok (.astore 4, 2) := by decide +kernel
theorem dX7_stage_10 : decode cX7_stage 10 = .ok (.aload 4, 2) := by decide +kernel
theorem dX7_stage_12 : decode cX7_stage 12 = .ok (.ifnull 21, 3) := by decide +kernel
theorem dX7_stage_15 : decode cX7_stage 15 = .ok (.iload_n 2, 1) := by decide +kernel
theorem dX7_stage_16 : decode cX7_stage 16 = .ok (.iconst 0, 1) := by decide +kernel
theorem dX7_stage_17 : decode cX7_stage 17 = .ok (.aload 4, 2) := by decide +kernel
theorem dX7_stage_19 : decode cX7_stage 19 = .ok (.getfield 82, 3) := by decide +kernel
theorem dX7_stage_22 : decode cX7_stage 22 = .ok (.getfield 94, 3) := by decide +kernel
theorem dX7_stage_25 : decode cX7_stage 25 = .ok (.iconst 1, 1) := by decide +kernel
theorem dX7_stage_26 : decode cX7_stage 26 = .ok (.isub, 1) := by decide +kernel
theorem dX7_stage_27 : decode cX7_stage 27 = .ok (.invokestatic 36, 3) := by decide +kernel
theorem dX7_stage_30 : decode cX7_stage 30 = .ok (.ifCond .ne 6, 3) := by decide +kernel
theorem dX7_stage_33 : decode cX7_stage 33 = .ok (.bipush (-11), 2) := by decide +kernel
theorem dX7_stage_35 : decode cX7_stage 35 = .ok (.ireturn, 1) := by decide +kernel
theorem dX7_stage_36 : decode cX7_stage 36 = .ok (.iload_n 3, 1) := by decide +kernel
theorem dX7_stage_37 : decode cX7_stage 37 = .ok (.iconst 0, 1) := by decide +kernel
theorem dX7_stage_38 : decode cX7_stage 38 = .ok (.iconst 2, 1) := by decide +kernel
theorem dX7_stage_39 : decode cX7_stage 39 = .ok (.invokestatic 36, 3) := by decide +kernel
theorem dX7_stage_42 : decode cX7_stage 42 = .ok (.ifCond .ne 6, 3) := by decide +kernel
theorem dX7_stage_45 : decode cX7_stage 45 = .ok (.bipush (-12), 2) := by decide +kernel
theorem dX7_stage_47 : decode cX7_stage 47 = .ok (.ireturn, 1) := by decide +kernel
theorem dX7_stage_48 : decode cX7_stage 48 = .ok (.aload 4, 2) := by decide +kernel
theorem dX7_stage_50 : decode cX7_stage 50 = .ok (.getfield 82, 3) := by decide +kernel
theorem dX7_stage_53 : decode cX7_stage 53 = .ok (.iload_n 2, 1) := by decide +kernel
theorem dX7_stage_54 : decode cX7_stage 54 = .ok (.iload_n 3, 1) := by decide +kernel
theorem dX7_stage_55 : decode cX7_stage 55 = .ok (.invokevirtual 103, 3) := by decide +kernel
theorem dX7_stage_58 : decode cX7_stage 58 = .ok (.ireturn, 1) := by decide +kernel
theorem dX7_append_0 : decode cX7_append 0 = .ok (.iload_n 1, 1) := by decide +kernel
theorem dX7_append_1 : decode cX7_append 1 = .ok (.iconst 0, 1) := by decide +kernel
theorem dX7_append_2 : decode cX7_append 2 = .ok (.bipush 127, 2) := by decide +kernel
theorem dX7_append_4 : decode cX7_append 4 = .ok (.invokestatic 36, 3) := by decide +kernel
theorem dX7_append_7 : decode cX7_append 7 = .ok (.ifCond .ne 6, 3) := by decide +kernel
theorem dX7_append_10 : decode cX7_append 10 = .ok (.bipush (-12), 2) := by decide +kernel
theorem dX7_append_12 : decode cX7_append 12 = .ok (.ireturn, 1) := by decide +kernel
theorem dX7_append_13 : decode cX7_append 13 = .ok (.aload_n 0, 1) := by decide +kernel
theorem dX7_append_14 : decode cX7_append 14 = .ok (.getfield 32, 3) := by decide +kernel
theorem dX7_append_17 : decode cX7_append 17 = .ok (.iload_n 1, 1) := by decide +kernel
theorem dX7_append_18 : decode cX7_append 18 = .ok (.invokevirtual 107, 3) := by decide +kernel
theorem dX7_append_21 : decode cX7_append 21 = .ok (.ifCond .eq 13, 3) := by decide +kernel
theorem dX7_append_24 : decode cX7_append 24 = .ok (.aload_n 0, 1) := by decide +kernel
theorem dX7_append_25 : decode cX7_append 25 = .ok (.getfield 32, 3) := by decide +kernel
theorem dX7_append_28 : decode cX7_append 28 = .ok (.getfield 110, 3) := by decide +kernel
theorem dX7_append_31 : decode cX7_append 31 = .ok (.goto 5, 3) := by decide +kernel
theorem dX7_append_34 : decode cX7_append 34 = .ok (.bipush (-14), 2) := by decide +kernel
theorem dX7_append_36 : decode cX7_append 36 = .ok (.ireturn, 1) := by decide +kernel
theorem dX7_clearText_0 : decode cX7_clearText 0 = .ok (.aload_n 0, 1) := by decide +kernel
theorem dX7_clearText_1 : decode cX7_clearText 1 = .ok (.getfield 32, 3) := by decide +kernel
theorem dX7_clearText_4 : decode cX7_clearText 4 = .ok (.getfield 110, 3) := by decide +kernel
theorem dX7_clearText_7 : decode cX7_clearText 7 = .ok (.istore_n 1, 1) := by decide +kernel
theorem dX7_clearText_8 : decode cX7_clearText 8 = .ok (.aload_n 0, 1) := by decide +kernel
theorem dX7_clearText_9 : decode cX7_clearText 9 = .ok (.getfield 32, 3) := by decide +kernel
theorem dX7_clearText_12 : decode cX7_clearText 12 = .ok (.iconst 0, 1) := by decide +kernel
theorem dX7_clearText_13 : decode cX7_clearText 13 = .ok (.putfield 110, 3) := by decide +kernel
theorem dX7_clearText_16 : decode cX7_clearText 16 = .ok (.iload_n 1, 1) := by decide +kernel
theorem dX7_clearText_17 : decode cX7_clearText 17 = .ok (.ireturn, 1) := by decide +kernel
theorem dX7_faultPosition_0 : decode cX7_faultPosition 0 = .ok (.aload_n 0, 1) := by decide +kernel
theorem dX7_faultPosition_1 : decode cX7_faultPosition 1 = .ok (.getfield 32, 3) := by decide +kernel
theorem dX7_faultPosition_4 : decode cX7_faultPosition 4 = .ok (.aload_n 0, 1) := by decide +kernel
theorem dX7_faultPosition_5 : decode cX7_faultPosition 5 = .ok (.getfield 12, 3) := by decide +kernel
theorem dX7_faultPosition_8 : decode cX7_faultPosition 8 = .ok (.getfield 40, 3) := by decide +kernel
theorem dX7_faultPosition_11 : decode cX7_faultPosition 11 = .ok (.invokevirtual 113, 3) := by decide +kernel
theorem dX7_faultPosition_14 : decode cX7_faultPosition 14 = .ok (.ifCond .eq 8, 3) := by decide +kernel
theorem dX7_faultPosition_17 : decode cX7_faultPosition 17 = .ok (.bipush (-15), 2) := by decide +kernel
theorem dX7_faultPosition_19 : decode cX7_faultPosition 19 = .ok (.goto 10, 3) := by decide +kernel
theorem dX7_faultPosition_22 : decode cX7_faultPosition 22 = .ok (.aload_n 0, 1) := by decide +kernel
theorem dX7_faultPosition_23 : decode cX7_faultPosition 23 = .ok (.getfield 32, 3) := by decide +kernel
theorem dX7_faultPosition_26 : decode cX7_faultPosition 26 = .ok (.getfield 116, 3) := by decide +kernel
theorem dX7_faultPosition_29 : decode cX7_faultPosition 29 = .ok (.ireturn, 1) := by decide +kernel
theorem dX7_read_0 : decode cX7_read 0 = .ok (.aload_n 0, 1) := by decide +kernel
theorem dX7_read_1 : decode cX7_read 1 = .ok (.getfield 12, 3) := by decide +kernel
theorem dX7_read_4 : decode cX7_read 4 = .ok (.iload_n 1, 1) := by decide +kernel
theorem dX7_read_5 : decode cX7_read 5 = .ok (.invokevirtual 69, 3) := by decide +kernel
theorem dX7_read_8 : decode cX7_read 8 = .ok (.astore_n 2, 1) := by decide +kernel
theorem dX7_read_9 : decode cX7_read 9 = .ok (.aload_n 2, 1) := by decide +kernel
theorem dX7_read_10 : decode cX7_read 10 = .ok (.ifnonnull 6, 3) := by decide +kernel
theorem dX7_read_13 : decode cX7_read 13 = .ok (.bipush (-11), 2) := by decide +kernel
theorem dX7_read_15 : decode cX7_read 15 = .ok (.ireturn, 1) := by decide +kernel
theorem dX7_read_16 : decode cX7_read 16 = .ok (.aload_n 2, 1) := by decide +kernel
theorem dX7_read_17 : decode cX7_read 17 = .ok (.getfield 77, 3) := by decide +kernel
theorem dX7_read_20 : decode cX7_read 20 = .ok (.ifCond .ne 20, 3) := by decide +kernel
theorem dX7_read_23 : decode cX7_read 23 = .ok (.aload_n 0, 1) := by decide +kernel
theorem dX7_read_24 : decode cX7_read 24 = .ok (.getfield 32, 3) := by decide +kernel
theorem dX7_read_27 : decode cX7_read 27 = .ok (.aload_n 0, 1) := by decide +kernel
theorem dX7_read_28 : decode cX7_read 28 = .ok (.getfield 12, 3) := by decide +kernel
theorem dX7_read_31 : decode cX7_read 31 = .ok (.getfield 40, 3) := by decide +kernel
theorem dX7_read_34 : decode cX7_read 34 = .ok (.invokevirtual 113, 3) := by decide +kernel
theorem dX7_read_37 : decode cX7_read 37 = .ok (.ifCond .ne 6, 3) := by decide +kernel
theorem dX7_read_40 : decode cX7_read 40 = .ok (.bipush (-13), 2) := by decide +kernel
theorem dX7_read_42 : decode cX7_read 42 = .ok (.ireturn, 1) := by decide +kernel
theorem dX7_read_43 : decode cX7_read 43 = .ok (.aload_n 2, 1) := by decide +kernel
theorem dX7_read_44 : decode cX7_read 44 = .ok (.getfield 82, 3) := by decide +kernel
theorem dX7_read_47 : decode cX7_read 47 = .ok (.aload_n 0, 1) := by decide +kernel
theorem dX7_read_48 : decode cX7_read 48 = .ok (.getfield 32, 3) := by decide +kernel
theorem dX7_read_51 : decode cX7_read 51 = .ok (.getfield 119, 3) := by decide +kernel
theorem dX7_read_54 : decode cX7_read 54 = .ok (.invokevirtual 120, 3) := by decide +kernel
theorem dX7_read_57 : decode cX7_read 57 = .ok (.aload_n 2, 1) := by decide +kernel
theorem dX7_read_58 : decode cX7_read 58 = .ok (.getfield 82, 3) := by decide +kernel
theorem dX7_read_61 : decode cX7_read 61 = .ok (.getfield 94, 3) := by decide +kernel
theorem dX7_read_64 : decode cX7_read 64 = .ok (.ireturn, 1) := by decide +kernel
theorem dX7_start_0 : decode cX7_start 0 = .ok (.aload_n 0, 1) := by decide +kernel
theorem dX7_start_1 : decode cX7_start 1 = .ok (.getfield 12, 3) := by decide +kernel
theorem dX7_start_4 : decode cX7_start 4 = .ok (.iload_n 1, 1) := by decide +kernel
theorem dX7_start_5 : decode cX7_start 5 = .ok (.invokevirtual 69, 3) := by decide +kernel
theorem dX7_start_8 : decode cX7_start 8 = .ok (.astore_n 2, 1) := by decide +kernel
theorem dX7_start_9 : decode cX7_start 9 = .ok (.aload_n 2, 1) := by decide +kernel
theorem dX7_start_10 : decode cX7_start 10 = .ok (.ifnonnull 6, 3) := by decide +kernel
theorem dX7_start_13 : decode cX7_start 13 = .ok (.bipush (-11), 2) := by decide +kernel
theorem dX7_start_15 : decode cX7_start 15 = .ok (.ireturn, 1) := by decide +kernel
theorem dX7_start_16 : decode cX7_start 16 = .ok (.aload_n 2, 1) := by decide +kernel
theorem dX7_start_17 : decode cX7_start 17 = .ok (.getfield 77, 3) := by decide +kernel
theorem dX7_start_20 : decode cX7_start 20 = .ok (.ifCond .ne 13, 3) := by decide +kernel
theorem dX7_start_23 : decode cX7_start 23 = .ok (.aload_n 2, 1) := by decide +kernel
theorem dX7_start_24 : decode cX7_start 24 = .ok (.getfield 82, 3) := by decide +kernel
theorem dX7_start_27 : decode cX7_start 27 = .ok (.getfield 94, 3) := by decide +kernel
theorem dX7_start_30 : decode cX7_start 30 = .ok (.ifCond .ne 6, 3) := by decide +kernel
theorem dX7_start_33 : decode cX7_start 33 = .ok (.bipush (-13), 2) := by decide +kernel
theorem dX7_start_35 : decode cX7_start 35 = .ok (.ireturn, 1) := by decide +kernel
theorem dX7_start_36 : decode cX7_start 36 = .ok (.aload_n 2, 1) := by decide +kernel
theorem dX7_start_37 : decode cX7_start 37 = .ok (.iconst 1, 1) := by decide +kernel
theorem dX7_start_38 : decode cX7_start 38 = .ok (.putfield 77, 3) := by decide +kernel
theorem dX7_start_41 : decode cX7_start 41 = .ok (.aload_n 2, 1) := by decide +kernel
theorem dX7_start_42 : decode cX7_start 42 = .ok (.getfield 82, 3) := by decide +kernel
theorem dX7_start_45 : decode cX7_start 45 = .ok (.getfield 94, 3) := by decide +kernel
theorem dX7_start_48 : decode cX7_start 48 = .ok (.ireturn, 1) := by decide +kernel
theorem dX7_hold_0 : decode cX7_hold 0 = .ok (.aload_n 0, 1) := by decide +kernel
theorem dX7_hold_1 : decode cX7_hold 1 = .ok (.iload_n 1, 1) := by decide +kernel
theorem dX7_hold_2 : decode cX7_hold 2 = .ok (.iconst 2, 1) := by decide +kernel
theorem dX7_hold_3 : decode cX7_hold 3 = .ok (.iconst 2, 1) := by decide +kernel
theorem dX7_hold_4 : decode cX7_hold 4 = .ok (.bipush 6, 2) := by decide +kernel
theorem dX7_hold_6 : decode cX7_hold 6 = .ok (.invokevirtual 124, 3) := by decide +kernel
theorem dX7_hold_9 : decode cX7_hold 9 = .ok (.ireturn, 1) := by decide +kernel
theorem dX7_resume_0 : decode cX7_resume 0 = .ok (.aload_n 0, 1) := by decide +kernel
theorem dX7_resume_1 : decode cX7_resume 1 = .ok (.iload_n 1, 1) := by decide +kernel
theorem dX7_resume_2 : decode cX7_resume 2 = .ok (.iconst 4, 1) := by decide +kernel
theorem dX7_resume_3 : decode cX7_resume 3 = .ok (.iconst 1, 1) := by decide +kernel
theorem dX7_resume_4 : decode cX7_resume 4 = .ok (.bipush 7, 2) := by decide +kernel
theorem dX7_resume_6 : decode cX7_resume 6 = .ok (.invokevirtual 124, 3) := by decide +kernel
theorem dX7_resume_9 : decode cX7_resume 9 = .ok (.ireturn, 1) := by decide +kernel
theorem dX7_turnBack_0 : decode cX7_turnBack 0 = .ok (.aload_n 0, 1) := by decide +kernel
theorem dX7_turnBack_1 : decode cX7_turnBack 1 = .ok (.iload_n 1, 1) := by decide +kernel
theorem dX7_turnBack_2 : decode cX7_turnBack 2 = .ok (.bipush 14, 2) := by decide +kernel
theorem dX7_turnBack_4 : decode cX7_turnBack 4 = .ok (.iconst 4, 1) := by decide +kernel
theorem dX7_turnBack_5 : decode cX7_turnBack 5 = .ok (.iconst 3, 1) := by decide +kernel
theorem dX7_turnBack_6 : decode cX7_turnBack 6 = .ok (.invokevirtual 124, 3) := by decide +kernel
theorem dX7_turnBack_9 : decode cX7_turnBack 9 = .ok (.ireturn, 1) := by decide +kernel
theorem dX7_move_0 : decode cX7_move 0 = .ok (.aload_n 0, 1) := by decide +kernel
theorem dX7_move_1 : decode cX7_move 1 = .ok (.getfield 12, 3) := by decide +kernel
theorem dX7_move_4 : decode cX7_move 4 = .ok (.iload_n 1, 1) := by decide +kernel
theorem dX7_move_5 : decode cX7_move 5 = .ok (.invokevirtual 69, 3) := by decide +kernel
theorem dX7_move_8 : decode cX7_move 8 = .ok (.astore 5, 2) := by decide +kernel
theorem dX7_move_10 : decode cX7_move 10 = .ok (.aload 5, 2) := by decide +kernel
theorem dX7_move_12 : decode cX7_move 12 = .ok (.ifnonnull 6, 3) := by decide +kernel
theorem dX7_move_15 : decode cX7_move 15 = .ok (.bipush (-11), 2) := by decide +kernel
theorem dX7_move_17 : decode cX7_move 17 = .ok (.ireturn, 1) := by decide +kernel
theorem dX7_move_18 : decode cX7_move 18 = .ok (.iload_n 2, 1) := by decide +kernel
theorem dX7_move_19 : decode cX7_move 19 = .ok (.aload 5, 2) := by decide +kernel
theorem dX7_move_21 : decode cX7_move 21 = .ok (.getfield 77, 3) := by decide +kernel
theorem dX7_move_24 : decode cX7_move 24 = .ok (.ishr, 1) := by decide +kernel
theorem dX7_move_25 : decode cX7_move 25 = .ok (.iconst 1, 1) := by decide +kernel
theorem dX7_move_26 : decode cX7_move 26 = .ok (.iand, 1) := by decide +kernel
theorem dX7_move_27 : decode cX7_move 27 = .ok (.ifCond .ne 6, 3) := by decide +kernel
theorem dX7_move_30 : decode cX7_move 30 = .ok (.bipush (-13), 2) := by decide +kernel
theorem dX7_move_32 : decode cX7_move 32 = .ok (.ireturn, 1) := by decide +kernel
theorem dX7_move_33 : decode cX7_move 33 = .ok (.aload_n 0, 1) := by decide +kernel
theorem dX7_move_34 : decode cX7_move 34 = .ok (.getfield 12, 3) := by decide +kernel
theorem dX7_move_37 : decode cX7_move 37 = .ok (.aload 5, 2) := by decide +kernel
theorem dX7_move_39 : decode cX7_move 39 = .ok (.iload_n 3, 1) := by decide +kernel
theorem dX7_move_40 : decode cX7_move 40 = .ok (.iload 4, 2) := by decide +kernel
theorem dX7_move_42 : decode cX7_move 42 = .ok (.invokevirtual 128, 3) := by decide +kernel
theorem dX7_move_45 : decode cX7_move 45 = .ok (.aload 5, 2) := by decide +kernel
theorem dX7_move_47 : decode cX7_move 47 = .ok (.getfield 132, 3) := by decide +kernel
theorem dX7_move_50 : decode cX7_move 50 = .ok (.ireturn, 1) := by decide +kernel
theorem dX7_report_0 : decode cX7_report 0 = .ok (.aload_n 0, 1) := by decide +kernel
theorem dX7_report_1 : decode cX7_report 1 = .ok (.getfield 12, 3) := by decide +kernel
theorem dX7_report_4 : decode cX7_report 4 = .ok (.iload_n 1, 1) := by decide +kernel
theorem dX7_report_5 : decode cX7_report 5 = .ok (.invokevirtual 135, 3) := by decide +kernel
theorem dX7_report_8 : decode cX7_report 8 = .ok (.ifCond .ne 6, 3) := by decide +kernel
theorem dX7_report_11 : decode cX7_report 11 = .ok (.bipush (-11), 2) := by decide +kernel
theorem dX7_report_13 : decode cX7_report 13 = .ok (.ireturn, 1) := by decide +kernel
theorem dX7_report_14 : decode cX7_report 14 = .ok (.iload_n 2, 1) := by decide +kernel
theorem dX7_report_15 : decode cX7_report 15 = .ok (.iconst 0, 1) := by decide +kernel
theorem dX7_report_16 : decode cX7_report 16 = .ok (.bipush 9, 2) := by decide +kernel
theorem dX7_report_18 : decode cX7_report 18 = .ok (.invokestatic 36, 3) := by decide +kernel
theorem dX7_report_21 : decode cX7_report 21 = .ok (.ifCond .eq 13, 3) := by decide +kernel
theorem dX7_report_24 : decode cX7_report 24 = .ok (.iload_n 3, 1) := by decide +kernel
theorem dX7_report_25 : decode cX7_report 25 = .ok (.iconst 0, 1) := by decide +kernel
theorem dX7_report_26 : decode cX7_report 26 = .ok (.bipush 9, 2) := by decide +kernel
theorem dX7_report_28 : decode cX7_report 28 = .ok (.invokestatic 36, 3) := by decide +kernel
theorem dX7_report_31 : decode cX7_report 31 = .ok (.ifCond .ne 6, 3) := by decide +kernel
theorem dX7_report_34 : decode cX7_report 34 = .ok (.bipush (-12), 2) := by decide +kernel
theorem dX7_report_36 : decode cX7_report 36 = .ok (.ireturn, 1) := by decide +kernel
theorem dX7_report_37 : decode cX7_report 37 = .ok (.aload_n 0, 1) := by decide +kernel
theorem dX7_report_38 : decode cX7_report 38 = .ok (.getfield 12, 3) := by decide +kernel
theorem dX7_report_41 : decode cX7_report 41 = .ok (.iload_n 1, 1) := by decide +kernel
theorem dX7_report_42 : decode cX7_report 42 = .ok (.iload_n 2, 1) := by decide +kernel
theorem dX7_report_43 : decode cX7_report 43 = .ok (.iload_n 3, 1) := by decide +kernel
theorem dX7_report_44 : decode cX7_report 44 = .ok (.invokevirtual 138, 3) := by decide +kernel
theorem dX7_report_47 : decode cX7_report 47 = .ok (.ireturn, 1) := by decide +kernel
theorem dX7_pass_0 : decode cX7_pass 0 = .ok (.iload_n 1, 1) := by decide +kernel
theorem dX7_pass_1 : decode cX7_pass 1 = .ok (.iconst 1, 1) := by decide +kernel
theorem dX7_pass_2 : decode cX7_pass 2 = .ok (.bipush 100, 2) := by decide +kernel
theorem dX7_pass_4 : decode cX7_pass 4 = .ok (.invokestatic 36, 3) := by decide +kernel
theorem dX7_pass_7 : decode cX7_pass 7 = .ok (.ifCond .ne 6, 3) := by decide +kernel
theorem dX7_pass_10 : decode cX7_pass 10 = .ok (.bipush (-12), 2) := by decide +kernel
theorem dX7_pass_12 : decode cX7_pass 12 = .ok (.ireturn, 1) := by decide +kernel
theorem dX7_pass_13 : decode cX7_pass 13 = .ok (.aload_n 0, 1) := by decide +kernel
theorem dX7_pass_14 : decode cX7_pass 14 = .ok (.getfield 12, 3) := by decide +kernel
theorem dX7_pass_17 : decode cX7_pass 17 = .ok (.getfield 142, 3) := by decide +kernel
theorem dX7_pass_20 : decode cX7_pass 20 = .ok (.getfield 146, 3) := by decide +kernel
theorem dX7_pass_23 : decode cX7_pass 23 = .ok (.istore_n 2, 1) := by decide +kernel
theorem dX7_pass_24 : decode cX7_pass 24 = .ok (.iconst 0, 1) := by decide +kernel
theorem dX7_pass_25 : decode cX7_pass 25 = .ok (.istore_n 3, 1) := by decide +kernel
theorem dX7_pass_26 : decode cX7_pass 26 = .ok (.iload_n 3, 1) := by decide +kernel
theorem dX7_pass_27 : decode cX7_pass 27 = .ok (.iload_n 1, 1) := by decide +kernel
theorem dX7_pass_28 : decode cX7_pass 28 = .ok (.if_icmp .ge 16, 3) := by decide +kernel
theorem dX7_pass_31 : decode cX7_pass 31 = .ok (.aload_n 0, 1) := by decide +kernel
theorem dX7_pass_32 : decode cX7_pass 32 = .ok (.getfield 12, 3) := by decide +kernel
theorem dX7_pass_35 : decode cX7_pass 35 = .ok (.invokevirtual 151, 3) := by decide +kernel
theorem dX7_pass_38 : decode cX7_pass 38 = .ok (.iinc 3 1, 3) := by decide +kernel
theorem dX7_pass_41 : decode cX7_pass 41 = .ok (.goto (-15), 3) := by decide +kernel
theorem dX7_pass_44 : decode cX7_pass 44 = .ok (.aload_n 0, 1) := by decide +kernel
theorem dX7_pass_45 : decode cX7_pass 45 = .ok (.getfield 12, 3) := by decide +kernel
theorem dX7_pass_48 : decode cX7_pass 48 = .ok (.getfield 142, 3) := by decide +kernel
theorem dX7_pass_51 : decode cX7_pass 51 = .ok (.getfield 146, 3) := by decide +kernel
theorem dX7_pass_54 : decode cX7_pass 54 = .ok (.iload_n 2, 1) := by decide +kernel
theorem dX7_pass_55 : decode cX7_pass 55 = .ok (.isub, 1) := by decide +kernel
theorem dX7_pass_56 : decode cX7_pass 56 = .ok (.ireturn, 1) := by decide +kernel
theorem dX7_time_0 : decode cX7_time 0 = .ok (.aload_n 0, 1) := by decide +kernel
theorem dX7_time_1 : decode cX7_time 1 = .ok (.getfield 12, 3) := by decide +kernel
theorem dX7_time_4 : decode cX7_time 4 = .ok (.getfield 154, 3) := by decide +kernel
theorem dX7_time_7 : decode cX7_time 7 = .ok (.ireturn, 1) := by decide +kernel
theorem dX7_change_0 : decode cX7_change 0 = .ok (.aload_n 0, 1) := by decide +kernel
theorem dX7_change_1 : decode cX7_change 1 = .ok (.getfield 12, 3) := by decide +kernel
theorem dX7_change_4 : decode cX7_change 4 = .ok (.iload_n 1, 1) := by decide +kernel
theorem dX7_change_5 : decode cX7_change 5 = .ok (.invokevirtual 69, 3) := by decide +kernel
theorem dX7_change_8 : decode cX7_change 8 = .ok (.astore_n 3, 1) := by decide +kernel
theorem dX7_change_9 : decode cX7_change 9 = .ok (.aload_n 3, 1) := by decide +kernel
theorem dX7_change_10 : decode cX7_change 10 = .ok (.ifnonnull 6, 3) := by decide +kernel
theorem dX7_change_13 : decode cX7_change 13 = .ok (.bipush (-11), 2) := by decide +kernel
theorem dX7_change_15 : decode cX7_change 15 = .ok (.ireturn, 1) := by decide +kernel
theorem dX7_change_16 : decode cX7_change 16 = .ok (.iload_n 2, 1) := by decide +kernel
theorem dX7_change_17 : decode cX7_change 17 = .ok (.tableswitch 100 0 6 #[43, 48, 56, 61, 73, 82, 87], 43) := by decide +kernel
theorem dX7_change_60 : decode cX7_change 60 = .ok (.aload_n 3, 1) := by decide +kernel
theorem dX7_change_61 : decode cX7_change 61 = .ok (.getfield 77, 3) := by decide +kernel
theorem dX7_change_64 : decode cX7_change 64 = .ok (.ireturn, 1) := by decide +kernel
theorem dX7_change_65 : decode cX7_change 65 = .ok (.aload_n 3, 1) := by decide +kernel
theorem dX7_change_66 : decode cX7_change 66 = .ok (.getfield 82, 3) := by decide +kernel
theorem dX7_change_69 : decode cX7_change 69 = .ok (.getfield 94, 3) := by decide +kernel
theorem dX7_change_72 : decode cX7_change 72 = .ok (.ireturn, 1) := by decide +kernel
theorem dX7_change_73 : decode cX7_change 73 = .ok (.aload_n 3, 1) := by decide +kernel
theorem dX7_change_74 : decode cX7_change 74 = .ok (.getfield 132, 3) := by decide +kernel
theorem dX7_change_77 : decode cX7_change 77 = .ok (.ireturn, 1) := by decide +kernel
theorem dX7_change_78 : decode cX7_change 78 = .ok (.aload_n 3, 1) := by decide +kernel
theorem dX7_change_79 : decode cX7_change 79 = .ok (.aload_n 0, 1) := by decide +kernel
theorem dX7_change_80 : decode cX7_change 80 = .ok (.getfield 12, 3) := by decide +kernel
theorem dX7_change_83 : decode cX7_change 83 = .ok (.getfield 154, 3) := by decide +kernel
theorem dX7_change_86 : decode cX7_change 86 = .ok (.invokevirtual 157, 3) := by decide +kernel
theorem dX7_change_89 : decode cX7_change 89 = .ok (.ireturn, 1) := by decide +kernel
theorem dX7_change_90 : decode cX7_change 90 = .ok (.aload_n 0, 1) := by decide +kernel
theorem dX7_change_91 : decode cX7_change 91 = .ok (.getfield 12, 3) := by decide +kernel
theorem dX7_change_94 : decode cX7_change 94 = .ok (.aload_n 3, 1) := by decide +kernel
theorem dX7_change_95 : decode cX7_change 95 = .ok (.invokevirtual 160, 3) := by decide +kernel
theorem dX7_change_98 : decode cX7_change 98 = .ok (.ireturn, 1) := by decide +kernel
theorem dX7_change_99 : decode cX7_change 99 = .ok (.aload_n 3, 1) := by decide +kernel
theorem dX7_change_100 : decode cX7_change 100 = .ok (.getfield 95, 3) := by decide +kernel
theorem dX7_change_103 : decode cX7_change 103 = .ok (.ireturn, 1) := by decide +kernel
theorem dX7_change_104 : decode cX7_change 104 = .ok (.aload_n 3, 1) := by decide +kernel
theorem dX7_change_105 : decode cX7_change 105 = .ok (.getfield 164, 3) := by decide +kernel
theorem dX7_change_108 : decode cX7_change 108 = .ok (.ifCond .eq 7, 3) := by decide +kernel
theorem dX7_change_111 : decode cX7_change 111 = .ok (.iconst 1, 1) := by decide +kernel
theorem dX7_change_112 : decode cX7_change 112 = .ok (.goto 4, 3) := by decide +kernel
theorem dX7_change_115 : decode cX7_change 115 = .ok (.iconst 0, 1) := by decide +kernel
theorem dX7_change_116 : decode cX7_change 116 = .ok (.ireturn, 1) := by decide +kernel
theorem dX7_change_117 : decode cX7_change 117 = .ok (.bipush (-12), 2) := by decide +kernel
theorem dX7_change_119 : decode cX7_change 119 = .ok (.ireturn, 1) := by decide +kernel
theorem dX7_probes_0 : decode cX7_probes 0 = .ok (.aload_n 0, 1) := by decide +kernel
theorem dX7_probes_1 : decode cX7_probes 1 = .ok (.getfield 12, 3) := by decide +kernel
theorem dX7_probes_4 : decode cX7_probes 4 = .ok (.iload_n 1, 1) := by decide +kernel
theorem dX7_probes_5 : decode cX7_probes 5 = .ok (.invokevirtual 69, 3) := by decide +kernel
theorem dX7_probes_8 : decode cX7_probes 8 = .ok (.astore_n 3, 1) := by decide +kernel
theorem dX7_probes_9 : decode cX7_probes 9 = .ok (.aload_n 3, 1) := by decide +kernel
theorem dX7_probes_10 : decode cX7_probes 10 = .ok (.ifnonnull 6, 3) := by decide +kernel
theorem dX7_probes_13 : decode cX7_probes 13 = .ok (.bipush (-11), 2) := by decide +kernel
theorem dX7_probes_15 : decode cX7_probes 15 = .ok (.ireturn, 1) := by decide +kernel
theorem dX7_probes_16 : decode cX7_probes 16 = .ok (.iload_n 2, 1) := by decide +kernel
theorem dX7_probes_17 : decode cX7_probes 17 = .ok (.tableswitch 63 0 3 #[31, 39, 47, 55], 31) := by decide +kernel
theorem dX7_probes_48 : decode cX7_probes 48 = .ok (.aload_n 3, 1) := by decide +kernel
theorem dX7_probes_49 : decode cX7_probes 49 = .ok (.getfield 168, 3) := by decide +kernel
theorem dX7_probes_52 : decode cX7_probes 52 = .ok (.getfield 172, 3) := by decide +kernel
theorem dX7_probes_55 : decode cX7_probes 55 = .ok (.ireturn, 1) := by decide +kernel
theorem dX7_probes_56 : decode cX7_probes 56 = .ok (.aload_n 3, 1) := by decide +kernel
theorem dX7_probes_57 : decode cX7_probes 57 = .ok (.getfield 168, 3) := by decide +kernel
theorem dX7_probes_60 : decode cX7_probes 60 = .ok (.getfield 177, 3) := by decide +kernel
theorem dX7_probes_63 : decode cX7_probes 63 = .ok (.ireturn, 1) := by decide +kernel
theorem dX7_probes_64 : decode cX7_probes 64 = .ok (.aload_n 3, 1) := by decide +kernel
theorem dX7_probes_65 : decode cX7_probes 65 = .ok (.getfield 168, 3) := by decide +kernel
theorem dX7_probes_68 : decode cX7_probes 68 = .ok (.getfield 180, 3) := by decide +kernel
theorem dX7_probes_71 : decode cX7_probes 71 = .ok (.ireturn, 1) := by decide +kernel
theorem dX7_probes_72 : decode cX7_probes 72 = .ok (.aload_n 3, 1) := by decide +kernel
theorem dX7_probes_73 : decode cX7_probes 73 = .ok (.getfield 168, 3) := by decide +kernel
theorem dX7_probes_76 : decode cX7_probes 76 = .ok (.getfield 183, 3) := by decide +kernel
theorem dX7_probes_79 : decode cX7_probes 79 = .ok (.ireturn, 1) := by decide +kernel
theorem dX7_probes_80 : decode cX7_probes 80 = .ok (.bipush (-12), 2) := by decide +kernel
theorem dX7_probes_82 : decode cX7_probes 82 = .ok (.ireturn, 1) := by decide +kernel
theorem dX7_chance_0 : decode cX7_chance 0 = .ok (.aload_n 0, 1) := by decide +kernel
theorem dX7_chance_1 : decode cX7_chance 1 = .ok (.getfield 12, 3) := by decide +kernel
theorem dX7_chance_4 : decode cX7_chance 4 = .ok (.iload_n 1, 1) := by decide +kernel
theorem dX7_chance_5 : decode cX7_chance 5 = .ok (.invokevirtual 69, 3) := by decide +kernel
theorem dX7_chance_8 : decode cX7_chance 8 = .ok (.astore_n 3, 1) := by decide +kernel
theorem dX7_chance_9 : decode cX7_chance 9 = .ok (.aload_n 3, 1) := by decide +kernel
theorem dX7_chance_10 : decode cX7_chance 10 = .ok (.ifnonnull 7, 3) := by decide +kernel
theorem dX7_chance_13 : decode cX7_chance 13 = .ok (.ldc2_w 186, 3) := by decide +kernel
theorem dX7_chance_16 : decode cX7_chance 16 = .ok (.lreturn, 1) := by decide +kernel
theorem dX7_chance_17 : decode cX7_chance 17 = .ok (.iload_n 2, 1) := by decide +kernel
theorem dX7_chance_18 : decode cX7_chance 18 = .ok (.ifCond .eq 13, 3) := by decide +kernel
theorem dX7_chance_21 : decode cX7_chance 21 = .ok (.aload_n 3, 1) := by decide +kernel
theorem dX7_chance_22 : decode cX7_chance 22 = .ok (.getfield 168, 3) := by decide +kernel
theorem dX7_chance_25 : decode cX7_chance 25 = .ok (.getfield 188, 3) := by decide +kernel
theorem dX7_chance_28 : decode cX7_chance 28 = .ok (.goto 10, 3) := by decide +kernel
theorem dX7_chance_31 : decode cX7_chance 31 = .ok (.aload_n 3, 1) := by decide +kernel
theorem dX7_chance_32 : decode cX7_chance 32 = .ok (.getfield 168, 3) := by decide +kernel
theorem dX7_chance_35 : decode cX7_chance 35 = .ok (.getfield 192, 3) := by decide +kernel
theorem dX7_chance_38 : decode cX7_chance 38 = .ok (.lreturn, 1) := by decide +kernel
theorem dX7_has_0 : decode cX7_has 0 = .ok (.aload_n 0, 1) := by decide +kernel
theorem dX7_has_1 : decode cX7_has 1 = .ok (.getfield 12, 3) := by decide +kernel
theorem dX7_has_4 : decode cX7_has 4 = .ok (.iload_n 1, 1) := by decide +kernel
theorem dX7_has_5 : decode cX7_has 5 = .ok (.invokevirtual 135, 3) := by decide +kernel
theorem dX7_has_8 : decode cX7_has 8 = .ok (.ifCond .eq 14, 3) := by decide +kernel
theorem dX7_has_11 : decode cX7_has 11 = .ok (.aload_n 0, 1) := by decide +kernel
theorem dX7_has_12 : decode cX7_has 12 = .ok (.getfield 12, 3) := by decide +kernel
theorem dX7_has_15 : decode cX7_has 15 = .ok (.iload_n 1, 1) := by decide +kernel
theorem dX7_has_16 : decode cX7_has 16 = .ok (.invokevirtual 195, 3) := by decide +kernel
theorem dX7_has_19 : decode cX7_has 19 = .ok (.goto 5, 3) := by decide +kernel
theorem dX7_has_22 : decode cX7_has 22 = .ok (.bipush (-11), 2) := by decide +kernel
theorem dX7_has_24 : decode cX7_has 24 = .ok (.ireturn, 1) := by decide +kernel
theorem dX7_isFrozen_0 : decode cX7_isFrozen 0 = .ok (.iload_n 1, 1) := by decide +kernel
theorem dX7_isFrozen_1 : decode cX7_isFrozen 1 = .ok (.iconst 0, 1) := by decide +kernel
theorem dX7_isFrozen_2 : decode cX7_isFrozen 2 = .ok (.sipush 167, 3) := by decide +kernel
theorem dX7_isFrozen_5 : decode cX7_isFrozen 5 = .ok (.invokestatic 36, 3) := by decide +kernel
theorem dX7_isFrozen_8 : decode cX7_isFrozen 8 = .ok (.ifCond .ne 6, 3) := by decide +kernel
theorem dX7_isFrozen_11 : decode cX7_isFrozen 11 = .ok (.bipush (-12), 2) := by decide +kernel
theorem dX7_isFrozen_13 : decode cX7_isFrozen 13 = .ok (.ireturn, 1) := by decide +kernel
theorem dX7_isFrozen_14 : decode cX7_isFrozen 14 = .ok (.aload_n 0, 1) := by decide +kernel
theorem dX7_isFrozen_15 : decode cX7_isFrozen 15 = .ok (.getfield 12, 3) := by decide +kernel
theorem dX7_isFrozen_18 : decode cX7_isFrozen 18 = .ok (.getfield 51, 3) := by decide +kernel
theorem dX7_isFrozen_21 : decode cX7_isFrozen 21 = .ok (.iload_n 1, 1) := by decide +kernel
theorem dX7_isFrozen_22 : decode cX7_isFrozen 22 = .ok (.invokevirtual 198, 3) := by decide +kernel
theorem dX7_isFrozen_25 : decode cX7_isFrozen 25 = .ok (.ifCond .eq 7, 3) := by decide +kernel
theorem dX7_isFrozen_28 : decode cX7_isFrozen 28 = .ok (.iconst 1, 1) := by decide +kernel
theorem dX7_isFrozen_29 : decode cX7_isFrozen 29 = .ok (.goto 4, 3) := by decide +kernel
theorem dX7_isFrozen_32 : decode cX7_isFrozen 32 = .ok (.iconst 0, 1) := by decide +kernel
theorem dX7_isFrozen_33 : decode cX7_isFrozen 33 = .ok (.ireturn, 1) := by decide +kernel
theorem dX7_forecast_0 : decode cX7_forecast 0 = .ok (.aload_n 0, 1) := by decide +kernel
theorem dX7_forecast_1 : decode cX7_forecast 1 = .ok (.getfield 12, 3) := by decide +kernel
theorem dX7_forecast_4 : decode cX7_forecast 4 = .ok (.iload_n 1, 1) := by decide +kernel
theorem dX7_forecast_5 : decode cX7_forecast 5 = .ok (.invokevirtual 69, 3) := by decide +kernel
theorem dX7_forecast_8 : decode cX7_forecast 8 = .ok (.astore_n 2, 1) := by decide +kernel
theorem dX7_forecast_9 : decode cX7_forecast 9 = .ok (.aload_n 2, 1) := by decide +kernel
theorem dX7_forecast_10 : decode cX7_forecast 10 = .ok (.ifnonnull 6, 3) := by decide +kernel
theorem dX7_forecast_13 : decode cX7_forecast 13 = .ok (.bipush (-11), 2) := by decide +kernel
theorem dX7_forecast_15 : decode cX7_forecast 15 = .ok (.ireturn, 1) := by decide +kernel
theorem dX7_forecast_16 : decode cX7_forecast 16 = .ok (.aload_n 2, 1) := by decide +kernel
theorem dX7_forecast_17 : decode cX7_forecast 17 = .ok (.getfield 77, 3) := by decide +kernel
theorem dX7_forecast_20 : decode cX7_forecast 20 = .ok (.ifCond .eq 11, 3) := by decide +kernel
theorem dX7_forecast_23 : decode cX7_forecast 23 = .ok (.aload_n 2, 1) := by decide +kernel
theorem dX7_forecast_24 : decode cX7_forecast 24 = .ok (.getfield 77, 3) := by decide +kernel
theorem dX7_forecast_27 : decode cX7_forecast 27 = .ok (.iconst 2, 1) := by decide +kernel
theorem dX7_forecast_28 : decode cX7_forecast 28 = .ok (.if_icmp .ne 6, 3) := by decide +kernel
theorem dX7_forecast_31 : decode cX7_forecast 31 = .ok (.bipush (-15), 2) := by decide +kernel
theorem dX7_forecast_33 : decode cX7_forecast 33 = .ok (.ireturn, 1) := by decide +kernel
theorem dX7_forecast_34 : decode cX7_forecast 34 = .ok (.aload_n 0, 1) := by decide +kernel
theorem dX7_forecast_35 : decode cX7_forecast 35 = .ok (.getfield 18, 3) := by decide +kernel
theorem dX7_forecast_38 : decode cX7_forecast 38 = .ok (.aload_n 0, 1) := by decide +kernel
theorem dX7_forecast_39 : decode cX7_forecast 39 = .ok (.getfield 12, 3) := by decide +kernel
theorem dX7_forecast_42 : decode cX7_forecast 42 = .ok (.invokevirtual 201, 3) := by decide +kernel
theorem dX7_forecast_45 : decode cX7_forecast 45 = .ok (.iconst 0, 1) := by decide +kernel
theorem dX7_forecast_46 : decode cX7_forecast 46 = .ok (.istore_n 3, 1) := by decide +kernel
theorem dX7_forecast_47 : decode cX7_forecast 47 = .ok (.iload_n 3, 1) := by decide +kernel
theorem dX7_forecast_48 : decode cX7_forecast 48 = .ok (.sipush 400, 3) := by decide +kernel
theorem dX7_forecast_51 : decode cX7_forecast 51 = .ok (.if_icmp .gt 29, 3) := by decide +kernel
theorem dX7_forecast_54 : decode cX7_forecast 54 = .ok (.aload_n 0, 1) := by decide +kernel
theorem dX7_forecast_55 : decode cX7_forecast 55 = .ok (.getfield 18, 3) := by decide +kernel
theorem dX7_forecast_58 : decode cX7_forecast 58 = .ok (.iload_n 1, 1) := by decide +kernel
theorem dX7_forecast_59 : decode cX7_forecast 59 = .ok (.invokevirtual 204, 3) := by decide +kernel
theorem dX7_forecast_62 : decode cX7_forecast 62 = .ok (.ifCond .eq 5, 3) := by decide +kernel
theorem dX7_forecast_65 : decode cX7_forecast 65 = .ok (.iload_n 3, 1) := by decide +kernel
theorem dX7_forecast_66 : decode cX7_forecast 66 = .ok (.ireturn, 1) := by decide +kernel
theorem dX7_forecast_67 : decode cX7_forecast 67 = .ok (.aload_n 0, 1) := by decide +kernel
theorem dX7_forecast_68 : decode cX7_forecast 68 = .ok (.getfield 18, 3) := by decide +kernel
theorem dX7_forecast_71 : decode cX7_forecast 71 = .ok (.invokevirtual 151, 3) := by decide +kernel
theorem dX7_forecast_74 : decode cX7_forecast 74 = .ok (.iinc 3 1, 3) := by decide +kernel
theorem dX7_forecast_77 : decode cX7_forecast 77 = .ok (.goto (-30), 3) := by decide +kernel
theorem dX7_forecast_80 : decode cX7_forecast 80 = .ok (.bipush (-15), 2) := by decide +kernel
theorem dX7_forecast_82 : decode cX7_forecast 82 = .ok (.ireturn, 1) := by decide +kernel
theorem dX7_entries_0 : decode cX7_entries 0 = .ok (.aload_n 0, 1) := by decide +kernel
theorem dX7_entries_1 : decode cX7_entries 1 = .ok (.getfield 12, 3) := by decide +kernel
theorem dX7_entries_4 : decode cX7_entries 4 = .ok (.getfield 142, 3) := by decide +kernel
theorem dX7_entries_7 : decode cX7_entries 7 = .ok (.getfield 207, 3) := by decide +kernel
theorem dX7_entries_10 : decode cX7_entries 10 = .ok (.ireturn, 1) := by decide +kernel
theorem dX7_entry_0 : decode cX7_entry 0 = .ok (.iload_n 1, 1) := by decide +kernel
theorem dX7_entry_1 : decode cX7_entry 1 = .ok (.iconst 0, 1) := by decide +kernel
theorem dX7_entry_2 : decode cX7_entry 2 = .ok (.aload_n 0, 1) := by decide +kernel
theorem dX7_entry_3 : decode cX7_entry 3 = .ok (.getfield 12, 3) := by decide +kernel
theorem dX7_entry_6 : decode cX7_entry 6 = .ok (.getfield 142, 3) := by decide +kernel
theorem dX7_entry_9 : decode cX7_entry 9 = .ok (.getfield 207, 3) := by decide +kernel
theorem dX7_entry_12 : decode cX7_entry 12 = .ok (.iconst 1, 1) := by decide +kernel
theorem dX7_entry_13 : decode cX7_entry 13 = .ok (.isub, 1) := by decide +kernel
theorem dX7_entry_14 : decode cX7_entry 14 = .ok (.invokestatic 36, 3) := by decide +kernel
theorem dX7_entry_17 : decode cX7_entry 17 = .ok (.ifCond .ne 6, 3) := by decide +kernel
theorem dX7_entry_20 : decode cX7_entry 20 = .ok (.bipush (-11), 2) := by decide +kernel
theorem dX7_entry_22 : decode cX7_entry 22 = .ok (.ireturn, 1) := by decide +kernel
theorem dX7_entry_23 : decode cX7_entry 23 = .ok (.iload_n 2, 1) := by decide +kernel
theorem dX7_entry_24 : decode cX7_entry 24 = .ok (.iconst 0, 1) := by decide +kernel
theorem dX7_entry_25 : decode cX7_entry 25 = .ok (.iconst 3, 1) := by decide +kernel
theorem dX7_entry_26 : decode cX7_entry 26 = .ok (.invokestatic 36, 3) := by decide +kernel
theorem dX7_entry_29 : decode cX7_entry 29 = .ok (.ifCond .ne 6, 3) := by decide +kernel
theorem dX7_entry_32 : decode cX7_entry 32 = .ok (.bipush (-12), 2) := by decide +kernel
theorem dX7_entry_34 : decode cX7_entry 34 = .ok (.ireturn, 1) := by decide +kernel
theorem dX7_entry_35 : decode cX7_entry 35 = .ok (.aload_n 0, 1) := by decide +kernel
theorem dX7_entry_36 : decode cX7_entry 36 = .ok (.getfield 12, 3) := by decide +kernel
theorem dX7_entry_39 : decode cX7_entry 39 = .ok (.getfield 142, 3) := by decide +kernel
theorem dX7_entry_42 : decode cX7_entry 42 = .ok (.iload_n 1, 1) := by decide +kernel
theorem dX7_entry_43 : decode cX7_entry 43 = .ok (.iload_n 2, 1) := by decide +kernel
theorem dX7_entry_44 : decode cX7_entry 44 = .ok (.invokevirtual 208, 3) := by decide +kernel
theorem dX7_entry_47 : decode cX7_entry 47 = .ok (.ireturn, 1) := by decide +kernel
theorem dX7_count_0 : decode cX7_count 0 = .ok (.iload_n 1, 1) := by decide +kernel
theorem dX7_count_1 : decode cX7_count 1 = .ok (.iconst 1, 1) := by decide +kernel
theorem dX7_count_2 : decode cX7_count 2 = .ok (.bipush 7, 2) := by decide +kernel
theorem dX7_count_4 : decode cX7_count 4 = .ok (.invokestatic 36, 3) := by decide +kernel
theorem dX7_count_7 : decode cX7_count 7 = .ok (.ifCond .ne 6, 3) := by decide +kernel
theorem dX7_count_10 : decode cX7_count 10 = .ok (.bipush (-12), 2) := by decide +kernel
theorem dX7_count_12 : decode cX7_count 12 = .ok (.ireturn, 1) := by decide +kernel
theorem dX7_count_13 : decode cX7_count 13 = .ok (.iload_n 2, 1) := by decide +kernel
theorem dX7_count_14 : decode cX7_count 14 = .ok (.iconst (-1), 1) := by decide +kernel
theorem dX7_count_15 : decode cX7_count 15 = .ok (.aload_n 0, 1) := by decide +kernel
theorem dX7_count_16 : decode cX7_count 16 = .ok (.getfield 12, 3) := by decide +kernel
theorem dX7_count_19 : decode cX7_count 19 = .ok (.getfield 68, 3) := by decide +kernel
theorem dX7_count_22 : decode cX7_count 22 = .ok (.iconst 1, 1) := by decide +kernel
theorem dX7_count_23 : decode cX7_count 23 = .ok (.isub, 1) := by decide +kernel
theorem dX7_count_24 : decode cX7_count 24 = .ok (.invokestatic 36, 3) := by decide +kernel
theorem dX7_count_27 : decode cX7_count 27 = .ok (.ifCond .ne 6, 3) := by decide +kernel
theorem dX7_count_30 : decode cX7_count 30 = .ok (.bipush (-11), 2) := by decide +kernel
theorem dX7_count_32 : decode cX7_count 32 = .ok (.ireturn, 1) := by decide +kernel
theorem dX7_count_33 : decode cX7_count 33 = .ok (.aload_n 0, 1) := by decide +kernel
theorem dX7_count_34 : decode cX7_count 34 = .ok (.getfield 12, 3) := by decide +kernel
theorem dX7_count_37 : decode cX7_count 37 = .ok (.getfield 142, 3) := by decide +kernel
theorem dX7_count_40 : decode cX7_count 40 = .ok (.iload_n 1, 1) := by decide +kernel
theorem dX7_count_41 : decode cX7_count 41 = .ok (.iload_n 2, 1) := by decide +kernel
theorem dX7_count_42 : decode cX7_count 42 = .ok (.invokevirtual 209, 3) := by decide +kernel
theorem dX7_count_45 : decode cX7_count 45 = .ok (.ireturn, 1) := by decide +kernel
theorem dX7_save_0 : decode cX7_save 0 = .ok (.iload_n 1, 1) := by decide +kernel
theorem dX7_save_1 : decode cX7_save 1 = .ok (.iconst 0, 1) := by decide +kernel
theorem dX7_save_2 : decode cX7_save 2 = .ok (.iconst 1, 1) := by decide +kernel
theorem dX7_save_3 : decode cX7_save 3 = .ok (.invokestatic 36, 3) := by decide +kernel
theorem dX7_save_6 : decode cX7_save 6 = .ok (.ifCond .ne 6, 3) := by decide +kernel
theorem dX7_save_9 : decode cX7_save 9 = .ok (.bipush (-11), 2) := by decide +kernel
theorem dX7_save_11 : decode cX7_save 11 = .ok (.ireturn, 1) := by decide +kernel
theorem dX7_save_12 : decode cX7_save 12 = .ok (.aload_n 0, 1) := by decide +kernel
theorem dX7_save_13 : decode cX7_save 13 = .ok (.getfield 21, 3) := by decide +kernel
theorem dX7_save_16 : decode cX7_save 16 = .ok (.iload_n 1, 1) := by decide +kernel
theorem dX7_save_17 : decode cX7_save 17 = .ok (.aaload, 1) := by decide +kernel
theorem dX7_save_18 : decode cX7_save 18 = .ok (.aload_n 0, 1) := by decide +kernel
theorem dX7_save_19 : decode cX7_save 19 = .ok (.getfield 12, 3) := by decide +kernel
theorem dX7_save_22 : decode cX7_save 22 = .ok (.invokevirtual 201, 3) := by decide +kernel
theorem dX7_save_25 : decode cX7_save 25 = .ok (.aload_n 0, 1) := by decide +kernel
theorem dX7_save_26 : decode cX7_save 26 = .ok (.getfield 25, 3) := by decide +kernel
theorem dX7_save_29 : decode cX7_save 29 = .ok (.iload_n 1, 1) := by decide +kernel
theorem dX7_save_30 : decode cX7_save 30 = .ok (.iconst 1, 1) := by decide +kernel
theorem dX7_save_31 : decode cX7_save 31 = .ok (.bastore, 1) := by decide +kernel
theorem dX7_save_32 : decode cX7_save 32 = .ok (.aload_n 0, 1) := by decide +kernel
theorem dX7_save_33 : decode cX7_save 33 = .ok (.getfield 12, 3) := by decide +kernel
theorem dX7_save_36 : decode cX7_save 36 = .ok (.getfield 154, 3) := by decide +kernel
theorem dX7_save_39 : decode cX7_save 39 = .ok (.ireturn, 1) := by decide +kernel
theorem dX7_restore_0 : decode cX7_restore 0 = .ok (.iload_n 1, 1) := by decide +kernel
theorem dX7_restore_1 : decode cX7_restore 1 = .ok (.iconst 0, 1) := by decide +kernel
theorem dX7_restore_2 : decode cX7_restore 2 = .ok (.iconst 1, 1) := by decide +kernel
theorem dX7_restore_3 : decode cX7_restore 3 = .ok (.invokestatic 36, 3) := by decide +kernel
theorem dX7_restore_6 : decode cX7_restore 6 = .ok (.ifCond .ne 6, 3) := by decide +kernel
theorem dX7_restore_9 : decode cX7_restore 9 = .ok (.bipush (-11), 2) := by decide +kernel
theorem dX7_restore_11 : decode cX7_restore 11 = .ok (.ireturn, 1) := by decide +kernel
theorem dX7_restore_12 : decode cX7_restore 12 = .ok (.aload_n 0, 1) := by decide +kernel
theorem dX7_restore_13 : decode cX7_restore 13 = .ok (.getfield 25, 3) := by decide +kernel
theorem dX7_restore_16 : decode cX7_restore 16 = .ok (.iload_n 1, 1) := by decide +kernel
theorem dX7_restore_17 : decode cX7_restore 17 = .ok (.baload, 1) := by decide +kernel
theorem dX7_restore_18 : decode cX7_restore 18 = .ok (.ifCond .ne 6, 3) := by decide +kernel
theorem dX7_restore_21 : decode cX7_restore 21 = .ok (.bipush (-13), 2) := by decide +kernel
theorem dX7_restore_23 : decode cX7_restore 23 = .ok (.ireturn, 1) := by decide +kernel
theorem dX7_restore_24 : decode cX7_restore 24 = .ok (.aload_n 0, 1) := by decide +kernel
theorem dX7_restore_25 : decode cX7_restore 25 = .ok (.getfield 12, 3) := by decide +kernel
theorem dX7_restore_28 : decode cX7_restore 28 = .ok (.aload_n 0, 1) := by decide +kernel
theorem dX7_restore_29 : decode cX7_restore 29 = .ok (.getfield 21, 3) := by decide +kernel
theorem dX7_restore_32 : decode cX7_restore 32 = .ok (.iload_n 1, 1) := by decide +kernel
theorem dX7_restore_33 : decode cX7_restore 33 = .ok (.aaload, 1) := by decide +kernel
theorem dX7_restore_34 : decode cX7_restore 34 = .ok (.invokevirtual 201, 3) := by decide +kernel
theorem dX7_restore_37 : decode cX7_restore 37 = .ok (.aload_n 0, 1) := by decide +kernel
theorem dX7_restore_38 : decode cX7_restore 38 = .ok (.getfield 12, 3) := by decide +kernel
theorem dX7_restore_41 : decode cX7_restore 41 = .ok (.getfield 154, 3) := by decide +kernel
theorem dX7_restore_44 : decode cX7_restore 44 = .ok (.ireturn, 1) := by decide +kernel
theorem dX7_checksum_0 : decode cX7_checksum 0 = .ok (.ldc2_w 212, 3) := by decide +kernel
theorem dX7_checksum_3 : decode cX7_checksum 3 = .ok (.lstore_n 1, 1) := by decide +kernel
theorem dX7_checksum_4 : decode cX7_checksum 4 = .ok (.lload_n 1, 1) := by decide +kernel
theorem dX7_checksum_5 : decode cX7_checksum 5 = .ok (.aload_n 0, 1) := by decide +kernel
theorem dX7_checksum_6 : decode cX7_checksum 6 = .ok (.getfield 12, 3) := by decide +kernel
theorem dX7_checksum_9 : decode cX7_checksum 9 = .ok (.getfield 154, 3) := by decide +kernel
theorem dX7_checksum_12 : decode cX7_checksum 12 = .ok (.i2l, 1) := by decide +kernel
theorem dX7_checksum_13 : decode cX7_checksum 13 = .ok (.invokestatic 214, 3) := by decide +kernel
theorem dX7_checksum_16 : decode cX7_checksum 16 = .ok (.lstore_n 1, 1) := by decide +kernel
theorem dX7_checksum_17 : decode cX7_checksum 17 = .ok (.lload_n 1, 1) := by decide +kernel
theorem dX7_checksum_18 : decode cX7_checksum 18 = .ok (.aload_n 0, 1) := by decide +kernel
theorem dX7_checksum_19 : decode cX7_checksum 19 = .ok (.getfield 12, 3) := by decide +kernel
theorem dX7_checksum_22 : decode cX7_checksum 22 = .ok (.getfield 68, 3) := by decide +kernel
theorem dX7_checksum_25 : decode cX7_checksum 25 = .ok (.i2l, 1) := by decide +kernel
theorem dX7_checksum_26 : decode cX7_checksum 26 = .ok (.invokestatic 214, 3) := by decide +kernel
theorem dX7_checksum_29 : decode cX7_checksum 29 = .ok (.lstore_n 1, 1) := by decide +kernel
theorem dX7_checksum_30 : decode cX7_checksum 30 = .ok (.iconst 0, 1) := by decide +kernel
theorem dX7_checksum_31 : decode cX7_checksum 31 = .ok (.istore_n 3, 1) := by decide +kernel
theorem dX7_checksum_32 : decode cX7_checksum 32 = .ok (.iload_n 3, 1) := by decide +kernel
theorem dX7_checksum_33 : decode cX7_checksum 33 = .ok (.aload_n 0, 1) := by decide +kernel
theorem dX7_checksum_34 : decode cX7_checksum 34 = .ok (.getfield 12, 3) := by decide +kernel
theorem dX7_checksum_37 : decode cX7_checksum 37 = .ok (.getfield 68, 3) := by decide +kernel
theorem dX7_checksum_40 : decode cX7_checksum 40 = .ok (.if_icmp .ge 16, 3) := by decide +kernel
theorem dX7_checksum_43 : decode cX7_checksum 43 = .ok (.aload_n 0, 1) := by decide +kernel
theorem dX7_checksum_44 : decode cX7_checksum 44 = .ok (.lload_n 1, 1) := by decide +kernel
theorem dX7_checksum_45 : decode cX7_checksum 45 = .ok (.iload_n 3, 1) := by decide +kernel
theorem dX7_checksum_46 : decode cX7_checksum 46 = .ok (.invokevirtual 218, 3) := by decide +kernel
theorem dX7_checksum_49 : decode cX7_checksum 49 = .ok (.lstore_n 1, 1) := by decide +kernel
theorem dX7_checksum_50 : decode cX7_checksum 50 = .ok (.iinc 3 1, 3) := by decide +kernel
theorem dX7_checksum_53 : decode cX7_checksum 53 = .ok (.goto (-21), 3) := by decide +kernel
theorem dX7_checksum_56 : decode cX7_checksum 56 = .ok (.iconst 0, 1) := by decide +kernel
theorem dX7_checksum_57 : decode cX7_checksum 57 = .ok (.istore_n 3, 1) := by decide +kernel
theorem dX7_checksum_58 : decode cX7_checksum 58 = .ok (.iload_n 3, 1) := by decide +kernel
theorem dX7_checksum_59 : decode cX7_checksum 59 = .ok (.aload_n 0, 1) := by decide +kernel
theorem dX7_checksum_60 : decode cX7_checksum 60 = .ok (.getfield 12, 3) := by decide +kernel
theorem dX7_checksum_63 : decode cX7_checksum 63 = .ok (.getfield 40, 3) := by decide +kernel
theorem dX7_checksum_66 : decode cX7_checksum 66 = .ok (.if_icmp .ge 23, 3) := by decide +kernel
theorem dX7_checksum_69 : decode cX7_checksum 69 = .ok (.lload_n 1, 1) := by decide +kernel
theorem dX7_checksum_70 : decode cX7_checksum 70 = .ok (.aload_n 0, 1) := by decide +kernel
theorem dX7_checksum_71 : decode cX7_checksum 71 = .ok (.getfield 12, 3) := by decide +kernel
theorem dX7_checksum_74 : decode cX7_checksum 74 = .ok (.iload_n 3, 1) := by decide +kernel
theorem dX7_checksum_75 : decode cX7_checksum 75 = .ok (.invokevirtual 195, 3) := by decide +kernel
theorem dX7_checksum_78 : decode cX7_checksum 78 = .ok (.i2l, 1) := by decide +kernel
theorem dX7_checksum_79 : decode cX7_checksum 79 = .ok (.invokestatic 214, 3) := by decide +kernel
theorem dX7_checksum_82 : decode cX7_checksum 82 = .ok (.lstore_n 1, 1) := by decide +kernel
theorem dX7_checksum_83 : decode cX7_checksum 83 = .ok (.iinc 3 1, 3) := by decide +kernel
theorem dX7_checksum_86 : decode cX7_checksum 86 = .ok (.goto (-28), 3) := by decide +kernel
theorem dX7_checksum_89 : decode cX7_checksum 89 = .ok (.lload_n 1, 1) := by decide +kernel
theorem dX7_checksum_90 : decode cX7_checksum 90 = .ok (.aload_n 0, 1) := by decide +kernel
theorem dX7_checksum_91 : decode cX7_checksum 91 = .ok (.getfield 12, 3) := by decide +kernel
theorem dX7_checksum_94 : decode cX7_checksum 94 = .ok (.getfield 142, 3) := by decide +kernel
theorem dX7_checksum_97 : decode cX7_checksum 97 = .ok (.getfield 207, 3) := by decide +kernel
theorem dX7_checksum_100 : decode cX7_checksum 100 = .ok (.i2l, 1) := by decide +kernel
theorem dX7_checksum_101 : decode cX7_checksum 101 = .ok (.invokestatic 214, 3) := by decide +kernel
theorem dX7_checksum_104 : decode cX7_checksum 104 = .ok (.lstore_n 1, 1) := by decide +kernel
theorem dX7_checksum_105 : decode cX7_checksum 105 = .ok (.iconst 0, 1) := by decide +kernel
theorem dX7_checksum_106 : decode cX7_checksum 106 = .ok (.istore_n 3, 1) := by decide +kernel
theorem dX7_checksum_107 : decode cX7_checksum 107 = .ok (.iload_n 3, 1) := by decide +kernel
theorem dX7_checksum_108 : decode cX7_checksum 108 = .ok (.aload_n 0, 1) := by decide +kernel
theorem dX7_checksum_109 : decode cX7_checksum 109 = .ok (.getfield 12, 3) := by decide +kernel
theorem dX7_checksum_112 : decode cX7_checksum 112 = .ok (.getfield 142, 3) := by decide +kernel
theorem dX7_checksum_115 : decode cX7_checksum 115 = .ok (.getfield 207, 3) := by decide +kernel
theorem dX7_checksum_118 : decode cX7_checksum 118 = .ok (.if_icmp .ge 43, 3) := by decide +kernel
theorem dX7_checksum_121 : decode cX7_checksum 121 = .ok (.iconst 0, 1) := by decide +kernel
theorem dX7_checksum_122 : decode cX7_checksum 122 = .ok (.istore 4, 2) := by decide +kernel
theorem dX7_checksum_124 : decode cX7_checksum 124 = .ok (.iload 4, 2) := by decide +kernel
theorem dX7_checksum_126 : decode cX7_checksum 126 = .ok (.iconst 4, 1) := by decide +kernel
theorem dX7_checksum_127 : decode cX7_checksum 127 = .ok (.if_icmp .ge 28, 3) := by decide +kernel
theorem dX7_checksum_130 : decode cX7_checksum 130 = .ok (.lload_n 1, 1) := by decide +kernel
theorem dX7_checksum_131 : decode cX7_checksum 131 = .ok (.aload_n 0, 1) := by decide +kernel
theorem dX7_checksum_132 : decode cX7_checksum 132 = .ok (.getfield 12, 3) := by decide +kernel
theorem dX7_checksum_135 : decode cX7_checksum 135 = .ok (.getfield 142, 3) := by decide +kernel
theorem dX7_checksum_138 : decode cX7_checksum 138 = .ok (.iload_n 3, 1) := by decide +kernel
theorem dX7_checksum_139 : decode cX7_checksum 139 = .ok (.iload 4, 2) := by decide +kernel
theorem dX7_checksum_141 : decode cX7_checksum 141 = .ok (.invokevirtual 208, 3) := by decide +kernel
theorem dX7_checksum_144 : decode cX7_checksum 144 = .ok (.i2l, 1) := by decide +kernel
theorem dX7_checksum_145 : decode cX7_checksum 145 = .ok (.invokestatic 214, 3) := by decide +kernel
theorem dX7_checksum_148 : decode cX7_checksum 148 = .ok (.lstore_n 1, 1) := by decide +kernel
theorem dX7_checksum_149 : decode cX7_checksum 149 = .ok (.iinc 4 1, 3) := by decide +kernel
theorem dX7_checksum_152 : decode cX7_checksum 152 = .ok (.goto (-28), 3) := by decide +kernel
theorem dX7_checksum_155 : decode cX7_checksum 155 = .ok (.iinc 3 1, 3) := by decide +kernel
theorem dX7_checksum_158 : decode cX7_checksum 158 = .ok (.goto (-51), 3) := by decide +kernel
theorem dX7_checksum_161 : decode cX7_checksum 161 = .ok (.lload_n 1, 1) := by decide +kernel
theorem dX7_checksum_162 : decode cX7_checksum 162 = .ok (.lreturn, 1) := by decide +kernel
theorem dX7_mixChange_0 : decode cX7_mixChange 0 = .ok (.lload_n 1, 1) := by decide +kernel
theorem dX7_mixChange_1 : decode cX7_mixChange 1 = .ok (.lstore 4, 2) := by decide +kernel
theorem dX7_mixChange_3 : decode cX7_mixChange 3 = .ok (.iconst 0, 1) := by decide +kernel
theorem dX7_mixChange_4 : decode cX7_mixChange 4 = .ok (.istore 6, 2) := by decide +kernel
theorem dX7_mixChange_6 : decode cX7_mixChange 6 = .ok (.iload 6, 2) := by decide +kernel
theorem dX7_mixChange_8 : decode cX7_mixChange 8 = .ok (.bipush 7, 2) := by decide +kernel
theorem dX7_mixChange_10 : decode cX7_mixChange 10 = .ok (.if_icmp .ge 24, 3) := by decide +kernel
theorem dX7_mixChange_13 : decode cX7_mixChange 13 = .ok (.lload 4, 2) := by decide +kernel
theorem dX7_mixChange_15 : decode cX7_mixChange 15 = .ok (.aload_n 0, 1) := by decide +kernel
theorem dX7_mixChange_16 : decode cX7_mixChange 16 = .ok (.iload_n 3, 1) := by decide +kernel
theorem dX7_mixChange_17 : decode cX7_mixChange 17 = .ok (.iload 6, 2) := by decide +kernel
theorem dX7_mixChange_19 : decode cX7_mixChange 19 = .ok (.invokevirtual 222, 3) := by decide +kernel
theorem dX7_mixChange_22 : decode cX7_mixChange 22 = .ok (.i2l, 1) := by decide +kernel
theorem dX7_mixChange_23 : decode cX7_mixChange 23 = .ok (.invokestatic 214, 3) := by decide +kernel
theorem dX7_mixChange_26 : decode cX7_mixChange 26 = .ok (.lstore 4, 2) := by decide +kernel
theorem dX7_mixChange_28 : decode cX7_mixChange 28 = .ok (.iinc 6 1, 3) := by decide +kernel
theorem dX7_mixChange_31 : decode cX7_mixChange 31 = .ok (.goto (-25), 3) := by decide +kernel
theorem dX7_mixChange_34 : decode cX7_mixChange 34 = .ok (.iconst 0, 1) := by decide +kernel
theorem dX7_mixChange_35 : decode cX7_mixChange 35 = .ok (.istore 6, 2) := by decide +kernel
theorem dX7_mixChange_37 : decode cX7_mixChange 37 = .ok (.iload 6, 2) := by decide +kernel
theorem dX7_mixChange_39 : decode cX7_mixChange 39 = .ok (.iconst 4, 1) := by decide +kernel
theorem dX7_mixChange_40 : decode cX7_mixChange 40 = .ok (.if_icmp .ge 24, 3) := by decide +kernel
theorem dX7_mixChange_43 : decode cX7_mixChange 43 = .ok (.lload 4, 2) := by decide +kernel
theorem dX7_mixChange_45 : decode cX7_mixChange 45 = .ok (.aload_n 0, 1) := by decide +kernel
theorem dX7_mixChange_46 : decode cX7_mixChange 46 = .ok (.iload_n 3, 1) := by decide +kernel
theorem dX7_mixChange_47 : decode cX7_mixChange 47 = .ok (.iload 6, 2) := by decide +kernel
theorem dX7_mixChange_49 : decode cX7_mixChange 49 = .ok (.invokevirtual 225, 3) := by decide +kernel
theorem dX7_mixChange_52 : decode cX7_mixChange 52 = .ok (.i2l, 1) := by decide +kernel
theorem dX7_mixChange_53 : decode cX7_mixChange 53 = .ok (.invokestatic 214, 3) := by decide +kernel
theorem dX7_mixChange_56 : decode cX7_mixChange 56 = .ok (.lstore 4, 2) := by decide +kernel
theorem dX7_mixChange_58 : decode cX7_mixChange 58 = .ok (.iinc 6 1, 3) := by decide +kernel
theorem dX7_mixChange_61 : decode cX7_mixChange 61 = .ok (.goto (-24), 3) := by decide +kernel
theorem dX7_mixChange_64 : decode cX7_mixChange 64 = .ok (.lload 4, 2) := by decide +kernel
theorem dX7_mixChange_66 : decode cX7_mixChange 66 = .ok (.aload_n 0, 1) := by decide +kernel
theorem dX7_mixChange_67 : decode cX7_mixChange 67 = .ok (.iload_n 3, 1) := by decide +kernel
theorem dX7_mixChange_68 : decode cX7_mixChange 68 = .ok (.iconst 0, 1) := by decide +kernel
theorem dX7_mixChange_69 : decode cX7_mixChange 69 = .ok (.invokevirtual 228, 3) := by decide +kernel
theorem dX7_mixChange_72 : decode cX7_mixChange 72 = .ok (.invokestatic 214, 3) := by decide +kernel
theorem dX7_mixChange_75 : decode cX7_mixChange 75 = .ok (.lstore 4, 2) := by decide +kernel
theorem dX7_mixChange_77 : decode cX7_mixChange 77 = .ok (.lload 4, 2) := by decide +kernel
theorem dX7_mixChange_79 : decode cX7_mixChange 79 = .ok (.aload_n 0, 1) := by decide +kernel
theorem dX7_mixChange_80 : decode cX7_mixChange 80 = .ok (.iload_n 3, 1) := by decide +kernel
theorem dX7_mixChange_81 : decode cX7_mixChange 81 = .ok (.iconst 1, 1) := by decide +kernel
theorem dX7_mixChange_82 : decode cX7_mixChange 82 = .ok (.invokevirtual 228, 3) := by decide +kernel
theorem dX7_mixChange_85 : decode cX7_mixChange 85 = .ok (.invokestatic 214, 3) := by decide +kernel
theorem dX7_mixChange_88 : decode cX7_mixChange 88 = .ok (.lreturn, 1) := by decide +kernel
theorem dX7_mix_0 : decode cX7_mix 0 = .ok (.ldc2_w 232, 3) := by decide +kernel
theorem dX7_mix_3 : decode cX7_mix 3 = .ok (.lload_n 0, 1) := by decide +kernel
theorem dX7_mix_4 : decode cX7_mix 4 = .ok (.lmul, 1) := by decide +kernel
theorem dX7_mix_5 : decode cX7_mix 5 = .ok (.lload_n 2, 1) := by decide +kernel
theorem dX7_mix_6 : decode cX7_mix 6 = .ok (.ladd, 1) := by decide +kernel
theorem dX7_mix_7 : decode cX7_mix 7 = .ok (.lreturn, 1) := by decide +kernel
theorem dX7_isWithin_0 : decode cX7_isWithin 0 = .ok (.iload_n 0, 1) := by decide +kernel
theorem dX7_isWithin_1 : decode cX7_isWithin 1 = .ok (.iload_n 1, 1) := by decide +kernel
theorem dX7_isWithin_2 : decode cX7_isWithin 2 = .ok (.if_icmp .lt 12, 3) := by decide +kernel
theorem dX7_isWithin_5 : decode cX7_isWithin 5 = .ok (.iload_n 0, 1) := by decide +kernel
theorem dX7_isWithin_6 : decode cX7_isWithin 6 = .ok (.iload_n 2, 1) := by decide +kernel
theorem dX7_isWithin_7 : decode cX7_isWithin 7 = .ok (.if_icmp .gt 7, 3) := by decide +kernel
theorem dX7_isWithin_10 : decode cX7_isWithin 10 = .ok (.iconst 1, 1) := by decide +kernel
theorem dX7_isWithin_11 : decode cX7_isWithin 11 = .ok (.goto 4, 3) := by decide +kernel
theorem dX7_isWithin_14 : decode cX7_isWithin 14 = .ok (.iconst 0, 1) := by decide +kernel
theorem dX7_isWithin_15 : decode cX7_isWithin 15 = .ok (.ireturn, 1) := by decide +kernel
theorem dX8_init_0 : decode cX8_init 0 = .ok (.aload_n 0, 1) := by decide +kernel
theorem dX8_init_1 : decode cX8_init 1 = .ok (.invokespecial 1, 3) := by decide +kernel
theorem dX8_init_4 : decode cX8_init 4 = .ok (.aload_n 0, 1) := by decide +kernel
theorem dX8_init_5 : decode cX8_init 5 = .ok (.sipush 257, 3) := by decide +kernel
theorem dX8_init_8 : decode cX8_init 8 = .ok (.newarray .int, 2) := by decide +kernel
theorem dX8_init_10 : decode cX8_init 10 = .ok (.putfield 7, 3) := by decide +kernel
theorem dX8_init_13 : decode cX8_init 13 = .ok (.aload_n 0, 1) := by decide +kernel
theorem dX8_init_14 : decode cX8_init 14 = .ok (.sipush 257, 3) := by decide +kernel
theorem dX8_init_17 : decode cX8_init 17 = .ok (.newarray .int, 2) := by decide +kernel
theorem dX8_init_19 : decode cX8_init 19 = .ok (.putfield 13, 3) := by decide +kernel
theorem dX8_init_22 : decode cX8_init 22 = .ok (.aload_n 0, 1) := by decide +kernel
theorem dX8_init_23 : decode cX8_init 23 = .ok (.sipush 514, 3) := by decide +kernel
theorem dX8_init_26 : decode cX8_init 26 = .ok (.newarray .int, 2) := by decide +kernel
theorem dX8_init_28 : decode cX8_init 28 = .ok (.putfield 16, 3) := by decide +kernel
theorem dX8_init_31 : decode cX8_init 31 = .ok (.aload_n 0, 1) := by decide +kernel
theorem dX8_init_32 : decode cX8_init 32 = .ok (.iconst 2, 1) := by decide +kernel
theorem dX8_init_33 : decode cX8_init 33 = .ok (.newarray .boolean, 2) := by decide +kernel
theorem dX8_init_35 : decode cX8_init 35 = .ok (.putfield 19, 3) := by decide +kernel
theorem dX8_init_38 : decode cX8_init 38 = .ok (.aload_n 0, 1) := by decide +kernel
theorem dX8_init_39 : decode cX8_init 39 = .ok (.bipush 60, 2) := by decide +kernel
theorem dX8_init_41 : decode cX8_init 41 = .ok (.newarray .int, 2) := by decide +kernel
theorem dX8_init_43 : decode cX8_init 43 = .ok (.putfield 23, 3) := by decide +kernel
theorem dX8_init_46 : decode cX8_init 46 = .ok (.aload_n 0, 1) := by decide +kernel
theorem dX8_init_47 : decode cX8_init 47 = .ok (.bipush 18, 2) := by decide +kernel
theorem dX8_init_49 : decode cX8_init 49 = .ok (.newarray .int, 2) := by decide +kernel
theorem dX8_init_51 : decode cX8_init 51 = .ok (.putfield 26, 3) := by decide +kernel
theorem dX8_init_54 : decode cX8_init 54 = .ok (.aload_n 0, 1) := by decide +kernel
theorem dX8_init_55 : decode cX8_init 55 = .ok (.sipush 2601, 3) := by decide +kernel
theorem dX8_init_58 : decode cX8_init 58 = .ok (.newarray .long, 2) := by decide +kernel
theorem dX8_init_60 : decode cX8_init 60 = .ok (.putfield 29, 3) := by decide +kernel
theorem dX8_init_63 : decode cX8_init 63 = .ok (.aload_n 0, 1) := by decide +kernel
theorem dX8_init_64 : decode cX8_init 64 = .ok (.getfield 7, 3) := by decide +kernel
theorem dX8_init_67 : decode cX8_init 67 = .ok (.iconst 0, 1) := by decide +kernel
theorem dX8_init_68 : decode cX8_init 68 = .ok (.iconst 4, 1) := by decide +kernel
theorem dX8_init_69 : decode cX8_init 69 = .ok (.iastore, 1) := by decide +kernel
theorem dX8_init_70 : decode cX8_init 70 = .ok (.aload_n 0, 1) := by decide +kernel
theorem dX8_init_71 : decode cX8_init 71 = .ok (.getfield 7, 3) := by decide +kernel
theorem dX8_init_74 : decode cX8_init 74 = .ok (.iconst 2, 1) := by decide +kernel
theorem dX8_init_75 : decode cX8_init 75 = .ok (.bipush 50, 2) := by decide +kernel
theorem dX8_init_77 : decode cX8_init 77 = .ok (.iastore, 1) := by decide +kernel
theorem dX8_init_78 : decode cX8_init 78 = .ok (.return_, 1) := by decide +kernel
theorem dX8_in_0 : decode cX8_in 0 = .ok (.iload_n 0, 1) := by decide +kernel
theorem dX8_in_1 : decode cX8_in 1 = .ok (.iload_n 1, 1) := by decide +kernel
theorem dX8_in_2 : decode cX8_in 2 = .ok (.if_icmp .lt 12, 3) := by decide +kernel
theorem dX8_in_5 : decode cX8_in 5 = .ok (.iload_n 0, 1) := by decide +kernel
theorem dX8_in_6 : decode cX8_in 6 = .ok (.iload_n 2, 1) := by decide +kernel
theorem dX8_in_7 : decode cX8_in 7 = .ok (.if_icmp .gt 7, 3) := by decide +kernel
theorem dX8_in_10 : decode cX8_in 10 = .ok (.iconst 1, 1) := by decide +kernel
theorem dX8_in_11 : decode cX8_in 11 = .ok (.goto 4, 3) := by decide +kernel
theorem dX8_in_14 : decode cX8_in 14 = .ok (.iconst 0, 1) := by decide +kernel
theorem dX8_in_15 : decode cX8_in 15 = .ok (.ireturn, 1) := by decide +kernel
theorem dX8_at_0 : decode cX8_at 0 = .ok (.bipush 92, 2) := by decide +kernel
theorem dX8_at_2 : decode cX8_at 2 = .ok (.bipush 33, 2) := by decide +kernel
theorem dX8_at_4 : decode cX8_at 4 = .ok (.iload_n 0, 1) := by decide +kernel
theorem dX8_at_5 : decode cX8_at 5 = .ok (.imul, 1) := by decide +kernel
theorem dX8_at_6 : decode cX8_at 6 = .ok (.iadd, 1) := by decide +kernel
theorem dX8_at_7 : decode cX8_at 7 = .ok (.iload_n 1, 1) := by decide +kernel
theorem dX8_at_8 : decode cX8_at 8 = .ok (.iadd, 1) := by decide +kernel
theorem dX8_at_9 : decode cX8_at 9 = .ok (.ireturn, 1) := by decide +kernel
theorem dX8_stageAt_0 : decode cX8_stageAt 0 = .ok (.iload_n 0, 1) := by decide +kernel
theorem dX8_stageAt_1 : decode cX8_stageAt 1 = .ok (.bipush 9, 2) := by decide +kernel
theorem dX8_stageAt_3 : decode cX8_stageAt 3 = .ok (.iconst 4, 1) := by decide +kernel
theorem dX8_stageAt_4 : decode cX8_stageAt 4 = .ok (.iload_n 1, 1) := by decide +kernel
theorem dX8_stageAt_5 : decode cX8_stageAt 5 = .ok (.imul, 1) := by decide +kernel
theorem dX8_stageAt_6 : decode cX8_stageAt 6 = .ok (.iadd, 1) := by decide +kernel
theorem dX8_stageAt_7 : decode cX8_stageAt 7 = .ok (.iload_n 2, 1) := by decide +kernel
theorem dX8_stageAt_8 : decode cX8_stageAt 8 = .ok (.iadd, 1) := by decide +kernel
theorem dX8_stageAt_9 : decode cX8_stageAt 9 = .ok (.invokestatic 33, 3) := by decide +kernel
theorem dX8_stageAt_12 : decode cX8_stageAt 12 = .ok (.ireturn, 1) := by decide +kernel
theorem dX8_isChange_0 : decode cX8_isChange 0 = .ok (.iload_n 1, 1) := by decide +kernel
theorem dX8_isChange_1 : decode cX8_isChange 1 = .ok (.iconst 0, 1) := by decide +kernel
theorem dX8_isChange_2 : decode cX8_isChange 2 = .ok (.aload_n 0, 1) := by decide +kernel
theorem dX8_isChange_3 : decode cX8_isChange 3 = .ok (.getfield 7, 3) := by decide +kernel
theorem dX8_isChange_6 : decode cX8_isChange 6 = .ok (.bipush 10, 2) := by decide +kernel
theorem dX8_isChange_8 : decode cX8_isChange 8 = .ok (.iaload, 1) := by decide +kernel
theorem dX8_isChange_9 : decode cX8_isChange 9 = .ok (.iconst 1, 1) := by decide +kernel
theorem dX8_isChange_10 : decode cX8_isChange 10 = .ok (.isub, 1) := by decide +kernel
theorem dX8_isChange_11 : decode cX8_isChange 11 = .ok (.invokestatic 37, 3) := by decide +kernel
theorem dX8_isChange_14 : decode cX8_isChange 14 = .ok (.ireturn, 1) := by decide +kernel
theorem dX8_isCell_0 : decode cX8_isCell 0 = .ok (.iload_n 1, 1) := by decide +kernel
theorem dX8_isCell_1 : decode cX8_isCell 1 = .ok (.iconst 0, 1) := by decide +kernel
theorem dX8_isCell_2 : decode cX8_isCell 2 = .ok (.aload_n 0, 1) := by decide +kernel
theorem dX8_isCell_3 : decode cX8_isCell 3 = .ok (.getfield 7, 3) := by decide +kernel
theorem dX8_isCell_6 : decode cX8_isCell 6 = .ok (.iconst 0, 1) := by decide +kernel
theorem dX8_isCell_7 : decode cX8_isCell 7 = .ok (.iaload, 1) := by decide +kernel
theorem dX8_isCell_8 : decode cX8_isCell 8 = .ok (.iconst 1, 1) := by decide +kernel
theorem dX8_isCell_9 : decode cX8_isCell 9 = .ok (.isub, 1) := by decide +kernel
theorem dX8_isCell_10 : decode cX8_isCell 10 = .ok (.invokestatic 37, 3) := by decide +kernel
theorem dX8_isCell_13 : decode cX8_isCell 13 = .ok (.ireturn, 1) := by decide +kernel
theorem dX8_puts_0 : decode cX8_puts 0 = .ok (.aload_n 0, 1) := by decide +kernel
theorem dX8_puts_1 : decode cX8_puts 1 = .ok (.getfield 7, 3) := by decide +kernel
theorem dX8_puts_4 : decode cX8_puts 4 = .ok (.iload_n 1, 1) := by decide +kernel
theorem dX8_puts_5 : decode cX8_puts 5 = .ok (.iaload, 1) := by decide +kernel
theorem dX8_puts_6 : decode cX8_puts 6 = .ok (.istore_n 3, 1) := by decide +kernel
theorem dX8_puts_7 : decode cX8_puts 7 = .ok (.aload_n 0, 1) := by decide +kernel
theorem dX8_puts_8 : decode cX8_puts 8 = .ok (.getfield 7, 3) := by decide +kernel
theorem dX8_puts_11 : decode cX8_puts 11 = .ok (.iload_n 1, 1) := by decide +kernel
theorem dX8_puts_12 : decode cX8_puts 12 = .ok (.iload_n 2, 1) := by decide +kernel
theorem dX8_puts_13 : decode cX8_puts 13 = .ok (.iastore, 1) := by decide +kernel
theorem dX8_puts_14 : decode cX8_puts 14 = .ok (.iload_n 3, 1) := by decide +kernel
theorem dX8_puts_15 : decode cX8_puts 15 = .ok (.ireturn, 1) := by decide +kernel
theorem dX8_begin_0 : decode cX8_begin 0 = .ok (.iload_n 1, 1) := by decide +kernel
theorem dX8_begin_1 : decode cX8_begin 1 = .ok (.iconst 1, 1) := by decide +kernel
theorem dX8_begin_2 : decode cX8_begin 2 = .ok (.bipush 8, 2) := by decide +kernel
theorem dX8_begin_4 : decode cX8_begin 4 = .ok (.invokestatic 37, 3) := by decide +kernel
theorem dX8_begin_7 : decode cX8_begin 7 = .ok (.ifCond .ne 6, 3) := by decide +kernel
theorem dX8_begin_10 : decode cX8_begin 10 = .ok (.bipush (-12), 2) := by decide +kernel
theorem dX8_begin_12 : decode cX8_begin 12 = .ok (.ireturn, 1) := by decide +kernel
theorem dX8_begin_13 : decode cX8_begin 13 = .ok (.aload_n 0, 1) := by decide +kernel
theorem dX8_begin_14 : decode cX8_begin 14 = .ok (.getfield 7, 3) := by decide +kernel
theorem dX8_begin_17 : decode cX8_begin 17 = .ok (.iconst 2, 1) := by decide +kernel
theorem dX8_begin_18 : decode cX8_begin 18 = .ok (.iaload, 1) := by decide +kernel
theorem dX8_begin_19 : decode cX8_begin 19 = .ok (.istore_n 2, 1) := by decide +kernel
theorem dX8_begin_20 : decode cX8_begin 20 = .ok (.aload_n 0, 1) := by decide +kernel
theorem dX8_begin_21 : decode cX8_begin 21 = .ok (.getfield 7, 3) := by decide +kernel
theorem dX8_begin_24 : decode cX8_begin 24 = .ok (.iconst 0, 1) := by decide +kernel
theorem dX8_begin_25 : decode cX8_begin 25 = .ok (.iaload, 1) := by decide +kernel
theorem dX8_begin_26 : decode cX8_begin 26 = .ok (.istore_n 3, 1) := by decide +kernel
theorem dX8_begin_27 : decode cX8_begin 27 = .ok (.iconst 0, 1) := by decide +kernel
theorem dX8_begin_28 : decode cX8_begin 28 = .ok (.istore 4, 2) := by decide +kernel
theorem dX8_begin_30 : decode cX8_begin 30 = .ok (.iload 4, 2) := by decide +kernel
theorem dX8_begin_32 : decode cX8_begin 32 = .ok (.sipush 257, 3) := by decide +kernel
theorem dX8_begin_35 : decode cX8_begin 35 = .ok (.if_icmp .ge 17, 3) := by decide +kernel
theorem dX8_begin_38 : decode cX8_begin 38 = .ok (.aload_n 0, 1) := by decide +kernel
theorem dX8_begin_39 : decode cX8_begin 39 = .ok (.getfield 7, 3) := by decide +kernel
theorem dX8_begin_42 : decode cX8_begin 42 = .ok (.iload 4, 2) := by decide +kernel
theorem dX8_begin_44 : decode cX8_begin 44 = .ok (.iconst 0, 1) := by decide +kernel
theorem dX8_begin_45 : decode cX8_begin 45 = .ok (.iastore, 1) := by decide +kernel
theorem dX8_begin_46 : decode cX8_begin 46 = .ok (.iinc 4 1, 3) := by decide +kernel
theorem dX8_begin_49 : decode cX8_begin 49 = .ok (.goto (-19), 3) := by decide +kernel
theorem dX8_begin_52 : decode cX8_begin 52 = .ok (.aload_n 0, 1) := by decide +kernel
theorem dX8_begin_53 : decode cX8_begin 53 = .ok (.getfield 7, 3) := by decide +kernel
theorem dX8_begin_56 : decode cX8_begin 56 = .ok (.iconst 0, 1) := by decide +kernel
theorem dX8_begin_57 : decode cX8_begin 57 = .ok (.iload_n 1, 1) := by decide +kernel
theorem dX8_begin_58 : decode cX8_begin 58 = .ok (.iastore, 1) := by decide +kernel
theorem dX8_begin_59 : decode cX8_begin 59 = .ok (.aload_n 0, 1) := by decide +kernel
theorem dX8_begin_60 : decode cX8_begin 60 = .ok (.getfield 7, 3) := by decide +kernel
theorem dX8_begin_63 : decode cX8_begin 63 = .ok (.iconst 2, 1) := by decide +kernel
theorem dX8_begin_64 : decode cX8_begin 64 = .ok (.iload_n 2, 1) := by decide +kernel
theorem dX8_begin_65 : decode cX8_begin 65 = .ok (.iastore, 1) := by decide +kernel
theorem dX8_begin_66 : decode cX8_begin 66 = .ok (.iload_n 3, 1) := by decide +kernel
theorem dX8_begin_67 : decode cX8_begin 67 = .ok (.ireturn, 1) := by decide +kernel
theorem dX8_setLimit_0 : decode cX8_setLimit 0 = .ok (.iload_n 1, 1) := by decide +kernel
theorem dX8_setLimit_1 : decode cX8_setLimit 1 = .ok (.iconst 0, 1) := by decide +kernel
theorem dX8_setLimit_2 : decode cX8_setLimit 2 = .ok (.sipush 1000, 3) := by decide +kernel
theorem dX8_setLimit_5 : decode cX8_setLimit 5 = .ok (.invokestatic 37, 3) := by decide +kernel
theorem dX8_setLimit_8 : decode cX8_setLimit 8 = .ok (.ifCond .eq 12, 3) := by decide +kernel
theorem dX8_setLimit_11 : decode cX8_setLimit 11 = .ok (.aload_n 0, 1) := by decide +kernel
theorem dX8_setLimit_12 : decode cX8_setLimit 12 = .ok (.iconst 2, 1) := by decide +kernel
theorem dX8_setLimit_13 : decode cX8_setLimit 13 = .ok (.iload_n 1, 1) := by decide +kernel
theorem dX8_setLimit_14 : decode cX8_setLimit 14 = .ok (.invokevirtual 41, 3) := by decide +kernel
theorem dX8_setLimit_17 : decode cX8_setLimit 17 = .ok (.goto 5, 3) := by decide +kernel
theorem dX8_setLimit_20 : decode cX8_setLimit 20 = .ok (.bipush (-12), 2) := by decide +kernel
theorem dX8_setLimit_22 : decode cX8_setLimit 22 = .ok (.ireturn, 1) := by decide +kernel
theorem dX8_freeze_0 : decode cX8_freeze 0 = .ok (.iload_n 1, 1) := by decide +kernel
theorem dX8_freeze_1 : decode cX8_freeze 1 = .ok (.iconst 0, 1) := by decide +kernel
theorem dX8_freeze_2 : decode cX8_freeze 2 = .ok (.sipush 167, 3) := by decide +kernel
theorem dX8_freeze_5 : decode cX8_freeze 5 = .ok (.invokestatic 37, 3) := by decide +kernel
theorem dX8_freeze_8 : decode cX8_freeze 8 = .ok (.ifCond .eq 16, 3) := by decide +kernel
theorem dX8_freeze_11 : decode cX8_freeze 11 = .ok (.iload_n 2, 1) := by decide +kernel
theorem dX8_freeze_12 : decode cX8_freeze 12 = .ok (.iload_n 1, 1) := by decide +kernel
theorem dX8_freeze_13 : decode cX8_freeze 13 = .ok (.iconst 1, 1) := by decide +kernel
theorem dX8_freeze_14 : decode cX8_freeze 14 = .ok (.iadd, 1) := by decide +kernel
theorem dX8_freeze_15 : decode cX8_freeze 15 = .ok (.sipush 168, 3) := by decide +kernel
theorem dX8_freeze_18 : decode cX8_freeze 18 = .ok (.invokestatic 37, 3) := by decide +kernel
theorem dX8_freeze_21 : decode cX8_freeze 21 = .ok (.ifCond .ne 6, 3) := by decide +kernel
theorem dX8_freeze_24 : decode cX8_freeze 24 = .ok (.bipush (-12), 2) := by decide +kernel
theorem dX8_freeze_26 : decode cX8_freeze 26 = .ok (.ireturn, 1) := by decide +kernel
theorem dX8_freeze_27 : decode cX8_freeze 27 = .ok (.aload_n 0, 1) := by decide +kernel
theorem dX8_freeze_28 : decode cX8_freeze 28 = .ok (.getfield 7, 3) := by decide +kernel
theorem dX8_freeze_31 : decode cX8_freeze 31 = .ok (.iconst 3, 1) := by decide +kernel
theorem dX8_freeze_32 : decode cX8_freeze 32 = .ok (.iaload, 1) := by decide +kernel
theorem dX8_freeze_33 : decode cX8_freeze 33 = .ok (.iconst 3, 1) := by decide +kernel
theorem dX8_freeze_34 : decode cX8_freeze 34 = .ok (.if_icmp .ne 6, 3) := by decide +kernel
theorem dX8_freeze_37 : decode cX8_freeze 37 = .ok (.bipush (-14), 2) := by decide +kernel
theorem dX8_freeze_39 : decode cX8_freeze 39 = .ok (.ireturn, 1) := by decide +kernel
theorem dX8_freeze_40 : decode cX8_freeze 40 = .ok (.aload_n 0, 1) := by decide +kernel
theorem dX8_freeze_41 : decode cX8_freeze 41 = .ok (.getfield 7, 3) := by decide +kernel
theorem dX8_freeze_44 : decode cX8_freeze 44 = .ok (.iconst 4, 1) := by decide +kernel
theorem dX8_freeze_45 : decode cX8_freeze 45 = .ok (.iconst 2, 1) := by decide +kernel
theorem dX8_freeze_46 : decode cX8_freeze 46 = .ok (.aload_n 0, 1) := by decide +kernel
theorem dX8_freeze_47 : decode cX8_freeze 47 = .ok (.getfield 7, 3) := by decide +kernel
theorem dX8_freeze_50 : decode cX8_freeze 50 = .ok (.iconst 3, 1) := by decide +kernel
theorem dX8_freeze_51 : decode cX8_freeze 51 = .ok (.iaload, 1) := by decide +kernel
theorem dX8_freeze_52 : decode cX8_freeze 52 = .ok (.imul, 1) := by decide +kernel
theorem dX8_freeze_53 : decode cX8_freeze 53 = .ok (.iadd, 1) := by decide +kernel
theorem dX8_freeze_54 : decode cX8_freeze 54 = .ok (.iload_n 1, 1) := by decide +kernel
theorem dX8_freeze_55 : decode cX8_freeze 55 = .ok (.iastore, 1) := by decide +kernel
theorem dX8_freeze_56 : decode cX8_freeze 56 = .ok (.aload_n 0, 1) := by decide +kernel
theorem dX8_freeze_57 : decode cX8_freeze 57 = .ok (.getfield 7, 3) := by decide +kernel
theorem dX8_freeze_60 : decode cX8_freeze 60 = .ok (.iconst 4, 1) := by decide +kernel
theorem dX8_freeze_61 : decode cX8_freeze 61 = .ok (.iconst 2, 1) := by decide +kernel
theorem dX8_freeze_62 : decode cX8_freeze 62 = .ok (.aload_n 0, 1) := by decide +kernel
theorem dX8_freeze_63 : decode cX8_freeze 63 = .ok (.getfield 7, 3) := by decide +kernel
theorem dX8_freeze_66 : decode cX8_freeze 66 = .ok (.iconst 3, 1) := by decide +kernel
theorem dX8_freeze_67 : decode cX8_freeze 67 = .ok (.iaload, 1) := by decide +kernel
theorem dX8_freeze_68 : decode cX8_freeze 68 = .ok (.imul, 1) := by decide +kernel
theorem dX8_freeze_69 : decode cX8_freeze 69 = .ok (.iadd, 1) := by decide +kernel
theorem dX8_freeze_70 : decode cX8_freeze 70 = .ok (.iconst 1, 1) := by decide +kernel
theorem dX8_freeze_71 : decode cX8_freeze 71 = .ok (.iadd, 1) := by decide +kernel
theorem dX8_freeze_72 : decode cX8_freeze 72 = .ok (.iload_n 2, 1) := by decide +kernel
theorem dX8_freeze_73 : decode cX8_freeze 73 = .ok (.iastore, 1) := by decide +kernel
theorem dX8_freeze_74 : decode cX8_freeze 74 = .ok (.aload_n 0, 1) := by decide +kernel
theorem dX8_freeze_75 : decode cX8_freeze 75 = .ok (.getfield 7, 3) := by decide +kernel
theorem dX8_freeze_78 : decode cX8_freeze 78 = .ok (.iconst 3, 1) := by decide +kernel
theorem dX8_freeze_79 : decode cX8_freeze 79 = .ok (.dup2, 1) := by decide +kernel
theorem dX8_freeze_80 : decode cX8_freeze 80 = .ok (.iaload, 1) := by decide +kernel
theorem dX8_freeze_81 : decode cX8_freeze 81 = .ok (.iconst 1, 1) := by decide +kernel
theorem dX8_freeze_82 : decode cX8_freeze 82 = .ok (.iadd, 1) := by decide +kernel
theorem dX8_freeze_83 : decode cX8_freeze 83 = .ok (.iastore, 1) := by decide +kernel
theorem dX8_freeze_84 : decode cX8_freeze 84 = .ok (.aload_n 0, 1) := by decide +kernel
theorem dX8_freeze_85 : decode cX8_freeze 85 = .ok (.getfield 7, 3) := by decide +kernel
theorem dX8_freeze_88 : decode cX8_freeze 88 = .ok (.iconst 3, 1) := by decide +kernel
theorem dX8_freeze_89 : decode cX8_freeze 89 = .ok (.iaload, 1) := by decide +kernel
theorem dX8_freeze_90 : decode cX8_freeze 90 = .ok (.ireturn, 1) := by decide +kernel
theorem dX8_thaw_0 : decode cX8_thaw 0 = .ok (.aload_n 0, 1) := by decide +kernel
theorem dX8_thaw_1 : decode cX8_thaw 1 = .ok (.iconst 3, 1) := by decide +kernel
theorem dX8_thaw_2 : decode cX8_thaw 2 = .ok (.iconst 0, 1) := by decide +kernel
theorem dX8_thaw_3 : decode cX8_thaw 3 = .ok (.invokevirtual 41, 3) := by decide +kernel
theorem dX8_thaw_6 : decode cX8_thaw 6 = .ok (.ireturn, 1) := by decide +kernel
theorem dX8_addChange_0 : decode cX8_addChange 0 = .ok (.aload_n 0, 1) := by decide +kernel
theorem dX8_addChange_1 : decode cX8_addChange 1 = .ok (.getfield 7, 3) := by decide +kernel
theorem dX8_addChange_4 : decode cX8_addChange 4 = .ok (.bipush 10, 2) := by decide +kernel
theorem dX8_addChange_6 : decode cX8_addChange 6 = .ok (.iaload, 1) := by decide +kernel
theorem dX8_addChange_7 : decode cX8_addChange 7 = .ok (.iconst 5, 1) := by decide +kernel
theorem dX8_addChange_8 : decode cX8_addChange 8 = .ok (.if_icmp .ne 6, 3) := by decide +kernel
theorem dX8_addChange_11 : decode cX8_addChange 11 = .ok (.bipush (-14), 2) := by decide +kernel
theorem dX8_addChange_13 : decode cX8_addChange 13 = .ok (.ireturn, 1) := by decide +kernel
theorem dX8_addChange_14 : decode cX8_addChange 14 = .ok (.aload_n 0, 1) := by decide +kernel
theorem dX8_addChange_15 : decode cX8_addChange 15 = .ok (.getfield 7, 3) := by decide +kernel
theorem dX8_addChange_18 : decode cX8_addChange 18 = .ok (.bipush 10, 2) := by decide +kernel
theorem dX8_addChange_20 : decode cX8_addChange 20 = .ok (.iaload, 1) := by decide +kernel
theorem dX8_addChange_21 : decode cX8_addChange 21 = .ok (.istore_n 2, 1) := by decide +kernel
theorem dX8_addChange_22 : decode cX8_addChange 22 = .ok (.iconst 0, 1) := by decide +kernel
theorem dX8_addChange_23 : decode cX8_addChange 23 = .ok (.istore_n 3, 1) := by decide +kernel
theorem dX8_addChange_24 : decode cX8_addChange 24 = .ok (.iload_n 3, 1) := by decide +kernel
theorem dX8_addChange_25 : decode cX8_addChange 25 = .ok (.bipush 33, 2) := by decide +kernel
theorem dX8_addChange_27 : decode cX8_addChange 27 = .ok (.if_icmp .ge 20, 3) := by decide +kernel
theorem dX8_addChange_30 : decode cX8_addChange 30 = .ok (.aload_n 0, 1) := by decide +kernel
theorem dX8_addChange_31 : decode cX8_addChange 31 = .ok (.getfield 7, 3) := by decide +kernel
theorem dX8_addChange_34 : decode cX8_addChange 34 = .ok (.iload_n 2, 1) := by decide +kernel
theorem dX8_addChange_35 : decode cX8_addChange 35 = .ok (.iload_n 3, 1) := by decide +kernel
theorem dX8_addChange_36 : decode cX8_addChange 36 = .ok (.invokestatic 33, 3) := by decide +kernel
theorem dX8_addChange_39 : decode cX8_addChange 39 = .ok (.iconst 0, 1) := by decide +kernel
theorem dX8_addChange_40 : decode cX8_addChange 40 = .ok (.iastore, 1) := by decide +kernel
theorem dX8_addChange_41 : decode cX8_addChange 41 = .ok (.iinc 3 1, 3) := by decide +kernel
theorem dX8_addChange_44 : decode cX8_addChange 44 = .ok (.goto (-20), 3) := by decide +kernel
theorem dX8_addChange_47 : decode cX8_addChange 47 = .ok (.aload_n 0, 1) := by decide +kernel
theorem dX8_addChange_48 : decode cX8_addChange 48 = .ok (.getfield 7, 3) := by decide +kernel
theorem dX8_addChange_51 : decode cX8_addChange 51 = .ok (.iload_n 2, 1) := by decide +kernel
theorem dX8_addChange_52 : decode cX8_addChange 52 = .ok (.iconst 0, 1) := by decide +kernel
theorem dX8_addChange_53 : decode cX8_addChange 53 = .ok (.invokestatic 33, 3) := by decide +kernel
theorem dX8_addChange_56 : decode cX8_addChange 56 = .ok (.iload_n 1, 1) := by decide +kernel
theorem dX8_addChange_57 : decode cX8_addChange 57 = .ok (.ifCond .eq 7, 3) := by decide +kernel
theorem dX8_addChange_60 : decode cX8_addChange 60 = .ok (.iconst 1, 1) := by decide +kernel
theorem dX8_addChange_61 : decode cX8_addChange 61 = .ok (.goto 4, 3) := by decide +kernel
theorem dX8_addChange_64 : decode cX8_addChange 64 = .ok (.iconst 0, 1) := by decide +kernel
theorem dX8_addChange_65 : decode cX8_addChange 65 = .ok (.iastore, 1) := by decide +kernel
theorem dX8_addChange_66 : decode cX8_addChange 66 = .ok (.aload_n 0, 1) := by decide +kernel
theorem dX8_addChange_67 : decode cX8_addChange 67 = .ok (.getfield 7, 3) := by decide +kernel
theorem dX8_addChange_70 : decode cX8_addChange 70 = .ok (.bipush 10, 2) := by decide +kernel
theorem dX8_addChange_72 : decode cX8_addChange 72 = .ok (.dup2, 1) := by decide +kernel
theorem dX8_addChange_73 : decode cX8_addChange 73 = .ok (.iaload, 1) := by decide +kernel
theorem dX8_addChange_74 : decode cX8_addChange 74 = .ok (.iconst 1, 1) := by decide +kernel
theorem dX8_addChange_75 : decode cX8_addChange 75 = .ok (.iadd, 1) := by decide +kernel
theorem dX8_addChange_76 : decode cX8_addChange 76 = .ok (.iastore, 1) := by decide +kernel
theorem dX8_addChange_77 : decode cX8_addChange 77 = .ok (.iload_n 2, 1) := by decide +kernel
theorem dX8_addChange_78 : decode cX8_addChange 78 = .ok (.ireturn, 1) := by decide +kernel
theorem dX8_cellsOf_0 : decode cX8_cellsOf 0 = .ok (.iconst 0, 1) := by decide +kernel
theorem dX8_cellsOf_1 : decode cX8_cellsOf 1 = .ok (.istore_n 3, 1) := by decide +kernel
theorem dX8_cellsOf_2 : decode cX8_cellsOf 2 = .ok (.iconst 0, 1) := by decide +kernel
theorem dX8_cellsOf_3 : decode cX8_cellsOf 3 = .ok (.istore 4, 2) := by decide +kernel
theorem dX8_cellsOf_5 : decode cX8_cellsOf 5 = .ok (.iload 4, 2) := by decide +kernel
theorem dX8_cellsOf_7 : decode cX8_cellsOf 7 = .ok (.iload_n 2, 1) := by decide +kernel
theorem dX8_cellsOf_8 : decode cX8_cellsOf 8 = .ok (.if_icmp .ge 24, 3) := by decide +kernel
theorem dX8_cellsOf_11 : decode cX8_cellsOf 11 = .ok (.iload_n 3, 1) := by decide +kernel
theorem dX8_cellsOf_12 : decode cX8_cellsOf 12 = .ok (.aload_n 0, 1) := by decide +kernel
theorem dX8_cellsOf_13 : decode cX8_cellsOf 13 = .ok (.getfield 7, 3) := by decide +kernel
theorem dX8_cellsOf_16 : decode cX8_cellsOf 16 = .ok (.iload_n 1, 1) := by decide +kernel
theorem dX8_cellsOf_17 : decode cX8_cellsOf 17 = .ok (.iload 4, 2) := by decide +kernel
theorem dX8_cellsOf_19 : decode cX8_cellsOf 19 = .ok (.iconst 0, 1) := by decide +kernel
theorem dX8_cellsOf_20 : decode cX8_cellsOf 20 = .ok (.invokestatic 44, 3) := by decide +kernel
theorem dX8_cellsOf_23 : decode cX8_cellsOf 23 = .ok (.iaload, 1) := by decide +kernel
theorem dX8_cellsOf_24 : decode cX8_cellsOf 24 = .ok (.ior, 1) := by decide +kernel
theorem dX8_cellsOf_25 : decode cX8_cellsOf 25 = .ok (.istore_n 3, 1) := by decide +kernel
theorem dX8_cellsOf_26 : decode cX8_cellsOf 26 = .ok (.iinc 4 1, 3) := by decide +kernel
theorem dX8_cellsOf_29 : decode cX8_cellsOf 29 = .ok (.goto (-24), 3) := by decide +kernel
theorem dX8_cellsOf_32 : decode cX8_cellsOf 32 = .ok (.iload_n 3, 1) := by decide +kernel
theorem dX8_cellsOf_33 : decode cX8_cellsOf 33 = .ok (.ireturn, 1) := by decide +kernel
theorem dX8_adds_0 : decode cX8_adds 0 = .ok (.aload_n 0, 1) := by decide +kernel
theorem dX8_adds_1 : decode cX8_adds 1 = .ok (.getfield 7, 3) := by decide +kernel
theorem dX8_adds_4 : decode cX8_adds 4 = .ok (.iload_n 1, 1) := by decide +kernel
theorem dX8_adds_5 : decode cX8_adds 5 = .ok (.iconst 2, 1) := by decide +kernel
theorem dX8_adds_6 : decode cX8_adds 6 = .ok (.invokestatic 33, 3) := by decide +kernel
theorem dX8_adds_9 : decode cX8_adds 9 = .ok (.iaload, 1) := by decide +kernel
theorem dX8_adds_10 : decode cX8_adds 10 = .ok (.istore 5, 2) := by decide +kernel
theorem dX8_adds_12 : decode cX8_adds 12 = .ok (.aload_n 0, 1) := by decide +kernel
theorem dX8_adds_13 : decode cX8_adds 13 = .ok (.getfield 7, 3) := by decide +kernel
theorem dX8_adds_16 : decode cX8_adds 16 = .ok (.iload_n 1, 1) := by decide +kernel
theorem dX8_adds_17 : decode cX8_adds 17 = .ok (.iload 5, 2) := by decide +kernel
theorem dX8_adds_19 : decode cX8_adds 19 = .ok (.iconst 0, 1) := by decide +kernel
theorem dX8_adds_20 : decode cX8_adds 20 = .ok (.invokestatic 44, 3) := by decide +kernel
theorem dX8_adds_23 : decode cX8_adds 23 = .ok (.iload_n 2, 1) := by decide +kernel
theorem dX8_adds_24 : decode cX8_adds 24 = .ok (.iastore, 1) := by decide +kernel
theorem dX8_adds_25 : decode cX8_adds 25 = .ok (.aload_n 0, 1) := by decide +kernel
theorem dX8_adds_26 : decode cX8_adds 26 = .ok (.getfield 7, 3) := by decide +kernel
theorem dX8_adds_29 : decode cX8_adds 29 = .ok (.iload_n 1, 1) := by decide +kernel
theorem dX8_adds_30 : decode cX8_adds 30 = .ok (.iload 5, 2) := by decide +kernel
theorem dX8_adds_32 : decode cX8_adds 32 = .ok (.iconst 1, 1) := by decide +kernel
theorem dX8_adds_33 : decode cX8_adds 33 = .ok (.invokestatic 44, 3) := by decide +kernel
theorem dX8_adds_36 : decode cX8_adds 36 = .ok (.iload_n 3, 1) := by decide +kernel
theorem dX8_adds_37 : decode cX8_adds 37 = .ok (.iastore, 1) := by decide +kernel
theorem dX8_adds_38 : decode cX8_adds 38 = .ok (.aload_n 0, 1) := by decide +kernel
theorem dX8_adds_39 : decode cX8_adds 39 = .ok (.getfield 7, 3) := by decide +kernel
theorem dX8_adds_42 : decode cX8_adds 42 = .ok (.iload_n 1, 1) := by decide +kernel
theorem dX8_adds_43 : decode cX8_adds 43 = .ok (.iload 5, 2) := by decide +kernel
theorem dX8_adds_45 : decode cX8_adds 45 = .ok (.iconst 2, 1) := by decide +kernel
theorem dX8_adds_46 : decode cX8_adds 46 = .ok (.invokestatic 44, 3) := by decide +kernel
theorem dX8_adds_49 : decode cX8_adds 49 = .ok (.iload 4, 2) := by decide +kernel
theorem dX8_adds_51 : decode cX8_adds 51 = .ok (.iastore, 1) := by decide +kernel
theorem dX8_adds_52 : decode cX8_adds 52 = .ok (.aload_n 0, 1) := by decide +kernel
theorem dX8_adds_53 : decode cX8_adds 53 = .ok (.getfield 7, 3) := by decide +kernel
theorem dX8_adds_56 : decode cX8_adds 56 = .ok (.iload_n 1, 1) := by decide +kernel
theorem dX8_adds_57 : decode cX8_adds 57 = .ok (.iload 5, 2) := by decide +kernel
theorem dX8_adds_59 : decode cX8_adds 59 = .ok (.iconst 3, 1) := by decide +kernel
theorem dX8_adds_60 : decode cX8_adds 60 = .ok (.invokestatic 44, 3) := by decide +kernel
theorem dX8_adds_63 : decode cX8_adds 63 = .ok (.iconst 0, 1) := by decide +kernel
theorem dX8_adds_64 : decode cX8_adds 64 = .ok (.iastore, 1) := by decide +kernel
theorem dX8_adds_65 : decode cX8_adds 65 = .ok (.aload_n 0, 1) := by decide +kernel
theorem dX8_adds_66 : decode cX8_adds 66 = .ok (.getfield 7, 3) := by decide +kernel
theorem dX8_adds_69 : decode cX8_adds 69 = .ok (.iload_n 1, 1) := by decide +kernel
theorem dX8_adds_70 : decode cX8_adds 70 = .ok (.iconst 2, 1) := by decide +kernel
theorem dX8_adds_71 : decode cX8_adds 71 = .ok (.invokestatic 33, 3) := by decide +kernel
theorem dX8_adds_74 : decode cX8_adds 74 = .ok (.dup2, 1) := by decide +kernel
theorem dX8_adds_75 : decode cX8_adds 75 = .ok (.iaload, 1) := by decide +kernel
theorem dX8_adds_76 : decode cX8_adds 76 = .ok (.iconst 1, 1) := by decide +kernel
theorem dX8_adds_77 : decode cX8_adds 77 = .ok (.iadd, 1) := by decide +kernel
theorem dX8_adds_78 : decode cX8_adds 78 = .ok (.iastore, 1) := by decide +kernel
theorem dX8_adds_79 : decode cX8_adds 79 = .ok (.return_, 1) := by decide +kernel
theorem dX8_addStage_0 : decode cX8_addStage 0 = .ok (.aload_n 0, 1) := by decide +kernel
theorem dX8_addStage_1 : decode cX8_addStage 1 = .ok (.iload_n 1, 1) := by decide +kernel
theorem dX8_addStage_2 : decode cX8_addStage 2 = .ok (.invokevirtual 48, 3) := by decide +kernel
theorem dX8_addStage_5 : decode cX8_addStage 5 = .ok (.ifCond .ne 6, 3) := by decide +kernel
theorem dX8_addStage_8 : decode cX8_addStage 8 = .ok (.bipush (-11), 2) := by decide +kernel
theorem dX8_addStage_10 : decode cX8_addStage 10 = .ok (.ireturn, 1) := by decide +kernel
theorem dX8_addStage_11 : decode cX8_addStage 11 = .ok (.iload_n 2, 1) := by decide +kernel
theorem dX8_addStage_12 : decode cX8_addStage 12 = .ok (.iconst 1, 1) := by decide +kernel
theorem dX8_addStage_13 : decode cX8_addStage 13 = .ok (.iconst 1, 1) := by decide +kernel
theorem dX8_addStage_14 : decode cX8_addStage 14 = .ok (.aload_n 0, 1) := by decide +kernel
theorem dX8_addStage_15 : decode cX8_addStage 15 = .ok (.getfield 7, 3) := by decide +kernel
theorem dX8_addStage_18 : decode cX8_addStage 18 = .ok (.iconst 0, 1) := by decide +kernel
theorem dX8_addStage_19 : decode cX8_addStage 19 = .ok (.iaload, 1) := by decide +kernel
theorem dX8_addStage_20 : decode cX8_addStage 20 = .ok (.ishl, 1) := by decide +kernel
theorem dX8_addStage_21 : decode cX8_addStage 21 = .ok (.iconst 1, 1) := by decide +kernel
theorem dX8_addStage_22 : decode cX8_addStage 22 = .ok (.isub, 1) := by decide +kernel
theorem dX8_addStage_23 : decode cX8_addStage 23 = .ok (.invokestatic 37, 3) := by decide +kernel
theorem dX8_addStage_26 : decode cX8_addStage 26 = .ok (.ifCond .eq 24, 3) := by decide +kernel
theorem dX8_addStage_29 : decode cX8_addStage 29 = .ok (.iload_n 3, 1) := by decide +kernel
theorem dX8_addStage_30 : decode cX8_addStage 30 = .ok (.iconst 0, 1) := by decide +kernel
theorem dX8_addStage_31 : decode cX8_addStage 31 = .ok (.bipush 48, 2) := by decide +kernel
theorem dX8_addStage_33 : decode cX8_addStage 33 = .ok (.invokestatic 37, 3) := by decide +kernel
theorem dX8_addStage_36 : decode cX8_addStage 36 = .ok (.ifCond .eq 14, 3) := by decide +kernel
theorem dX8_addStage_39 : decode cX8_addStage 39 = .ok (.iload 4, 2) := by decide +kernel
theorem dX8_addStage_41 : decode cX8_addStage 41 = .ok (.iconst 0, 1) := by decide +kernel
theorem dX8_addStage_42 : decode cX8_addStage 42 = .ok (.bipush 25, 2) := by decide +kernel
theorem dX8_addStage_44 : decode cX8_addStage 44 = .ok (.invokestatic 37, 3) := by decide +kernel
theorem dX8_addStage_47 : decode cX8_addStage 47 = .ok (.ifCond .ne 6, 3) := by decide +kernel
theorem dX8_addStage_50 : decode cX8_addStage 50 = .ok (.bipush (-12), 2) := by decide +kernel
theorem dX8_addStage_52 : decode cX8_addStage 52 = .ok (.ireturn, 1) := by decide +kernel
theorem dX8_addStage_53 : decode cX8_addStage 53 = .ok (.aload_n 0, 1) := by decide +kernel
theorem dX8_addStage_54 : decode cX8_addStage 54 = .ok (.getfield 7, 3) := by decide +kernel
theorem dX8_addStage_57 : decode cX8_addStage 57 = .ok (.iload_n 1, 1) := by decide +kernel
theorem dX8_addStage_58 : decode cX8_addStage 58 = .ok (.iconst 2, 1) := by decide +kernel
theorem dX8_addStage_59 : decode cX8_addStage 59 = .ok (.invokestatic 33, 3) := by decide +kernel
theorem dX8_addStage_62 : decode cX8_addStage 62 = .ok (.iaload, 1) := by decide +kernel
theorem dX8_addStage_63 : decode cX8_addStage 63 = .ok (.istore 5, 2) := by decide +kernel
theorem dX8_addStage_65 : decode cX8_addStage 65 = .ok (.aload_n 0, 1) := by decide +kernel
theorem dX8_addStage_66 : decode cX8_addStage 66 = .ok (.getfield 7, 3) := by decide +kernel
theorem dX8_addStage_69 : decode cX8_addStage 69 = .ok (.iload_n 1, 1) := by decide +kernel
theorem dX8_addStage_70 : decode cX8_addStage 70 = .ok (.iconst 1, 1) := by decide +kernel
theorem dX8_addStage_71 : decode cX8_addStage 71 = .ok (.invokestatic 33, 3) := by decide +kernel
theorem dX8_addStage_74 : decode cX8_addStage 74 = .ok (.iaload, 1) := by decide +kernel
theorem dX8_addStage_75 : decode cX8_addStage 75 = .ok (.ifCond .ne 15, 3) := by decide +kernel
theorem dX8_addStage_78 : decode cX8_addStage 78 = .ok (.aload_n 0, 1) := by decide +kernel
theorem dX8_addStage_79 : decode cX8_addStage 79 = .ok (.iload_n 1, 1) := by decide +kernel
theorem dX8_addStage_80 : decode cX8_addStage 80 = .ok (.iload 5, 2) := by decide +kernel
theorem dX8_addStage_82 : decode cX8_addStage 82 = .ok (.invokevirtual 52, 3) := by decide +kernel
theorem dX8_addStage_85 : decode cX8_addStage 85 = .ok (.iload_n 2, 1) := by decide +kernel
theorem dX8_addStage_86 : decode cX8_addStage 86 = .ok (.iand, 1) := by decide +kernel
theorem dX8_addStage_87 : decode cX8_addStage 87 = .ok (.ifCond .eq 6, 3) := by decide +kernel
theorem dX8_addStage_90 : decode cX8_addStage 90 = .ok (.bipush (-13), 2) := by decide +kernel
theorem dX8_addStage_92 : decode cX8_addStage 92 = .ok (.ireturn, 1) := by decide +kernel
theorem dX8_addStage_93 : decode cX8_addStage 93 = .ok (.iload 5, 2) := by decide +kernel
theorem dX8_addStage_95 : decode cX8_addStage 95 = .ok (.bipush 6, 2) := by decide +kernel
theorem dX8_addStage_97 : decode cX8_addStage 97 = .ok (.if_icmp .ne 6, 3) := by decide +kernel
theorem dX8_addStage_100 : decode cX8_addStage 100 = .ok (.bipush (-14), 2) := by decide +kernel
theorem dX8_addStage_102 : decode cX8_addStage 102 = .ok (.ireturn, 1) := by decide +kernel
theorem dX8_addStage_103 : decode cX8_addStage 103 = .ok (.aload_n 0, 1) := by decide +kernel
theorem dX8_addStage_104 : decode cX8_addStage 104 = .ok (.iload_n 1, 1) := by decide +kernel
theorem dX8_addStage_105 : decode cX8_addStage 105 = .ok (.iload_n 2, 1) := by decide +kernel
theorem dX8_addStage_106 : decode cX8_addStage 106 = .ok (.iload_n 3, 1) := by decide +kernel
theorem dX8_addStage_107 : decode cX8_addStage 107 = .ok (.iload 4, 2) := by decide +kernel
theorem dX8_addStage_109 : decode cX8_addStage 109 = .ok (.invokevirtual 55, 3) := by decide +kernel
theorem dX8_addStage_112 : decode cX8_addStage 112 = .ok (.iload 5, 2) := by decide +kernel
theorem dX8_addStage_114 : decode cX8_addStage 114 = .ok (.iconst 1, 1) := by decide +kernel
theorem dX8_addStage_115 : decode cX8_addStage 115 = .ok (.iadd, 1) := by decide +kernel
theorem dX8_addStage_116 : decode cX8_addStage 116 = .ok (.ireturn, 1) := by decide +kernel
theorem dX8_size_0 : decode cX8_size 0 = .ok (.iconst 0, 1) := by decide +kernel
theorem dX8_size_1 : decode cX8_size 1 = .ok (.istore_n 1, 1) := by decide +kernel
theorem dX8_size_2 : decode cX8_size 2 = .ok (.iload_n 0, 1) := by decide +kernel
theorem dX8_size_3 : decode cX8_size 3 = .ok (.istore_n 2, 1) := by decide +kernel
theorem dX8_size_4 : decode cX8_size 4 = .ok (.iload_n 2, 1) := by decide +kernel
theorem dX8_size_5 : decode cX8_size 5 = .ok (.ifCond .eq 15, 3) := by decide +kernel
theorem dX8_size_8 : decode cX8_size 8 = .ok (.iinc 1 1, 3) := by decide +kernel
theorem dX8_size_11 : decode cX8_size 11 = .ok (.iload_n 2, 1) := by decide +kernel
theorem dX8_size_12 : decode cX8_size 12 = .ok (.iload_n 2, 1) := by decide +kernel
theorem dX8_size_13 : decode cX8_size 13 = .ok (.iconst 1, 1) := by decide +kernel
theorem dX8_size_14 : decode cX8_size 14 = .ok (.isub, 1) := by decide +kernel
theorem dX8_size_15 : decode cX8_size 15 = .ok (.iand, 1) := by decide +kernel
theorem dX8_size_16 : decode cX8_size 16 = .ok (.istore_n 2, 1) := by decide +kernel
theorem dX8_size_17 : decode cX8_size 17 = .ok (.goto (-13), 3) := by decide +kernel
theorem dX8_size_20 : decode cX8_size 20 = .ok (.iload_n 1, 1) := by decide +kernel
theorem dX8_size_21 : decode cX8_size 21 = .ok (.ireturn, 1) := by decide +kernel
theorem dX8_putAfter_0 : decode cX8_putAfter 0 = .ok (.aload_n 0, 1) := by decide +kernel
theorem dX8_putAfter_1 : decode cX8_putAfter 1 = .ok (.iload_n 1, 1) := by decide +kernel
theorem dX8_putAfter_2 : decode cX8_putAfter 2 = .ok (.invokevirtual 48, 3) := by decide +kernel
theorem dX8_putAfter_5 : decode cX8_putAfter 5 = .ok (.ifCond .eq 14, 3) := by decide +kernel
theorem dX8_putAfter_8 : decode cX8_putAfter 8 = .ok (.iload_n 2, 1) := by decide +kernel
theorem dX8_putAfter_9 : decode cX8_putAfter 9 = .ok (.iconst 0, 1) := by decide +kernel
theorem dX8_putAfter_10 : decode cX8_putAfter 10 = .ok (.iload_n 1, 1) := by decide +kernel
theorem dX8_putAfter_11 : decode cX8_putAfter 11 = .ok (.iconst 1, 1) := by decide +kernel
theorem dX8_putAfter_12 : decode cX8_putAfter 12 = .ok (.isub, 1) := by decide +kernel
theorem dX8_putAfter_13 : decode cX8_putAfter 13 = .ok (.invokestatic 37, 3) := by decide +kernel
theorem dX8_putAfter_16 : decode cX8_putAfter 16 = .ok (.ifCond .ne 6, 3) := by decide +kernel
theorem dX8_putAfter_19 : decode cX8_putAfter 19 = .ok (.bipush (-11), 2) := by decide +kernel
theorem dX8_putAfter_21 : decode cX8_putAfter 21 = .ok (.ireturn, 1) := by decide +kernel
theorem dX8_putAfter_22 : decode cX8_putAfter 22 = .ok (.aload_n 0, 1) := by decide +kernel
theorem dX8_putAfter_23 : decode cX8_putAfter 23 = .ok (.getfield 7, 3) := by decide +kernel
theorem dX8_putAfter_26 : decode cX8_putAfter 26 = .ok (.iload_n 1, 1) := by decide +kernel
theorem dX8_putAfter_27 : decode cX8_putAfter 27 = .ok (.iconst 1, 1) := by decide +kernel
theorem dX8_putAfter_28 : decode cX8_putAfter 28 = .ok (.invokestatic 33, 3) := by decide +kernel
theorem dX8_putAfter_31 : decode cX8_putAfter 31 = .ok (.iaload, 1) := by decide +kernel
theorem dX8_putAfter_32 : decode cX8_putAfter 32 = .ok (.ifCond .eq 6, 3) := by decide +kernel
theorem dX8_putAfter_35 : decode cX8_putAfter 35 = .ok (.bipush (-13), 2) := by decide +kernel
theorem dX8_putAfter_37 : decode cX8_putAfter 37 = .ok (.ireturn, 1) := by decide +kernel
theorem dX8_putAfter_38 : decode cX8_putAfter 38 = .ok (.aload_n 0, 1) := by decide +kernel
theorem dX8_putAfter_39 : decode cX8_putAfter 39 = .ok (.getfield 7, 3) := by decide +kernel
theorem dX8_putAfter_42 : decode cX8_putAfter 42 = .ok (.iload_n 1, 1) := by decide +kernel
theorem dX8_putAfter_43 : decode cX8_putAfter 43 = .ok (.iconst 4, 1) := by decide +kernel
theorem dX8_putAfter_44 : decode cX8_putAfter 44 = .ok (.invokestatic 33, 3) := by decide +kernel
theorem dX8_putAfter_47 : decode cX8_putAfter 47 = .ok (.dup2, 1) := by decide +kernel
theorem dX8_putAfter_48 : decode cX8_putAfter 48 = .ok (.iaload, 1) := by decide +kernel
theorem dX8_putAfter_49 : decode cX8_putAfter 49 = .ok (.iconst 1, 1) := by decide +kernel
theorem dX8_putAfter_50 : decode cX8_putAfter 50 = .ok (.iload_n 2, 1) := by decide +kernel
theorem dX8_putAfter_51 : decode cX8_putAfter 51 = .ok (.ishl, 1) := by decide +kernel
theorem dX8_putAfter_52 : decode cX8_putAfter 52 = .ok (.ior, 1) := by decide +kernel
theorem dX8_putAfter_53 : decode cX8_putAfter 53 = .ok (.iastore, 1) := by decide +kernel
theorem dX8_putAfter_54 : decode cX8_putAfter 54 = .ok (.aload_n 0, 1) := by decide +kernel
theorem dX8_putAfter_55 : decode cX8_putAfter 55 = .ok (.getfield 7, 3) := by decide +kernel
theorem dX8_putAfter_58 : decode cX8_putAfter 58 = .ok (.iload_n 1, 1) := by decide +kernel
theorem dX8_putAfter_59 : decode cX8_putAfter 59 = .ok (.iconst 4, 1) := by decide +kernel
theorem dX8_putAfter_60 : decode cX8_putAfter 60 = .ok (.invokestatic 33, 3) := by decide +kernel
theorem dX8_putAfter_63 : decode cX8_putAfter 63 = .ok (.iaload, 1) := by decide +kernel
theorem dX8_putAfter_64 : decode cX8_putAfter 64 = .ok (.invokestatic 59, 3) := by decide +kernel
theorem dX8_putAfter_67 : decode cX8_putAfter 67 = .ok (.ireturn, 1) := by decide +kernel
theorem dX8_changes_0 : decode cX8_changes 0 = .ok (.aload_n 0, 1) := by decide +kernel
theorem dX8_changes_1 : decode cX8_changes 1 = .ok (.getfield 7, 3) := by decide +kernel
theorem dX8_changes_4 : decode cX8_changes 4 = .ok (.bipush 10, 2) := by decide +kernel
theorem dX8_changes_6 : decode cX8_changes 6 = .ok (.iaload, 1) := by decide +kernel
theorem dX8_changes_7 : decode cX8_changes 7 = .ok (.ireturn, 1) := by decide +kernel
theorem dX8_stage_0 : decode cX8_stage 0 = .ok (.aload_n 0, 1) := by decide +kernel
theorem dX8_stage_1 : decode cX8_stage 1 = .ok (.iload_n 1, 1) := by decide +kernel
theorem dX8_stage_2 : decode cX8_stage 2 = .ok (.invokevirtual 48, 3) := by decide +kernel
theorem dX8_stage_5 : decode cX8_stage 5 = .ok (.ifCond .eq 23, 3) := by decide +kernel
theorem dX8_stage_8 : decode cX8_stage 8 = .ok (.iload_n 2, 1) := by decide +kernel
theorem dX8_stage_9 : decode cX8_stage 9 = .ok (.iconst 0, 1) := by decide +kernel
theorem dX8_stage_10 : decode cX8_stage 10 = .ok (.aload_n 0, 1) := by decide +kernel
theorem dX8_stage_11 : decode cX8_stage 11 = .ok (.getfield 7, 3) := by decide +kernel
theorem dX8_stage_14 : decode cX8_stage 14 = .ok (.iload_n 1, 1) := by decide +kernel
theorem dX8_stage_15 : decode cX8_stage 15 = .ok (.iconst 2, 1) := by decide +kernel
theorem dX8_stage_16 : decode cX8_stage 16 = .ok (.invokestatic 33, 3) := by decide +kernel
theorem dX8_stage_19 : decode cX8_stage 19 = .ok (.iaload, 1) := by decide +kernel
theorem dX8_stage_20 : decode cX8_stage 20 = .ok (.iconst 1, 1) := by decide +kernel
theorem dX8_stage_21 : decode cX8_stage 21 = .ok (.isub, 1) := by decide +kernel
theorem dX8_stage_22 : decode cX8_stage 22 = .ok (.invokestatic 37, 3) := by decide +kernel
theorem dX8_stage_25 : decode cX8_stage 25 = .ok (.ifCond .ne 6, 3) := by decide +kernel
theorem dX8_stage_28 : decode cX8_stage 28 = .ok (.bipush (-11), 2) := by decide +kernel
theorem dX8_stage_30 : decode cX8_stage 30 = .ok (.ireturn, 1) := by decide +kernel
theorem dX8_stage_31 : decode cX8_stage 31 = .ok (.iload_n 3, 1) := by decide +kernel
theorem dX8_stage_32 : decode cX8_stage 32 = .ok (.iconst 0, 1) := by decide +kernel
theorem dX8_stage_33 : decode cX8_stage 33 = .ok (.iconst 2, 1) := by decide +kernel
theorem dX8_stage_34 : decode cX8_stage 34 = .ok (.invokestatic 37, 3) := by decide +kernel
theorem dX8_stage_37 : decode cX8_stage 37 = .ok (.ifCond .eq 17, 3) := by decide +kernel
theorem dX8_stage_40 : decode cX8_stage 40 = .ok (.aload_n 0, 1) := by decide +kernel
theorem dX8_stage_41 : decode cX8_stage 41 = .ok (.getfield 7, 3) := by decide +kernel
theorem dX8_stage_44 : decode cX8_stage 44 = .ok (.iload_n 1, 1) := by decide +kernel
theorem dX8_stage_45 : decode cX8_stage 45 = .ok (.iload_n 2, 1) := by decide +kernel
theorem dX8_stage_46 : decode cX8_stage 46 = .ok (.iload_n 3, 1) := by decide +kernel
theorem dX8_stage_47 : decode cX8_stage 47 = .ok (.invokestatic 44, 3) := by decide +kernel
theorem dX8_stage_50 : decode cX8_stage 50 = .ok (.iaload, 1) := by decide +kernel
theorem dX8_stage_51 : decode cX8_stage 51 = .ok (.goto 5, 3) := by decide +kernel
theorem dX8_stage_54 : decode cX8_stage 54 = .ok (.bipush (-12), 2) := by decide +kernel
theorem dX8_stage_56 : decode cX8_stage 56 = .ok (.ireturn, 1) := by decide +kernel
theorem dX8_append_0 : decode cX8_append 0 = .ok (.iload_n 1, 1) := by decide +kernel
theorem dX8_append_1 : decode cX8_append 1 = .ok (.iconst 0, 1) := by decide +kernel
theorem dX8_append_2 : decode cX8_append 2 = .ok (.bipush 127, 2) := by decide +kernel
theorem dX8_append_4 : decode cX8_append 4 = .ok (.invokestatic 37, 3) := by decide +kernel
theorem dX8_append_7 : decode cX8_append 7 = .ok (.ifCond .ne 6, 3) := by decide +kernel
theorem dX8_append_10 : decode cX8_append 10 = .ok (.bipush (-12), 2) := by decide +kernel
theorem dX8_append_12 : decode cX8_append 12 = .ok (.ireturn, 1) := by decide +kernel
theorem dX8_append_13 : decode cX8_append 13 = .ok (.aload_n 0, 1) := by decide +kernel
theorem dX8_append_14 : decode cX8_append 14 = .ok (.getfield 63, 3) := by decide +kernel
theorem dX8_append_17 : decode cX8_append 17 = .ok (.bipush 60, 2) := by decide +kernel
theorem dX8_append_19 : decode cX8_append 19 = .ok (.if_icmp .ne 6, 3) := by decide +kernel
theorem dX8_append_22 : decode cX8_append 22 = .ok (.bipush (-14), 2) := by decide +kernel
theorem dX8_append_24 : decode cX8_append 24 = .ok (.ireturn, 1) := by decide +kernel
theorem dX8_append_25 : decode cX8_append 25 = .ok (.aload_n 0, 1) := by decide +kernel
theorem dX8_append_26 : decode cX8_append 26 = .ok (.getfield 23, 3) := by decide +kernel
theorem dX8_append_29 : decode cX8_append 29 = .ok (.aload_n 0, 1) := by decide +kernel
theorem dX8_append_30 : decode cX8_append 30 = .ok (.getfield 63, 3) := by decide +kernel
theorem dX8_append_33 : decode cX8_append 33 = .ok (.iload_n 1, 1) := by decide +kernel
theorem dX8_append_34 : decode cX8_append 34 = .ok (.iastore, 1) := by decide +kernel
theorem dX8_append_35 : decode cX8_append 35 = .ok (.aload_n 0, 1) := by decide +kernel
theorem dX8_append_36 : decode cX8_append 36 = .ok (.dup, 1) := by decide +kernel
theorem dX8_append_37 : decode cX8_append 37 = .ok (.getfield 63, 3) := by decide +kernel
theorem dX8_append_40 : decode cX8_append 40 = .ok (.iconst 1, 1) := by decide +kernel
theorem dX8_append_41 : decode cX8_append 41 = .ok (.iadd, 1) := by decide +kernel
theorem dX8_append_42 : decode cX8_append 42 = .ok (.putfield 63, 3) := by decide +kernel
theorem dX8_append_45 : decode cX8_append 45 = .ok (.aload_n 0, 1) := by decide +kernel
theorem dX8_append_46 : decode cX8_append 46 = .ok (.getfield 63, 3) := by decide +kernel
theorem dX8_append_49 : decode cX8_append 49 = .ok (.ireturn, 1) := by decide +kernel
theorem dX8_clearText_0 : decode cX8_clearText 0 = .ok (.aload_n 0, 1) := by decide +kernel
theorem dX8_clearText_1 : decode cX8_clearText 1 = .ok (.getfield 63, 3) := by decide +kernel
theorem dX8_clearText_4 : decode cX8_clearText 4 = .ok (.istore_n 1, 1) := by decide +kernel
theorem dX8_clearText_5 : decode cX8_clearText 5 = .ok (.aload_n 0, 1) := by decide +kernel
theorem dX8_clearText_6 : decode cX8_clearText 6 = .ok (.iconst 0, 1) := by decide +kernel
theorem dX8_clearText_7 : decode cX8_clearText 7 = .ok (.putfield 63, 3) := by decide +kernel
theorem dX8_clearText_10 : decode cX8_clearText 10 = .ok (.iload_n 1, 1) := by decide +kernel
theorem dX8_clearText_11 : decode cX8_clearText 11 = .ok (.ireturn, 1) := by decide +kernel
theorem dX8_here_0 : decode cX8_here 0 = .ok (.aload_n 0, 1) := by decide +kernel
theorem dX8_here_1 : decode cX8_here 1 = .ok (.getfield 67, 3) := by decide +kernel
theorem dX8_here_4 : decode cX8_here 4 = .ok (.aload_n 0, 1) := by decide +kernel
theorem dX8_here_5 : decode cX8_here 5 = .ok (.getfield 63, 3) := by decide +kernel
theorem dX8_here_8 : decode cX8_here 8 = .ok (.if_icmp .ge 15, 3) := by decide +kernel
theorem dX8_here_11 : decode cX8_here 11 = .ok (.aload_n 0, 1) := by decide +kernel
theorem dX8_here_12 : decode cX8_here 12 = .ok (.getfield 23, 3) := by decide +kernel
theorem dX8_here_15 : decode cX8_here 15 = .ok (.aload_n 0, 1) := by decide +kernel
theorem dX8_here_16 : decode cX8_here 16 = .ok (.getfield 67, 3) := by decide +kernel
theorem dX8_here_19 : decode cX8_here 19 = .ok (.iaload, 1) := by decide +kernel
theorem dX8_here_20 : decode cX8_here 20 = .ok (.goto 4, 3) := by decide +kernel
theorem dX8_here_23 : decode cX8_here 23 = .ok (.iconst (-1), 1) := by decide +kernel
theorem dX8_here_24 : decode cX8_here 24 = .ok (.ireturn, 1) := by decide +kernel
theorem dX8_takes_0 : decode cX8_takes 0 = .ok (.aload_n 0, 1) := by decide +kernel
theorem dX8_takes_1 : decode cX8_takes 1 = .ok (.invokevirtual 70, 3) := by decide +kernel
theorem dX8_takes_4 : decode cX8_takes 4 = .ok (.iload_n 1, 1) := by decide +kernel
theorem dX8_takes_5 : decode cX8_takes 5 = .ok (.if_icmp .ne 7, 3) := by decide +kernel
theorem dX8_takes_8 : decode cX8_takes 8 = .ok (.iconst 1, 1) := by decide +kernel
theorem dX8_takes_9 : decode cX8_takes 9 = .ok (.goto 4, 3) := by decide +kernel
theorem dX8_takes_12 : decode cX8_takes 12 = .ok (.iconst 0, 1) := by decide +kernel
theorem dX8_takes_13 : decode cX8_takes 13 = .ok (.istore_n 2, 1) := by decide +kernel
theorem dX8_takes_14 : decode cX8_takes 14 = .ok (.aload_n 0, 1) := by decide +kernel
theorem dX8_takes_15 : decode cX8_takes 15 = .ok (.dup, 1) := by decide +kernel
theorem dX8_takes_16 : decode cX8_takes 16 = .ok (.getfield 67, 3) := by decide +kernel
theorem dX8_takes_19 : decode cX8_takes 19 = .ok (.iload_n 2, 1) := by decide +kernel
theorem dX8_takes_20 : decode cX8_takes 20 = .ok (.ifCond .eq 7, 3) := by decide +kernel
theorem dX8_takes_23 : decode cX8_takes 23 = .ok (.iconst 1, 1) := by decide +kernel
theorem dX8_takes_24 : decode cX8_takes 24 = .ok (.goto 4, 3) := by decide +kernel
theorem dX8_takes_27 : decode cX8_takes 27 = .ok (.iconst 0, 1) := by decide +kernel
theorem dX8_takes_28 : decode cX8_takes 28 = .ok (.iadd, 1) := by decide +kernel
theorem dX8_takes_29 : decode cX8_takes 29 = .ok (.putfield 67, 3) := by decide +kernel
theorem dX8_takes_32 : decode cX8_takes 32 = .ok (.iload_n 2, 1) := by decide +kernel
theorem dX8_takes_33 : decode cX8_takes 33 = .ok (.ireturn, 1) := by decide +kernel
theorem dX8_digit_0 : decode cX8_digit 0 = .ok (.aload_n 0, 1) := by decide +kernel
theorem dX8_digit_1 : decode cX8_digit 1 = .ok (.invokevirtual 70, 3) := by decide +kernel
theorem dX8_digit_4 : decode cX8_digit 4 = .ok (.bipush 48, 2) := by decide +kernel
theorem dX8_digit_6 : decode cX8_digit 6 = .ok (.bipush 57, 2) := by decide +kernel
theorem dX8_digit_8 : decode cX8_digit 8 = .ok (.invokestatic 37, 3) := by decide +kernel
theorem dX8_digit_11 : decode cX8_digit 11 = .ok (.ifCond .eq 13, 3) := by decide +kernel
theorem dX8_digit_14 : decode cX8_digit 14 = .ok (.aload_n 0, 1) := by decide +kernel
theorem dX8_digit_15 : decode cX8_digit 15 = .ok (.invokevirtual 70, 3) := by decide +kernel
theorem dX8_digit_18 : decode cX8_digit 18 = .ok (.bipush 48, 2) := by decide +kernel
theorem dX8_digit_20 : decode cX8_digit 20 = .ok (.isub, 1) := by decide +kernel
theorem dX8_digit_21 : decode cX8_digit 21 = .ok (.goto 4, 3) := by decide +kernel
theorem dX8_digit_24 : decode cX8_digit 24 = .ok (.iconst (-1), 1) := by decide +kernel
theorem dX8_digit_25 : decode cX8_digit 25 = .ok (.ireturn, 1) := by decide +kernel
theorem dX8_number_0 : decode cX8_number 0 = .ok (.aload_n 0, 1) := by decide +kernel
theorem dX8_number_1 : decode cX8_number 1 = .ok (.getfield 67, 3) := by decide +kernel
theorem dX8_number_4 : decode cX8_number 4 = .ok (.istore_n 2, 1) := by decide +kernel
theorem dX8_number_5 : decode cX8_number 5 = .ok (.aload_n 0, 1) := by decide +kernel
theorem dX8_number_6 : decode cX8_number 6 = .ok (.invokevirtual 74, 3) := by decide +kernel
theorem dX8_number_9 : decode cX8_number 9 = .ok (.ifCond .ge 5, 3) := by decide +kernel
theorem dX8_number_12 : decode cX8_number 12 = .ok (.iconst 0, 1) := by decide +kernel
theorem dX8_number_13 : decode cX8_number 13 = .ok (.ireturn, 1) := by decide +kernel
theorem dX8_number_14 : decode cX8_number 14 = .ok (.aload_n 0, 1) := by decide +kernel
theorem dX8_number_15 : decode cX8_number 15 = .ok (.aload_n 0, 1) := by decide +kernel
theorem dX8_number_16 : decode cX8_number 16 = .ok (.invokevirtual 74, 3) := by decide +kernel
theorem dX8_number_19 : decode cX8_number 19 = .ok (.putfield 77, 3) := by decide +kernel
theorem dX8_number_22 : decode cX8_number 22 = .ok (.aload_n 0, 1) := by decide +kernel
theorem dX8_number_23 : decode cX8_number 23 = .ok (.dup, 1) := by decide +kernel
theorem dX8_number_24 : decode cX8_number 24 = .ok (.getfield 67, 3) := by decide +kernel
theorem dX8_number_27 : decode cX8_number 27 = .ok (.iconst 1, 1) := by decide +kernel
theorem dX8_number_28 : decode cX8_number 28 = .ok (.iadd, 1) := by decide +kernel
theorem dX8_number_29 : decode cX8_number 29 = .ok (.putfield 67, 3) := by decide +kernel
theorem dX8_number_32 : decode cX8_number 32 = .ok (.aload_n 0, 1) := by decide +kernel
theorem dX8_number_33 : decode cX8_number 33 = .ok (.getfield 77, 3) := by decide +kernel
theorem dX8_number_36 : decode cX8_number 36 = .ok (.ifCond .le 36, 3) := by decide +kernel
theorem dX8_number_39 : decode cX8_number 39 = .ok (.aload_n 0, 1) := by decide +kernel
theorem dX8_number_40 : decode cX8_number 40 = .ok (.invokevirtual 74, 3) := by decide +kernel
theorem dX8_number_43 : decode cX8_number 43 = .ok (.ifCond .lt 29, 3) := by decide +kernel
theorem dX8_number_46 : decode cX8_number 46 = .ok (.aload_n 0, 1) := by decide +kernel
theorem dX8_number_47 : decode cX8_number 47 = .ok (.bipush 10, 2) := by decide +kernel
theorem dX8_number_49 : decode cX8_number 49 = .ok (.aload_n 0, 1) := by decide +kernel
theorem dX8_number_50 : decode cX8_number 50 = .ok (.getfield 77, 3) := by decide +kernel
theorem dX8_number_53 : decode cX8_number 53 = .ok (.imul, 1) := by decide +kernel
theorem dX8_number_54 : decode cX8_number 54 = .ok (.aload_n 0, 1) := by decide +kernel
theorem dX8_number_55 : decode cX8_number 55 = .ok (.invokevirtual 74, 3) := by decide +kernel
theorem dX8_number_58 : decode cX8_number 58 = .ok (.iadd, 1) := by decide +kernel
theorem dX8_number_59 : decode cX8_number 59 = .ok (.putfield 77, 3) := by decide +kernel
theorem dX8_number_62 : decode cX8_number 62 = .ok (.aload_n 0, 1) := by decide +kernel
theorem dX8_number_63 : decode cX8_number 63 = .ok (.dup, 1) := by decide +kernel
theorem dX8_number_64 : decode cX8_number 64 = .ok (.getfield 67, 3) := by decide +kernel
theorem dX8_number_67 : decode cX8_number 67 = .ok (.iconst 1, 1) := by decide +kernel
theorem dX8_number_68 : decode cX8_number 68 = .ok (.iadd, 1) := by decide +kernel
theorem dX8_number_69 : decode cX8_number 69 = .ok (.putfield 67, 3) := by decide +kernel
theorem dX8_number_72 : decode cX8_number 72 = .ok (.aload_n 0, 1) := by decide +kernel
theorem dX8_number_73 : decode cX8_number 73 = .ok (.getfield 77, 3) := by decide +kernel
theorem dX8_number_76 : decode cX8_number 76 = .ok (.iload_n 1, 1) := by decide +kernel
theorem dX8_number_77 : decode cX8_number 77 = .ok (.if_icmp .gt 7, 3) := by decide +kernel
theorem dX8_number_80 : decode cX8_number 80 = .ok (.iconst 1, 1) := by decide +kernel
theorem dX8_number_81 : decode cX8_number 81 = .ok (.goto 4, 3) := by decide +kernel
theorem dX8_number_84 : decode cX8_number 84 = .ok (.iconst 0, 1) := by decide +kernel
theorem dX8_number_85 : decode cX8_number 85 = .ok (.istore_n 3, 1) := by decide +kernel
theorem dX8_number_86 : decode cX8_number 86 = .ok (.aload_n 0, 1) := by decide +kernel
theorem dX8_number_87 : decode cX8_number 87 = .ok (.iload_n 3, 1) := by decide +kernel
theorem dX8_number_88 : decode cX8_number 88 = .ok (.ifCond .eq 10, 3) := by decide +kernel
theorem dX8_number_91 : decode cX8_number 91 = .ok (.aload_n 0, 1) := by decide +kernel
theorem dX8_number_92 : decode cX8_number 92 = .ok (.getfield 67, 3) := by decide +kernel
theorem dX8_number_95 : decode cX8_number 95 = .ok (.goto 4, 3) := by decide +kernel
theorem dX8_number_98 : decode cX8_number 98 = .ok (.iload_n 2, 1) := by decide +kernel
theorem dX8_number_99 : decode cX8_number 99 = .ok (.putfield 67, 3) := by decide +kernel
theorem dX8_number_102 : decode cX8_number 102 = .ok (.iload_n 3, 1) := by decide +kernel
theorem dX8_number_103 : decode cX8_number 103 = .ok (.ireturn, 1) := by decide +kernel
theorem dX8_cells_0 : decode cX8_cells 0 = .ok (.iconst 0, 1) := by decide +kernel
theorem dX8_cells_1 : decode cX8_cells 1 = .ok (.istore_n 2, 1) := by decide +kernel
theorem dX8_cells_2 : decode cX8_cells 2 = .ok (.iconst (-1), 1) := by decide +kernel
theorem dX8_cells_3 : decode cX8_cells 3 = .ok (.istore_n 3, 1) := by decide +kernel
theorem dX8_cells_4 : decode cX8_cells 4 = .ok (.aload_n 0, 1) := by decide +kernel
theorem dX8_cells_5 : decode cX8_cells 5 = .ok (.invokevirtual 74, 3) := by decide +kernel
theorem dX8_cells_8 : decode cX8_cells 8 = .ok (.ifCond .lt 59, 3) := by decide +kernel
theorem dX8_cells_11 : decode cX8_cells 11 = .ok (.aload_n 0, 1) := by decide +kernel
theorem dX8_cells_12 : decode cX8_cells 12 = .ok (.invokevirtual 74, 3) := by decide +kernel
theorem dX8_cells_15 : decode cX8_cells 15 = .ok (.istore 4, 2) := by decide +kernel
theorem dX8_cells_17 : decode cX8_cells 17 = .ok (.iload 4, 2) := by decide +kernel
theorem dX8_cells_19 : decode cX8_cells 19 = .ok (.iload_n 3, 1) := by decide +kernel
theorem dX8_cells_20 : decode cX8_cells 20 = .ok (.if_icmp .le 22, 3) := by decide +kernel
theorem dX8_cells_23 : decode cX8_cells 23 = .ok (.aload_n 0, 1) := by decide +kernel
theorem dX8_cells_24 : decode cX8_cells 24 = .ok (.iload 4, 2) := by decide +kernel
theorem dX8_cells_26 : decode cX8_cells 26 = .ok (.invokevirtual 80, 3) := by decide +kernel
theorem dX8_cells_29 : decode cX8_cells 29 = .ok (.ifCond .eq 13, 3) := by decide +kernel
theorem dX8_cells_32 : decode cX8_cells 32 = .ok (.iload_n 1, 1) := by decide +kernel
theorem dX8_cells_33 : decode cX8_cells 33 = .ok (.iload 4, 2) := by decide +kernel
theorem dX8_cells_35 : decode cX8_cells 35 = .ok (.ishr, 1) := by decide +kernel
theorem dX8_cells_36 : decode cX8_cells 36 = .ok (.iconst 1, 1) := by decide +kernel
theorem dX8_cells_37 : decode cX8_cells 37 = .ok (.iand, 1) := by decide +kernel
theorem dX8_cells_38 : decode cX8_cells 38 = .ok (.iconst 1, 1) := by decide +kernel
theorem dX8_cells_39 : decode cX8_cells 39 = .ok (.if_icmp .ne 5, 3) := by decide +kernel
theorem dX8_cells_42 : decode cX8_cells 42 = .ok (.iconst 0, 1) := by decide +kernel
theorem dX8_cells_43 : decode cX8_cells 43 = .ok (.ireturn, 1) := by decide +kernel
theorem dX8_cells_44 : decode cX8_cells 44 = .ok (.iload_n 2, 1) := by decide +kernel
theorem dX8_cells_45 : decode cX8_cells 45 = .ok (.iconst 1, 1) := by decide +kernel
theorem dX8_cells_46 : decode cX8_cells 46 = .ok (.iload 4, 2) := by decide +kernel
theorem dX8_cells_48 : decode cX8_cells 48 = .ok (.ishl, 1) := by decide +kernel
theorem dX8_cells_49 : decode cX8_cells 49 = .ok (.ior, 1) := by decide +kernel
theorem dX8_cells_50 : decode cX8_cells 50 = .ok (.istore_n 2, 1) := by decide +kernel
theorem dX8_cells_51 : decode cX8_cells 51 = .ok (.iload 4, 2) := by decide +kernel
theorem dX8_cells_53 : decode cX8_cells 53 = .ok (.istore_n 3, 1) := by decide +kernel
theorem dX8_cells_54 : decode cX8_cells 54 = .ok (.aload_n 0, 1) := by decide +kernel
theorem dX8_cells_55 : decode cX8_cells 55 = .ok (.dup, 1) := by decide +kernel
theorem dX8_cells_56 : decode cX8_cells 56 = .ok (.getfield 67, 3) := by decide +kernel
theorem dX8_cells_59 : decode cX8_cells 59 = .ok (.iconst 1, 1) := by decide +kernel
theorem dX8_cells_60 : decode cX8_cells 60 = .ok (.iadd, 1) := by decide +kernel
theorem dX8_cells_61 : decode cX8_cells 61 = .ok (.putfield 67, 3) := by decide +kernel
theorem dX8_cells_64 : decode cX8_cells 64 = .ok (.goto (-60), 3) := by decide +kernel
theorem dX8_cells_67 : decode cX8_cells 67 = .ok (.aload_n 0, 1) := by decide +kernel
theorem dX8_cells_68 : decode cX8_cells 68 = .ok (.iload_n 2, 1) := by decide +kernel
theorem dX8_cells_69 : decode cX8_cells 69 = .ok (.putfield 77, 3) := by decide +kernel
theorem dX8_cells_72 : decode cX8_cells 72 = .ok (.iload_n 2, 1) := by decide +kernel
theorem dX8_cells_73 : decode cX8_cells 73 = .ok (.ifCond .eq 7, 3) := by decide +kernel
theorem dX8_cells_76 : decode cX8_cells 76 = .ok (.iconst 1, 1) := by decide +kernel
theorem dX8_cells_77 : decode cX8_cells 77 = .ok (.goto 4, 3) := by decide +kernel
theorem dX8_cells_80 : decode cX8_cells 80 = .ok (.iconst 0, 1) := by decide +kernel
theorem dX8_cells_81 : decode cX8_cells 81 = .ok (.ireturn, 1) := by decide +kernel
theorem dX8_isStage_0 : decode cX8_isStage 0 = .ok (.iconst 3, 1) := by decide +kernel
theorem dX8_isStage_1 : decode cX8_isStage 1 = .ok (.aload_n 0, 1) := by decide +kernel
theorem dX8_isStage_2 : decode cX8_isStage 2 = .ok (.getfield 83, 3) := by decide +kernel
theorem dX8_isStage_5 : decode cX8_isStage 5 = .ok (.imul, 1) := by decide +kernel
theorem dX8_isStage_6 : decode cX8_isStage 6 = .ok (.istore_n 2, 1) := by decide +kernel
theorem dX8_isStage_7 : decode cX8_isStage 7 = .ok (.aload_n 0, 1) := by decide +kernel
theorem dX8_isStage_8 : decode cX8_isStage 8 = .ok (.getfield 83, 3) := by decide +kernel
theorem dX8_isStage_11 : decode cX8_isStage 11 = .ok (.bipush 6, 2) := by decide +kernel
theorem dX8_isStage_13 : decode cX8_isStage 13 = .ok (.if_icmp .eq 11, 3) := by decide +kernel
theorem dX8_isStage_16 : decode cX8_isStage 16 = .ok (.aload_n 0, 1) := by decide +kernel
theorem dX8_isStage_17 : decode cX8_isStage 17 = .ok (.iload_n 1, 1) := by decide +kernel
theorem dX8_isStage_18 : decode cX8_isStage 18 = .ok (.invokevirtual 86, 3) := by decide +kernel
theorem dX8_isStage_21 : decode cX8_isStage 21 = .ok (.ifCond .ne 5, 3) := by decide +kernel
theorem dX8_isStage_24 : decode cX8_isStage 24 = .ok (.iconst 0, 1) := by decide +kernel
theorem dX8_isStage_25 : decode cX8_isStage 25 = .ok (.ireturn, 1) := by decide +kernel
theorem dX8_isStage_26 : decode cX8_isStage 26 = .ok (.aload_n 0, 1) := by decide +kernel
theorem dX8_isStage_27 : decode cX8_isStage 27 = .ok (.getfield 26, 3) := by decide +kernel
theorem dX8_isStage_30 : decode cX8_isStage 30 = .ok (.iload_n 2, 1) := by decide +kernel
theorem dX8_isStage_31 : decode cX8_isStage 31 = .ok (.aload_n 0, 1) := by decide +kernel
theorem dX8_isStage_32 : decode cX8_isStage 32 = .ok (.getfield 77, 3) := by decide +kernel
theorem dX8_isStage_35 : decode cX8_isStage 35 = .ok (.iastore, 1) := by decide +kernel
theorem dX8_isStage_36 : decode cX8_isStage 36 = .ok (.aload_n 0, 1) := by decide +kernel
theorem dX8_isStage_37 : decode cX8_isStage 37 = .ok (.bipush 58, 2) := by decide +kernel
theorem dX8_isStage_39 : decode cX8_isStage 39 = .ok (.invokevirtual 89, 3) := by decide +kernel
theorem dX8_isStage_42 : decode cX8_isStage 42 = .ok (.ifCond .eq 12, 3) := by decide +kernel
theorem dX8_isStage_45 : decode cX8_isStage 45 = .ok (.aload_n 0, 1) := by decide +kernel
theorem dX8_isStage_46 : decode cX8_isStage 46 = .ok (.bipush 48, 2) := by decide +kernel
theorem dX8_isStage_48 : decode cX8_isStage 48 = .ok (.invokevirtual 92, 3) := by decide +kernel
theorem dX8_isStage_51 : decode cX8_isStage 51 = .ok (.ifCond .ne 5, 3) := by decide +kernel
theorem dX8_isStage_54 : decode cX8_isStage 54 = .ok (.iconst 0, 1) := by decide +kernel
theorem dX8_isStage_55 : decode cX8_isStage 55 = .ok (.ireturn, 1) := by decide +kernel
theorem dX8_isStage_56 : decode cX8_isStage 56 = .ok (.aload_n 0, 1) := by decide +kernel
theorem dX8_isStage_57 : decode cX8_isStage 57 = .ok (.getfield 26, 3) := by decide +kernel
theorem dX8_isStage_60 : decode cX8_isStage 60 = .ok (.iload_n 2, 1) := by decide +kernel
theorem dX8_isStage_61 : decode cX8_isStage 61 = .ok (.iconst 1, 1) := by decide +kernel
theorem dX8_isStage_62 : decode cX8_isStage 62 = .ok (.iadd, 1) := by decide +kernel
theorem dX8_isStage_63 : decode cX8_isStage 63 = .ok (.aload_n 0, 1) := by decide +kernel
theorem dX8_isStage_64 : decode cX8_isStage 64 = .ok (.getfield 77, 3) := by decide +kernel
theorem dX8_isStage_67 : decode cX8_isStage 67 = .ok (.iastore, 1) := by decide +kernel
theorem dX8_isStage_68 : decode cX8_isStage 68 = .ok (.aload_n 0, 1) := by decide +kernel
theorem dX8_isStage_69 : decode cX8_isStage 69 = .ok (.bipush 47, 2) := by decide +kernel
theorem dX8_isStage_71 : decode cX8_isStage 71 = .ok (.invokevirtual 89, 3) := by decide +kernel
theorem dX8_isStage_74 : decode cX8_isStage 74 = .ok (.ifCond .eq 12, 3) := by decide +kernel
theorem dX8_isStage_77 : decode cX8_isStage 77 = .ok (.aload_n 0, 1) := by decide +kernel
theorem dX8_isStage_78 : decode cX8_isStage 78 = .ok (.bipush 25, 2) := by decide +kernel
theorem dX8_isStage_80 : decode cX8_isStage 80 = .ok (.invokevirtual 92, 3) := by decide +kernel
theorem dX8_isStage_83 : decode cX8_isStage 83 = .ok (.ifCond .ne 5, 3) := by decide +kernel
theorem dX8_isStage_86 : decode cX8_isStage 86 = .ok (.iconst 0, 1) := by decide +kernel
theorem dX8_isStage_87 : decode cX8_isStage 87 = .ok (.ireturn, 1) := by decide +kernel
theorem dX8_isStage_88 : decode cX8_isStage 88 = .ok (.aload_n 0, 1) := by decide +kernel
theorem dX8_isStage_89 : decode cX8_isStage 89 = .ok (.getfield 26, 3) := by decide +kernel
theorem dX8_isStage_92 : decode cX8_isStage 92 = .ok (.iload_n 2, 1) := by decide +kernel
theorem dX8_isStage_93 : decode cX8_isStage 93 = .ok (.iconst 2, 1) := by decide +kernel
theorem dX8_isStage_94 : decode cX8_isStage 94 = .ok (.iadd, 1) := by decide +kernel
theorem dX8_isStage_95 : decode cX8_isStage 95 = .ok (.aload_n 0, 1) := by decide +kernel
theorem dX8_isStage_96 : decode cX8_isStage 96 = .ok (.getfield 77, 3) := by decide +kernel
theorem dX8_isStage_99 : decode cX8_isStage 99 = .ok (.iastore, 1) := by decide +kernel
theorem dX8_isStage_100 : decode cX8_isStage 100 = .ok (.aload_n 0, 1) := by decide +kernel
theorem dX8_isStage_101 : decode cX8_isStage 101 = .ok (.dup, 1) := by decide +kernel
theorem dX8_isStage_102 : decode cX8_isStage 102 = .ok (.getfield 83, 3) := by decide +kernel
theorem dX8_isStage_105 : decode cX8_isStage 105 = .ok (.iconst 1, 1) := by decide +kernel
theorem dX8_isStage_106 : decode cX8_isStage 106 = .ok (.iadd, 1) := by decide +kernel
theorem dX8_isStage_107 : decode cX8_isStage 107 = .ok (.putfield 83, 3) := by decide +kernel
theorem dX8_isStage_110 : decode cX8_isStage 110 = .ok (.aload_n 0, 1) := by decide +kernel
theorem dX8_isStage_111 : decode cX8_isStage 111 = .ok (.bipush 59, 2) := by decide +kernel
theorem dX8_isStage_113 : decode cX8_isStage 113 = .ok (.invokevirtual 89, 3) := by decide +kernel
theorem dX8_isStage_116 : decode cX8_isStage 116 = .ok (.ireturn, 1) := by decide +kernel
theorem dX8_isText_0 : decode cX8_isText 0 = .ok (.aload_n 0, 1) := by decide +kernel
theorem dX8_isText_1 : decode cX8_isText 1 = .ok (.iconst 0, 1) := by decide +kernel
theorem dX8_isText_2 : decode cX8_isText 2 = .ok (.putfield 67, 3) := by decide +kernel
theorem dX8_isText_5 : decode cX8_isText 5 = .ok (.aload_n 0, 1) := by decide +kernel
theorem dX8_isText_6 : decode cX8_isText 6 = .ok (.iconst 0, 1) := by decide +kernel
theorem dX8_isText_7 : decode cX8_isText 7 = .ok (.putfield 83, 3) := by decide +kernel
theorem dX8_isText_10 : decode cX8_isText 10 = .ok (.iconst 0, 1) := by decide +kernel
theorem dX8_isText_11 : decode cX8_isText 11 = .ok (.istore_n 1, 1) := by decide +kernel
theorem dX8_isText_12 : decode cX8_isText 12 = .ok (.iconst 1, 1) := by decide +kernel
theorem dX8_isText_13 : decode cX8_isText 13 = .ok (.istore_n 2, 1) := by decide +kernel
theorem dX8_isText_14 : decode cX8_isText 14 = .ok (.iload_n 2, 1) := by decide +kernel
theorem dX8_isText_15 : decode cX8_isText 15 = .ok (.ifCond .eq 47, 3) := by decide +kernel
theorem dX8_isText_18 : decode cX8_isText 18 = .ok (.aload_n 0, 1) := by decide +kernel
theorem dX8_isText_19 : decode cX8_isText 19 = .ok (.getfield 67, 3) := by decide +kernel
theorem dX8_isText_22 : decode cX8_isText 22 = .ok (.aload_n 0, 1) := by decide +kernel
theorem dX8_isText_23 : decode cX8_isText 23 = .ok (.getfield 63, 3) := by decide +kernel
theorem dX8_isText_26 : decode cX8_isText 26 = .ok (.if_icmp .ge 36, 3) := by decide +kernel
theorem dX8_isText_29 : decode cX8_isText 29 = .ok (.aload_n 0, 1) := by decide +kernel
theorem dX8_isText_30 : decode cX8_isText 30 = .ok (.iload_n 1, 1) := by decide +kernel
theorem dX8_isText_31 : decode cX8_isText 31 = .ok (.invokevirtual 94, 3) := by decide +kernel
theorem dX8_isText_34 : decode cX8_isText 34 = .ok (.istore_n 2, 1) := by decide +kernel
theorem dX8_isText_35 : decode cX8_isText 35 = .ok (.iload_n 1, 1) := by decide +kernel
theorem dX8_isText_36 : decode cX8_isText 36 = .ok (.iload_n 2, 1) := by decide +kernel
theorem dX8_isText_37 : decode cX8_isText 37 = .ok (.ifCond .eq 19, 3) := by decide +kernel
theorem dX8_isText_40 : decode cX8_isText 40 = .ok (.aload_n 0, 1) := by decide +kernel
theorem dX8_isText_41 : decode cX8_isText 41 = .ok (.getfield 26, 3) := by decide +kernel
theorem dX8_isText_44 : decode cX8_isText 44 = .ok (.iconst 3, 1) := by decide +kernel
theorem dX8_isText_45 : decode cX8_isText 45 = .ok (.aload_n 0, 1) := by decide +kernel
theorem dX8_isText_46 : decode cX8_isText 46 = .ok (.getfield 83, 3) := by decide +kernel
theorem dX8_isText_49 : decode cX8_isText 49 = .ok (.imul, 1) := by decide +kernel
theorem dX8_isText_50 : decode cX8_isText 50 = .ok (.iconst 3, 1) := by decide +kernel
theorem dX8_isText_51 : decode cX8_isText 51 = .ok (.isub, 1) := by decide +kernel
theorem dX8_isText_52 : decode cX8_isText 52 = .ok (.iaload, 1) := by decide +kernel
theorem dX8_isText_53 : decode cX8_isText 53 = .ok (.goto 4, 3) := by decide +kernel
theorem dX8_isText_56 : decode cX8_isText 56 = .ok (.iconst 0, 1) := by decide +kernel
theorem dX8_isText_57 : decode cX8_isText 57 = .ok (.ior, 1) := by decide +kernel
theorem dX8_isText_58 : decode cX8_isText 58 = .ok (.istore_n 1, 1) := by decide +kernel
theorem dX8_isText_59 : decode cX8_isText 59 = .ok (.goto (-45), 3) := by decide +kernel
theorem dX8_isText_62 : decode cX8_isText 62 = .ok (.iload_n 2, 1) := by decide +kernel
theorem dX8_isText_63 : decode cX8_isText 63 = .ok (.ireturn, 1) := by decide +kernel
theorem dX8_faultPosition_0 : decode cX8_faultPosition 0 = .ok (.aload_n 0, 1) := by decide +kernel
theorem dX8_faultPosition_1 : decode cX8_faultPosition 1 = .ok (.invokevirtual 97, 3) := by decide +kernel
theorem dX8_faultPosition_4 : decode cX8_faultPosition 4 = .ok (.ifCond .eq 8, 3) := by decide +kernel
theorem dX8_faultPosition_7 : decode cX8_faultPosition 7 = .ok (.bipush (-15), 2) := by decide +kernel
theorem dX8_faultPosition_9 : decode cX8_faultPosition 9 = .ok (.goto 7, 3) := by decide +kernel
theorem dX8_faultPosition_12 : decode cX8_faultPosition 12 = .ok (.aload_n 0, 1) := by decide +kernel
theorem dX8_faultPosition_13 : decode cX8_faultPosition 13 = .ok (.getfield 67, 3) := by decide +kernel
theorem dX8_faultPosition_16 : decode cX8_faultPosition 16 = .ok (.ireturn, 1) := by decide +kernel
theorem dX8_read_0 : decode cX8_read 0 = .ok (.aload_n 0, 1) := by decide +kernel
theorem dX8_read_1 : decode cX8_read 1 = .ok (.iload_n 1, 1) := by decide +kernel
theorem dX8_read_2 : decode cX8_read 2 = .ok (.invokevirtual 48, 3) := by decide +kernel
theorem dX8_read_5 : decode cX8_read 5 = .ok (.ifCond .ne 6, 3) := by decide +kernel
theorem dX8_read_8 : decode cX8_read 8 = .ok (.bipush (-11), 2) := by decide +kernel
theorem dX8_read_10 : decode cX8_read 10 = .ok (.ireturn, 1) := by decide +kernel
theorem dX8_read_11 : decode cX8_read 11 = .ok (.aload_n 0, 1) := by decide +kernel
theorem dX8_read_12 : decode cX8_read 12 = .ok (.invokevirtual 97, 3) := by decide +kernel
theorem dX8_read_15 : decode cX8_read 15 = .ok (.ifCond .eq 16, 3) := by decide +kernel
theorem dX8_read_18 : decode cX8_read 18 = .ok (.aload_n 0, 1) := by decide +kernel
theorem dX8_read_19 : decode cX8_read 19 = .ok (.getfield 7, 3) := by decide +kernel
theorem dX8_read_22 : decode cX8_read 22 = .ok (.iload_n 1, 1) := by decide +kernel
theorem dX8_read_23 : decode cX8_read 23 = .ok (.iconst 1, 1) := by decide +kernel
theorem dX8_read_24 : decode cX8_read 24 = .ok (.invokestatic 33, 3) := by decide +kernel
theorem dX8_read_27 : decode cX8_read 27 = .ok (.iaload, 1) := by decide +kernel
theorem dX8_read_28 : decode cX8_read 28 = .ok (.ifCond .eq 6, 3) := by decide +kernel
theorem dX8_read_31 : decode cX8_read 31 = .ok (.bipush (-13), 2) := by decide +kernel
theorem dX8_read_33 : decode cX8_read 33 = .ok (.ireturn, 1) := by decide +kernel
theorem dX8_read_34 : decode cX8_read 34 = .ok (.aload_n 0, 1) := by decide +kernel
theorem dX8_read_35 : decode cX8_read 35 = .ok (.getfield 7, 3) := by decide +kernel
theorem dX8_read_38 : decode cX8_read 38 = .ok (.iload_n 1, 1) := by decide +kernel
theorem dX8_read_39 : decode cX8_read 39 = .ok (.iconst 2, 1) := by decide +kernel
theorem dX8_read_40 : decode cX8_read 40 = .ok (.invokestatic 33, 3) := by decide +kernel
theorem dX8_read_43 : decode cX8_read 43 = .ok (.iconst 0, 1) := by decide +kernel
theorem dX8_read_44 : decode cX8_read 44 = .ok (.iastore, 1) := by decide +kernel
theorem dX8_read_45 : decode cX8_read 45 = .ok (.iconst 0, 1) := by decide +kernel
theorem dX8_read_46 : decode cX8_read 46 = .ok (.istore_n 2, 1) := by decide +kernel
theorem dX8_read_47 : decode cX8_read 47 = .ok (.iload_n 2, 1) := by decide +kernel
theorem dX8_read_48 : decode cX8_read 48 = .ok (.aload_n 0, 1) := by decide +kernel
theorem dX8_read_49 : decode cX8_read 49 = .ok (.getfield 83, 3) := by decide +kernel
theorem dX8_read_52 : decode cX8_read 52 = .ok (.if_icmp .ge 42, 3) := by decide +kernel
theorem dX8_read_55 : decode cX8_read 55 = .ok (.aload_n 0, 1) := by decide +kernel
theorem dX8_read_56 : decode cX8_read 56 = .ok (.iload_n 1, 1) := by decide +kernel
theorem dX8_read_57 : decode cX8_read 57 = .ok (.aload_n 0, 1) := by decide +kernel
theorem dX8_read_58 : decode cX8_read 58 = .ok (.getfield 26, 3) := by decide +kernel
