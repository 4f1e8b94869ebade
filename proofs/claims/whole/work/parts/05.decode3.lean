theorem dX8_read_61 : decode cX8_read 61 = .ok (.iconst 3, 1) := by decide +kernel
theorem dX8_read_62 : decode cX8_read 62 = .ok (.iload_n 2, 1) := by decide +kernel
theorem dX8_read_63 : decode cX8_read 63 = .ok (.imul, 1) := by decide +kernel
theorem dX8_read_64 : decode cX8_read 64 = .ok (.iaload, 1) := by decide +kernel
theorem dX8_read_65 : decode cX8_read 65 = .ok (.aload_n 0, 1) := by decide +kernel
theorem dX8_read_66 : decode cX8_read 66 = .ok (.getfield 26, 3) := by decide +kernel
theorem dX8_read_69 : decode cX8_read 69 = .ok (.iconst 3, 1) := by decide +kernel
theorem dX8_read_70 : decode cX8_read 70 = .ok (.iload_n 2, 1) := by decide +kernel
theorem dX8_read_71 : decode cX8_read 71 = .ok (.imul, 1) := by decide +kernel
theorem dX8_read_72 : decode cX8_read 72 = .ok (.iconst 1, 1) := by decide +kernel
theorem dX8_read_73 : decode cX8_read 73 = .ok (.iadd, 1) := by decide +kernel
theorem dX8_read_74 : decode cX8_read 74 = .ok (.iaload, 1) := by decide +kernel
theorem dX8_read_75 : decode cX8_read 75 = .ok (.aload_n 0, 1) := by decide +kernel
theorem dX8_read_76 : decode cX8_read 76 = .ok (.getfield 26, 3) := by decide +kernel
theorem dX8_read_79 : decode cX8_read 79 = .ok (.iconst 3, 1) := by decide +kernel
theorem dX8_read_80 : decode cX8_read 80 = .ok (.iload_n 2, 1) := by decide +kernel
theorem dX8_read_81 : decode cX8_read 81 = .ok (.imul, 1) := by decide +kernel
theorem dX8_read_82 : decode cX8_read 82 = .ok (.iconst 2, 1) := by decide +kernel
theorem dX8_read_83 : decode cX8_read 83 = .ok (.iadd, 1) := by decide +kernel
theorem dX8_read_84 : decode cX8_read 84 = .ok (.iaload, 1) := by decide +kernel
theorem dX8_read_85 : decode cX8_read 85 = .ok (.invokevirtual 55, 3) := by decide +kernel
theorem dX8_read_88 : decode cX8_read 88 = .ok (.iinc 2 1, 3) := by decide +kernel
theorem dX8_read_91 : decode cX8_read 91 = .ok (.goto (-44), 3) := by decide +kernel
theorem dX8_read_94 : decode cX8_read 94 = .ok (.aload_n 0, 1) := by decide +kernel
theorem dX8_read_95 : decode cX8_read 95 = .ok (.getfield 83, 3) := by decide +kernel
theorem dX8_read_98 : decode cX8_read 98 = .ok (.ireturn, 1) := by decide +kernel
theorem dX8_notes_0 : decode cX8_notes 0 = .ok (.aload_n 0, 1) := by decide +kernel
theorem dX8_notes_1 : decode cX8_notes 1 = .ok (.getfield 7, 3) := by decide +kernel
theorem dX8_notes_4 : decode cX8_notes 4 = .ok (.bipush 11, 2) := by decide +kernel
theorem dX8_notes_6 : decode cX8_notes 6 = .ok (.iaload, 1) := by decide +kernel
theorem dX8_notes_7 : decode cX8_notes 7 = .ok (.bipush 20, 2) := by decide +kernel
theorem dX8_notes_9 : decode cX8_notes 9 = .ok (.if_icmp .ne 45, 3) := by decide +kernel
theorem dX8_notes_12 : decode cX8_notes 12 = .ok (.bipush 12, 2) := by decide +kernel
theorem dX8_notes_14 : decode cX8_notes 14 = .ok (.istore 4, 2) := by decide +kernel
theorem dX8_notes_16 : decode cX8_notes 16 = .ok (.iload 4, 2) := by decide +kernel
theorem dX8_notes_18 : decode cX8_notes 18 = .ok (.bipush 88, 2) := by decide +kernel
theorem dX8_notes_20 : decode cX8_notes 20 = .ok (.if_icmp .ge 25, 3) := by decide +kernel
theorem dX8_notes_23 : decode cX8_notes 23 = .ok (.aload_n 0, 1) := by decide +kernel
theorem dX8_notes_24 : decode cX8_notes 24 = .ok (.getfield 7, 3) := by decide +kernel
theorem dX8_notes_27 : decode cX8_notes 27 = .ok (.iload 4, 2) := by decide +kernel
theorem dX8_notes_29 : decode cX8_notes 29 = .ok (.aload_n 0, 1) := by decide +kernel
theorem dX8_notes_30 : decode cX8_notes 30 = .ok (.getfield 7, 3) := by decide +kernel
theorem dX8_notes_33 : decode cX8_notes 33 = .ok (.iload 4, 2) := by decide +kernel
theorem dX8_notes_35 : decode cX8_notes 35 = .ok (.iconst 4, 1) := by decide +kernel
theorem dX8_notes_36 : decode cX8_notes 36 = .ok (.iadd, 1) := by decide +kernel
theorem dX8_notes_37 : decode cX8_notes 37 = .ok (.iaload, 1) := by decide +kernel
theorem dX8_notes_38 : decode cX8_notes 38 = .ok (.iastore, 1) := by decide +kernel
theorem dX8_notes_39 : decode cX8_notes 39 = .ok (.iinc 4 1, 3) := by decide +kernel
theorem dX8_notes_42 : decode cX8_notes 42 = .ok (.goto (-26), 3) := by decide +kernel
theorem dX8_notes_45 : decode cX8_notes 45 = .ok (.aload_n 0, 1) := by decide +kernel
theorem dX8_notes_46 : decode cX8_notes 46 = .ok (.getfield 7, 3) := by decide +kernel
theorem dX8_notes_49 : decode cX8_notes 49 = .ok (.bipush 11, 2) := by decide +kernel
theorem dX8_notes_51 : decode cX8_notes 51 = .ok (.bipush 19, 2) := by decide +kernel
theorem dX8_notes_53 : decode cX8_notes 53 = .ok (.iastore, 1) := by decide +kernel
theorem dX8_notes_54 : decode cX8_notes 54 = .ok (.bipush 12, 2) := by decide +kernel
theorem dX8_notes_56 : decode cX8_notes 56 = .ok (.iconst 4, 1) := by decide +kernel
theorem dX8_notes_57 : decode cX8_notes 57 = .ok (.aload_n 0, 1) := by decide +kernel
theorem dX8_notes_58 : decode cX8_notes 58 = .ok (.getfield 7, 3) := by decide +kernel
theorem dX8_notes_61 : decode cX8_notes 61 = .ok (.bipush 11, 2) := by decide +kernel
theorem dX8_notes_63 : decode cX8_notes 63 = .ok (.iaload, 1) := by decide +kernel
theorem dX8_notes_64 : decode cX8_notes 64 = .ok (.imul, 1) := by decide +kernel
theorem dX8_notes_65 : decode cX8_notes 65 = .ok (.iadd, 1) := by decide +kernel
theorem dX8_notes_66 : decode cX8_notes 66 = .ok (.istore 4, 2) := by decide +kernel
theorem dX8_notes_68 : decode cX8_notes 68 = .ok (.aload_n 0, 1) := by decide +kernel
theorem dX8_notes_69 : decode cX8_notes 69 = .ok (.getfield 7, 3) := by decide +kernel
theorem dX8_notes_72 : decode cX8_notes 72 = .ok (.iload 4, 2) := by decide +kernel
theorem dX8_notes_74 : decode cX8_notes 74 = .ok (.aload_n 0, 1) := by decide +kernel
theorem dX8_notes_75 : decode cX8_notes 75 = .ok (.getfield 7, 3) := by decide +kernel
theorem dX8_notes_78 : decode cX8_notes 78 = .ok (.iconst 1, 1) := by decide +kernel
theorem dX8_notes_79 : decode cX8_notes 79 = .ok (.iaload, 1) := by decide +kernel
theorem dX8_notes_80 : decode cX8_notes 80 = .ok (.iastore, 1) := by decide +kernel
theorem dX8_notes_81 : decode cX8_notes 81 = .ok (.aload_n 0, 1) := by decide +kernel
theorem dX8_notes_82 : decode cX8_notes 82 = .ok (.getfield 7, 3) := by decide +kernel
theorem dX8_notes_85 : decode cX8_notes 85 = .ok (.iload 4, 2) := by decide +kernel
theorem dX8_notes_87 : decode cX8_notes 87 = .ok (.iconst 1, 1) := by decide +kernel
theorem dX8_notes_88 : decode cX8_notes 88 = .ok (.iadd, 1) := by decide +kernel
theorem dX8_notes_89 : decode cX8_notes 89 = .ok (.iload_n 1, 1) := by decide +kernel
theorem dX8_notes_90 : decode cX8_notes 90 = .ok (.iastore, 1) := by decide +kernel
theorem dX8_notes_91 : decode cX8_notes 91 = .ok (.aload_n 0, 1) := by decide +kernel
theorem dX8_notes_92 : decode cX8_notes 92 = .ok (.getfield 7, 3) := by decide +kernel
theorem dX8_notes_95 : decode cX8_notes 95 = .ok (.iload 4, 2) := by decide +kernel
theorem dX8_notes_97 : decode cX8_notes 97 = .ok (.iconst 2, 1) := by decide +kernel
theorem dX8_notes_98 : decode cX8_notes 98 = .ok (.iadd, 1) := by decide +kernel
theorem dX8_notes_99 : decode cX8_notes 99 = .ok (.iload_n 2, 1) := by decide +kernel
theorem dX8_notes_100 : decode cX8_notes 100 = .ok (.iastore, 1) := by decide +kernel
theorem dX8_notes_101 : decode cX8_notes 101 = .ok (.aload_n 0, 1) := by decide +kernel
theorem dX8_notes_102 : decode cX8_notes 102 = .ok (.getfield 7, 3) := by decide +kernel
theorem dX8_notes_105 : decode cX8_notes 105 = .ok (.iload 4, 2) := by decide +kernel
theorem dX8_notes_107 : decode cX8_notes 107 = .ok (.iconst 3, 1) := by decide +kernel
theorem dX8_notes_108 : decode cX8_notes 108 = .ok (.iadd, 1) := by decide +kernel
theorem dX8_notes_109 : decode cX8_notes 109 = .ok (.iload_n 3, 1) := by decide +kernel
theorem dX8_notes_110 : decode cX8_notes 110 = .ok (.iastore, 1) := by decide +kernel
theorem dX8_notes_111 : decode cX8_notes 111 = .ok (.aload_n 0, 1) := by decide +kernel
theorem dX8_notes_112 : decode cX8_notes 112 = .ok (.getfield 7, 3) := by decide +kernel
theorem dX8_notes_115 : decode cX8_notes 115 = .ok (.bipush 11, 2) := by decide +kernel
theorem dX8_notes_117 : decode cX8_notes 117 = .ok (.dup2, 1) := by decide +kernel
theorem dX8_notes_118 : decode cX8_notes 118 = .ok (.iaload, 1) := by decide +kernel
theorem dX8_notes_119 : decode cX8_notes 119 = .ok (.iconst 1, 1) := by decide +kernel
theorem dX8_notes_120 : decode cX8_notes 120 = .ok (.iadd, 1) := by decide +kernel
theorem dX8_notes_121 : decode cX8_notes 121 = .ok (.iastore, 1) := by decide +kernel
theorem dX8_notes_122 : decode cX8_notes 122 = .ok (.aload_n 0, 1) := by decide +kernel
theorem dX8_notes_123 : decode cX8_notes 123 = .ok (.dup, 1) := by decide +kernel
theorem dX8_notes_124 : decode cX8_notes 124 = .ok (.getfield 101, 3) := by decide +kernel
theorem dX8_notes_127 : decode cX8_notes 127 = .ok (.iconst 1, 1) := by decide +kernel
theorem dX8_notes_128 : decode cX8_notes 128 = .ok (.iadd, 1) := by decide +kernel
theorem dX8_notes_129 : decode cX8_notes 129 = .ok (.putfield 101, 3) := by decide +kernel
theorem dX8_notes_132 : decode cX8_notes 132 = .ok (.return_, 1) := by decide +kernel
theorem dX8_start_0 : decode cX8_start 0 = .ok (.aload_n 0, 1) := by decide +kernel
theorem dX8_start_1 : decode cX8_start 1 = .ok (.iload_n 1, 1) := by decide +kernel
theorem dX8_start_2 : decode cX8_start 2 = .ok (.invokevirtual 48, 3) := by decide +kernel
theorem dX8_start_5 : decode cX8_start 5 = .ok (.ifCond .ne 6, 3) := by decide +kernel
theorem dX8_start_8 : decode cX8_start 8 = .ok (.bipush (-11), 2) := by decide +kernel
theorem dX8_start_10 : decode cX8_start 10 = .ok (.ireturn, 1) := by decide +kernel
theorem dX8_start_11 : decode cX8_start 11 = .ok (.aload_n 0, 1) := by decide +kernel
theorem dX8_start_12 : decode cX8_start 12 = .ok (.getfield 7, 3) := by decide +kernel
theorem dX8_start_15 : decode cX8_start 15 = .ok (.iload_n 1, 1) := by decide +kernel
theorem dX8_start_16 : decode cX8_start 16 = .ok (.iconst 1, 1) := by decide +kernel
theorem dX8_start_17 : decode cX8_start 17 = .ok (.invokestatic 33, 3) := by decide +kernel
theorem dX8_start_20 : decode cX8_start 20 = .ok (.iaload, 1) := by decide +kernel
theorem dX8_start_21 : decode cX8_start 21 = .ok (.ifCond .ne 16, 3) := by decide +kernel
theorem dX8_start_24 : decode cX8_start 24 = .ok (.aload_n 0, 1) := by decide +kernel
theorem dX8_start_25 : decode cX8_start 25 = .ok (.getfield 7, 3) := by decide +kernel
theorem dX8_start_28 : decode cX8_start 28 = .ok (.iload_n 1, 1) := by decide +kernel
theorem dX8_start_29 : decode cX8_start 29 = .ok (.iconst 2, 1) := by decide +kernel
theorem dX8_start_30 : decode cX8_start 30 = .ok (.invokestatic 33, 3) := by decide +kernel
theorem dX8_start_33 : decode cX8_start 33 = .ok (.iaload, 1) := by decide +kernel
theorem dX8_start_34 : decode cX8_start 34 = .ok (.ifCond .ne 6, 3) := by decide +kernel
theorem dX8_start_37 : decode cX8_start 37 = .ok (.bipush (-13), 2) := by decide +kernel
theorem dX8_start_39 : decode cX8_start 39 = .ok (.ireturn, 1) := by decide +kernel
theorem dX8_start_40 : decode cX8_start 40 = .ok (.aload_n 0, 1) := by decide +kernel
theorem dX8_start_41 : decode cX8_start 41 = .ok (.getfield 7, 3) := by decide +kernel
theorem dX8_start_44 : decode cX8_start 44 = .ok (.iload_n 1, 1) := by decide +kernel
theorem dX8_start_45 : decode cX8_start 45 = .ok (.iconst 1, 1) := by decide +kernel
theorem dX8_start_46 : decode cX8_start 46 = .ok (.invokestatic 33, 3) := by decide +kernel
theorem dX8_start_49 : decode cX8_start 49 = .ok (.iconst 1, 1) := by decide +kernel
theorem dX8_start_50 : decode cX8_start 50 = .ok (.iastore, 1) := by decide +kernel
theorem dX8_start_51 : decode cX8_start 51 = .ok (.aload_n 0, 1) := by decide +kernel
theorem dX8_start_52 : decode cX8_start 52 = .ok (.getfield 7, 3) := by decide +kernel
theorem dX8_start_55 : decode cX8_start 55 = .ok (.iload_n 1, 1) := by decide +kernel
theorem dX8_start_56 : decode cX8_start 56 = .ok (.iconst 2, 1) := by decide +kernel
theorem dX8_start_57 : decode cX8_start 57 = .ok (.invokestatic 33, 3) := by decide +kernel
theorem dX8_start_60 : decode cX8_start 60 = .ok (.iaload, 1) := by decide +kernel
theorem dX8_start_61 : decode cX8_start 61 = .ok (.ireturn, 1) := by decide +kernel
theorem dX8_becomes_0 : decode cX8_becomes 0 = .ok (.aload_n 0, 1) := by decide +kernel
theorem dX8_becomes_1 : decode cX8_becomes 1 = .ok (.getfield 7, 3) := by decide +kernel
theorem dX8_becomes_4 : decode cX8_becomes 4 = .ok (.iload_n 1, 1) := by decide +kernel
theorem dX8_becomes_5 : decode cX8_becomes 5 = .ok (.iconst 1, 1) := by decide +kernel
theorem dX8_becomes_6 : decode cX8_becomes 6 = .ok (.invokestatic 33, 3) := by decide +kernel
theorem dX8_becomes_9 : decode cX8_becomes 9 = .ok (.iload_n 2, 1) := by decide +kernel
theorem dX8_becomes_10 : decode cX8_becomes 10 = .ok (.iastore, 1) := by decide +kernel
theorem dX8_becomes_11 : decode cX8_becomes 11 = .ok (.aload_n 0, 1) := by decide +kernel
theorem dX8_becomes_12 : decode cX8_becomes 12 = .ok (.iload_n 1, 1) := by decide +kernel
theorem dX8_becomes_13 : decode cX8_becomes 13 = .ok (.iload_n 3, 1) := by decide +kernel
theorem dX8_becomes_14 : decode cX8_becomes 14 = .ok (.bipush (-15), 2) := by decide +kernel
theorem dX8_becomes_16 : decode cX8_becomes 16 = .ok (.invokevirtual 104, 3) := by decide +kernel
theorem dX8_becomes_19 : decode cX8_becomes 19 = .ok (.aload_n 0, 1) := by decide +kernel
theorem dX8_becomes_20 : decode cX8_becomes 20 = .ok (.getfield 7, 3) := by decide +kernel
theorem dX8_becomes_23 : decode cX8_becomes 23 = .ok (.iload_n 1, 1) := by decide +kernel
theorem dX8_becomes_24 : decode cX8_becomes 24 = .ok (.iconst 3, 1) := by decide +kernel
theorem dX8_becomes_25 : decode cX8_becomes 25 = .ok (.invokestatic 33, 3) := by decide +kernel
theorem dX8_becomes_28 : decode cX8_becomes 28 = .ok (.iaload, 1) := by decide +kernel
theorem dX8_becomes_29 : decode cX8_becomes 29 = .ok (.ireturn, 1) := by decide +kernel
theorem dX8_hold_0 : decode cX8_hold 0 = .ok (.aload_n 0, 1) := by decide +kernel
theorem dX8_hold_1 : decode cX8_hold 1 = .ok (.iload_n 1, 1) := by decide +kernel
theorem dX8_hold_2 : decode cX8_hold 2 = .ok (.invokevirtual 48, 3) := by decide +kernel
theorem dX8_hold_5 : decode cX8_hold 5 = .ok (.ifCond .ne 6, 3) := by decide +kernel
theorem dX8_hold_8 : decode cX8_hold 8 = .ok (.bipush (-11), 2) := by decide +kernel
theorem dX8_hold_10 : decode cX8_hold 10 = .ok (.ireturn, 1) := by decide +kernel
theorem dX8_hold_11 : decode cX8_hold 11 = .ok (.aload_n 0, 1) := by decide +kernel
theorem dX8_hold_12 : decode cX8_hold 12 = .ok (.getfield 7, 3) := by decide +kernel
theorem dX8_hold_15 : decode cX8_hold 15 = .ok (.iload_n 1, 1) := by decide +kernel
theorem dX8_hold_16 : decode cX8_hold 16 = .ok (.iconst 1, 1) := by decide +kernel
theorem dX8_hold_17 : decode cX8_hold 17 = .ok (.invokestatic 33, 3) := by decide +kernel
theorem dX8_hold_20 : decode cX8_hold 20 = .ok (.iaload, 1) := by decide +kernel
theorem dX8_hold_21 : decode cX8_hold 21 = .ok (.iconst 1, 1) := by decide +kernel
theorem dX8_hold_22 : decode cX8_hold 22 = .ok (.if_icmp .ne 14, 3) := by decide +kernel
theorem dX8_hold_25 : decode cX8_hold 25 = .ok (.aload_n 0, 1) := by decide +kernel
theorem dX8_hold_26 : decode cX8_hold 26 = .ok (.iload_n 1, 1) := by decide +kernel
theorem dX8_hold_27 : decode cX8_hold 27 = .ok (.iconst 2, 1) := by decide +kernel
theorem dX8_hold_28 : decode cX8_hold 28 = .ok (.bipush 6, 2) := by decide +kernel
theorem dX8_hold_30 : decode cX8_hold 30 = .ok (.invokevirtual 108, 3) := by decide +kernel
theorem dX8_hold_33 : decode cX8_hold 33 = .ok (.goto 5, 3) := by decide +kernel
theorem dX8_hold_36 : decode cX8_hold 36 = .ok (.bipush (-13), 2) := by decide +kernel
theorem dX8_hold_38 : decode cX8_hold 38 = .ok (.ireturn, 1) := by decide +kernel
theorem dX8_resume_0 : decode cX8_resume 0 = .ok (.aload_n 0, 1) := by decide +kernel
theorem dX8_resume_1 : decode cX8_resume 1 = .ok (.iload_n 1, 1) := by decide +kernel
theorem dX8_resume_2 : decode cX8_resume 2 = .ok (.invokevirtual 48, 3) := by decide +kernel
theorem dX8_resume_5 : decode cX8_resume 5 = .ok (.ifCond .ne 6, 3) := by decide +kernel
theorem dX8_resume_8 : decode cX8_resume 8 = .ok (.bipush (-11), 2) := by decide +kernel
theorem dX8_resume_10 : decode cX8_resume 10 = .ok (.ireturn, 1) := by decide +kernel
theorem dX8_resume_11 : decode cX8_resume 11 = .ok (.aload_n 0, 1) := by decide +kernel
theorem dX8_resume_12 : decode cX8_resume 12 = .ok (.getfield 7, 3) := by decide +kernel
theorem dX8_resume_15 : decode cX8_resume 15 = .ok (.iload_n 1, 1) := by decide +kernel
theorem dX8_resume_16 : decode cX8_resume 16 = .ok (.iconst 1, 1) := by decide +kernel
theorem dX8_resume_17 : decode cX8_resume 17 = .ok (.invokestatic 33, 3) := by decide +kernel
theorem dX8_resume_20 : decode cX8_resume 20 = .ok (.iaload, 1) := by decide +kernel
theorem dX8_resume_21 : decode cX8_resume 21 = .ok (.iconst 2, 1) := by decide +kernel
theorem dX8_resume_22 : decode cX8_resume 22 = .ok (.if_icmp .ne 14, 3) := by decide +kernel
theorem dX8_resume_25 : decode cX8_resume 25 = .ok (.aload_n 0, 1) := by decide +kernel
theorem dX8_resume_26 : decode cX8_resume 26 = .ok (.iload_n 1, 1) := by decide +kernel
theorem dX8_resume_27 : decode cX8_resume 27 = .ok (.iconst 1, 1) := by decide +kernel
theorem dX8_resume_28 : decode cX8_resume 28 = .ok (.bipush 7, 2) := by decide +kernel
theorem dX8_resume_30 : decode cX8_resume 30 = .ok (.invokevirtual 108, 3) := by decide +kernel
theorem dX8_resume_33 : decode cX8_resume 33 = .ok (.goto 5, 3) := by decide +kernel
theorem dX8_resume_36 : decode cX8_resume 36 = .ok (.bipush (-13), 2) := by decide +kernel
theorem dX8_resume_38 : decode cX8_resume 38 = .ok (.ireturn, 1) := by decide +kernel
theorem dX8_turnBack_0 : decode cX8_turnBack 0 = .ok (.aload_n 0, 1) := by decide +kernel
theorem dX8_turnBack_1 : decode cX8_turnBack 1 = .ok (.iload_n 1, 1) := by decide +kernel
theorem dX8_turnBack_2 : decode cX8_turnBack 2 = .ok (.invokevirtual 48, 3) := by decide +kernel
theorem dX8_turnBack_5 : decode cX8_turnBack 5 = .ok (.ifCond .ne 6, 3) := by decide +kernel
theorem dX8_turnBack_8 : decode cX8_turnBack 8 = .ok (.bipush (-11), 2) := by decide +kernel
theorem dX8_turnBack_10 : decode cX8_turnBack 10 = .ok (.ireturn, 1) := by decide +kernel
theorem dX8_turnBack_11 : decode cX8_turnBack 11 = .ok (.aload_n 0, 1) := by decide +kernel
theorem dX8_turnBack_12 : decode cX8_turnBack 12 = .ok (.getfield 7, 3) := by decide +kernel
theorem dX8_turnBack_15 : decode cX8_turnBack 15 = .ok (.iload_n 1, 1) := by decide +kernel
theorem dX8_turnBack_16 : decode cX8_turnBack 16 = .ok (.iconst 1, 1) := by decide +kernel
theorem dX8_turnBack_17 : decode cX8_turnBack 17 = .ok (.invokestatic 33, 3) := by decide +kernel
theorem dX8_turnBack_20 : decode cX8_turnBack 20 = .ok (.iaload, 1) := by decide +kernel
theorem dX8_turnBack_21 : decode cX8_turnBack 21 = .ok (.iconst 1, 1) := by decide +kernel
theorem dX8_turnBack_22 : decode cX8_turnBack 22 = .ok (.iconst 3, 1) := by decide +kernel
theorem dX8_turnBack_23 : decode cX8_turnBack 23 = .ok (.invokestatic 37, 3) := by decide +kernel
theorem dX8_turnBack_26 : decode cX8_turnBack 26 = .ok (.ifCond .eq 13, 3) := by decide +kernel
theorem dX8_turnBack_29 : decode cX8_turnBack 29 = .ok (.aload_n 0, 1) := by decide +kernel
theorem dX8_turnBack_30 : decode cX8_turnBack 30 = .ok (.iload_n 1, 1) := by decide +kernel
theorem dX8_turnBack_31 : decode cX8_turnBack 31 = .ok (.iconst 4, 1) := by decide +kernel
theorem dX8_turnBack_32 : decode cX8_turnBack 32 = .ok (.iconst 3, 1) := by decide +kernel
theorem dX8_turnBack_33 : decode cX8_turnBack 33 = .ok (.invokevirtual 108, 3) := by decide +kernel
theorem dX8_turnBack_36 : decode cX8_turnBack 36 = .ok (.goto 5, 3) := by decide +kernel
theorem dX8_turnBack_39 : decode cX8_turnBack 39 = .ok (.bipush (-13), 2) := by decide +kernel
theorem dX8_turnBack_41 : decode cX8_turnBack 41 = .ok (.ireturn, 1) := by decide +kernel
theorem dX8_isOut_0 : decode cX8_isOut 0 = .ok (.aload_n 0, 1) := by decide +kernel
theorem dX8_isOut_1 : decode cX8_isOut 1 = .ok (.getfield 7, 3) := by decide +kernel
theorem dX8_isOut_4 : decode cX8_isOut 4 = .ok (.iload_n 1, 1) := by decide +kernel
theorem dX8_isOut_5 : decode cX8_isOut 5 = .ok (.iconst 1, 1) := by decide +kernel
theorem dX8_isOut_6 : decode cX8_isOut 6 = .ok (.invokestatic 33, 3) := by decide +kernel
theorem dX8_isOut_9 : decode cX8_isOut 9 = .ok (.iaload, 1) := by decide +kernel
theorem dX8_isOut_10 : decode cX8_isOut 10 = .ok (.iconst 1, 1) := by decide +kernel
theorem dX8_isOut_11 : decode cX8_isOut 11 = .ok (.iconst 2, 1) := by decide +kernel
theorem dX8_isOut_12 : decode cX8_isOut 12 = .ok (.invokestatic 37, 3) := by decide +kernel
theorem dX8_isOut_15 : decode cX8_isOut 15 = .ok (.ifCond .eq 20, 3) := by decide +kernel
theorem dX8_isOut_18 : decode cX8_isOut 18 = .ok (.aload_n 0, 1) := by decide +kernel
theorem dX8_isOut_19 : decode cX8_isOut 19 = .ok (.getfield 7, 3) := by decide +kernel
theorem dX8_isOut_22 : decode cX8_isOut 22 = .ok (.iload_n 1, 1) := by decide +kernel
theorem dX8_isOut_23 : decode cX8_isOut 23 = .ok (.iconst 3, 1) := by decide +kernel
theorem dX8_isOut_24 : decode cX8_isOut 24 = .ok (.invokestatic 33, 3) := by decide +kernel
theorem dX8_isOut_27 : decode cX8_isOut 27 = .ok (.iaload, 1) := by decide +kernel
theorem dX8_isOut_28 : decode cX8_isOut 28 = .ok (.ifCond .le 7, 3) := by decide +kernel
theorem dX8_isOut_31 : decode cX8_isOut 31 = .ok (.iconst 1, 1) := by decide +kernel
theorem dX8_isOut_32 : decode cX8_isOut 32 = .ok (.goto 4, 3) := by decide +kernel
theorem dX8_isOut_35 : decode cX8_isOut 35 = .ok (.iconst 0, 1) := by decide +kernel
theorem dX8_isOut_36 : decode cX8_isOut 36 = .ok (.ireturn, 1) := by decide +kernel
theorem dX8_reached_0 : decode cX8_reached 0 = .ok (.aload_n 0, 1) := by decide +kernel
theorem dX8_reached_1 : decode cX8_reached 1 = .ok (.iload_n 1, 1) := by decide +kernel
theorem dX8_reached_2 : decode cX8_reached 2 = .ok (.aload_n 0, 1) := by decide +kernel
theorem dX8_reached_3 : decode cX8_reached 3 = .ok (.getfield 7, 3) := by decide +kernel
theorem dX8_reached_6 : decode cX8_reached 6 = .ok (.iload_n 1, 1) := by decide +kernel
theorem dX8_reached_7 : decode cX8_reached 7 = .ok (.iconst 3, 1) := by decide +kernel
theorem dX8_reached_8 : decode cX8_reached 8 = .ok (.invokestatic 33, 3) := by decide +kernel
theorem dX8_reached_11 : decode cX8_reached 11 = .ok (.iaload, 1) := by decide +kernel
theorem dX8_reached_12 : decode cX8_reached 12 = .ok (.invokevirtual 52, 3) := by decide +kernel
theorem dX8_reached_15 : decode cX8_reached 15 = .ok (.ireturn, 1) := by decide +kernel
theorem dX8_report_0 : decode cX8_report 0 = .ok (.aload_n 0, 1) := by decide +kernel
theorem dX8_report_1 : decode cX8_report 1 = .ok (.iload_n 1, 1) := by decide +kernel
theorem dX8_report_2 : decode cX8_report 2 = .ok (.invokevirtual 80, 3) := by decide +kernel
theorem dX8_report_5 : decode cX8_report 5 = .ok (.ifCond .ne 6, 3) := by decide +kernel
theorem dX8_report_8 : decode cX8_report 8 = .ok (.bipush (-11), 2) := by decide +kernel
theorem dX8_report_10 : decode cX8_report 10 = .ok (.ireturn, 1) := by decide +kernel
theorem dX8_report_11 : decode cX8_report 11 = .ok (.iload_n 2, 1) := by decide +kernel
theorem dX8_report_12 : decode cX8_report 12 = .ok (.iconst 0, 1) := by decide +kernel
theorem dX8_report_13 : decode cX8_report 13 = .ok (.bipush 9, 2) := by decide +kernel
theorem dX8_report_15 : decode cX8_report 15 = .ok (.invokestatic 37, 3) := by decide +kernel
theorem dX8_report_18 : decode cX8_report 18 = .ok (.ifCond .eq 13, 3) := by decide +kernel
theorem dX8_report_21 : decode cX8_report 21 = .ok (.iload_n 3, 1) := by decide +kernel
theorem dX8_report_22 : decode cX8_report 22 = .ok (.iconst 0, 1) := by decide +kernel
theorem dX8_report_23 : decode cX8_report 23 = .ok (.bipush 9, 2) := by decide +kernel
theorem dX8_report_25 : decode cX8_report 25 = .ok (.invokestatic 37, 3) := by decide +kernel
theorem dX8_report_28 : decode cX8_report 28 = .ok (.ifCond .ne 6, 3) := by decide +kernel
theorem dX8_report_31 : decode cX8_report 31 = .ok (.bipush (-12), 2) := by decide +kernel
theorem dX8_report_33 : decode cX8_report 33 = .ok (.ireturn, 1) := by decide +kernel
theorem dX8_report_34 : decode cX8_report 34 = .ok (.iconst 0, 1) := by decide +kernel
theorem dX8_report_35 : decode cX8_report 35 = .ok (.istore 4, 2) := by decide +kernel
theorem dX8_report_37 : decode cX8_report 37 = .ok (.iconst 0, 1) := by decide +kernel
theorem dX8_report_38 : decode cX8_report 38 = .ok (.istore 5, 2) := by decide +kernel
theorem dX8_report_40 : decode cX8_report 40 = .ok (.iload 5, 2) := by decide +kernel
theorem dX8_report_42 : decode cX8_report 42 = .ok (.aload_n 0, 1) := by decide +kernel
theorem dX8_report_43 : decode cX8_report 43 = .ok (.getfield 7, 3) := by decide +kernel
theorem dX8_report_46 : decode cX8_report 46 = .ok (.bipush 10, 2) := by decide +kernel
theorem dX8_report_48 : decode cX8_report 48 = .ok (.iaload, 1) := by decide +kernel
theorem dX8_report_49 : decode cX8_report 49 = .ok (.if_icmp .ge 99, 3) := by decide +kernel
theorem dX8_report_52 : decode cX8_report 52 = .ok (.iload 5, 2) := by decide +kernel
theorem dX8_report_54 : decode cX8_report 54 = .ok (.iconst 5, 1) := by decide +kernel
theorem dX8_report_55 : decode cX8_report 55 = .ok (.invokestatic 33, 3) := by decide +kernel
theorem dX8_report_58 : decode cX8_report 58 = .ok (.aload_n 0, 1) := by decide +kernel
theorem dX8_report_59 : decode cX8_report 59 = .ok (.iload 5, 2) := by decide +kernel
theorem dX8_report_61 : decode cX8_report 61 = .ok (.invokevirtual 111, 3) := by decide +kernel
theorem dX8_report_64 : decode cX8_report 64 = .ok (.iload_n 1, 1) := by decide +kernel
theorem dX8_report_65 : decode cX8_report 65 = .ok (.ishr, 1) := by decide +kernel
theorem dX8_report_66 : decode cX8_report 66 = .ok (.iconst 1, 1) := by decide +kernel
theorem dX8_report_67 : decode cX8_report 67 = .ok (.iand, 1) := by decide +kernel
theorem dX8_report_68 : decode cX8_report 68 = .ok (.iconst 1, 1) := by decide +kernel
theorem dX8_report_69 : decode cX8_report 69 = .ok (.if_icmp .ne 7, 3) := by decide +kernel
theorem dX8_report_72 : decode cX8_report 72 = .ok (.iconst 0, 1) := by decide +kernel
theorem dX8_report_73 : decode cX8_report 73 = .ok (.goto 4, 3) := by decide +kernel
theorem dX8_report_76 : decode cX8_report 76 = .ok (.iconst 2, 1) := by decide +kernel
theorem dX8_report_77 : decode cX8_report 77 = .ok (.iadd, 1) := by decide +kernel
theorem dX8_report_78 : decode cX8_report 78 = .ok (.istore 6, 2) := by decide +kernel
theorem dX8_report_80 : decode cX8_report 80 = .ok (.aload_n 0, 1) := by decide +kernel
theorem dX8_report_81 : decode cX8_report 81 = .ok (.iload 5, 2) := by decide +kernel
theorem dX8_report_83 : decode cX8_report 83 = .ok (.invokevirtual 114, 3) := by decide +kernel
theorem dX8_report_86 : decode cX8_report 86 = .ok (.ifCond .eq 56, 3) := by decide +kernel
theorem dX8_report_89 : decode cX8_report 89 = .ok (.aload_n 0, 1) := by decide +kernel
theorem dX8_report_90 : decode cX8_report 90 = .ok (.getfield 7, 3) := by decide +kernel
theorem dX8_report_93 : decode cX8_report 93 = .ok (.iload 6, 2) := by decide +kernel
theorem dX8_report_95 : decode cX8_report 95 = .ok (.iaload, 1) := by decide +kernel
theorem dX8_report_96 : decode cX8_report 96 = .ok (.aload_n 0, 1) := by decide +kernel
theorem dX8_report_97 : decode cX8_report 97 = .ok (.getfield 7, 3) := by decide +kernel
theorem dX8_report_100 : decode cX8_report 100 = .ok (.iload 6, 2) := by decide +kernel
theorem dX8_report_102 : decode cX8_report 102 = .ok (.iconst 1, 1) := by decide +kernel
theorem dX8_report_103 : decode cX8_report 103 = .ok (.iadd, 1) := by decide +kernel
theorem dX8_report_104 : decode cX8_report 104 = .ok (.iaload, 1) := by decide +kernel
theorem dX8_report_105 : decode cX8_report 105 = .ok (.iadd, 1) := by decide +kernel
theorem dX8_report_106 : decode cX8_report 106 = .ok (.iload_n 2, 1) := by decide +kernel
theorem dX8_report_107 : decode cX8_report 107 = .ok (.iadd, 1) := by decide +kernel
theorem dX8_report_108 : decode cX8_report 108 = .ok (.iload_n 3, 1) := by decide +kernel
theorem dX8_report_109 : decode cX8_report 109 = .ok (.iadd, 1) := by decide +kernel
theorem dX8_report_110 : decode cX8_report 110 = .ok (.bipush 25, 2) := by decide +kernel
theorem dX8_report_112 : decode cX8_report 112 = .ok (.if_icmp .gt 30, 3) := by decide +kernel
theorem dX8_report_115 : decode cX8_report 115 = .ok (.aload_n 0, 1) := by decide +kernel
theorem dX8_report_116 : decode cX8_report 116 = .ok (.getfield 7, 3) := by decide +kernel
theorem dX8_report_119 : decode cX8_report 119 = .ok (.iload 6, 2) := by decide +kernel
theorem dX8_report_121 : decode cX8_report 121 = .ok (.dup2, 1) := by decide +kernel
theorem dX8_report_122 : decode cX8_report 122 = .ok (.iaload, 1) := by decide +kernel
theorem dX8_report_123 : decode cX8_report 123 = .ok (.iload_n 2, 1) := by decide +kernel
theorem dX8_report_124 : decode cX8_report 124 = .ok (.iadd, 1) := by decide +kernel
theorem dX8_report_125 : decode cX8_report 125 = .ok (.iastore, 1) := by decide +kernel
theorem dX8_report_126 : decode cX8_report 126 = .ok (.aload_n 0, 1) := by decide +kernel
theorem dX8_report_127 : decode cX8_report 127 = .ok (.getfield 7, 3) := by decide +kernel
theorem dX8_report_130 : decode cX8_report 130 = .ok (.iload 6, 2) := by decide +kernel
theorem dX8_report_132 : decode cX8_report 132 = .ok (.iconst 1, 1) := by decide +kernel
theorem dX8_report_133 : decode cX8_report 133 = .ok (.iadd, 1) := by decide +kernel
theorem dX8_report_134 : decode cX8_report 134 = .ok (.dup2, 1) := by decide +kernel
theorem dX8_report_135 : decode cX8_report 135 = .ok (.iaload, 1) := by decide +kernel
theorem dX8_report_136 : decode cX8_report 136 = .ok (.iload_n 3, 1) := by decide +kernel
theorem dX8_report_137 : decode cX8_report 137 = .ok (.iadd, 1) := by decide +kernel
theorem dX8_report_138 : decode cX8_report 138 = .ok (.iastore, 1) := by decide +kernel
theorem dX8_report_139 : decode cX8_report 139 = .ok (.iinc 4 1, 3) := by decide +kernel
theorem dX8_report_142 : decode cX8_report 142 = .ok (.iinc 5 1, 3) := by decide +kernel
theorem dX8_report_145 : decode cX8_report 145 = .ok (.goto (-105), 3) := by decide +kernel
theorem dX8_report_148 : decode cX8_report 148 = .ok (.iload 4, 2) := by decide +kernel
theorem dX8_report_150 : decode cX8_report 150 = .ok (.ireturn, 1) := by decide +kernel
theorem dX8_sets_0 : decode cX8_sets 0 = .ok (.iload_n 2, 1) := by decide +kernel
theorem dX8_sets_1 : decode cX8_sets 1 = .ok (.ifCond .lt 8, 3) := by decide +kernel
theorem dX8_sets_4 : decode cX8_sets 4 = .ok (.iload_n 2, 1) := by decide +kernel
theorem dX8_sets_5 : decode cX8_sets 5 = .ok (.iload_n 1, 1) := by decide +kernel
theorem dX8_sets_6 : decode cX8_sets 6 = .ok (.if_icmp .le 5, 3) := by decide +kernel
theorem dX8_sets_9 : decode cX8_sets 9 = .ok (.lconst 0, 1) := by decide +kernel
theorem dX8_sets_10 : decode cX8_sets 10 = .ok (.lreturn, 1) := by decide +kernel
theorem dX8_sets_11 : decode cX8_sets 11 = .ok (.aload_n 0, 1) := by decide +kernel
theorem dX8_sets_12 : decode cX8_sets 12 = .ok (.getfield 29, 3) := by decide +kernel
theorem dX8_sets_15 : decode cX8_sets 15 = .ok (.iconst 0, 1) := by decide +kernel
theorem dX8_sets_16 : decode cX8_sets 16 = .ok (.laload, 1) := by decide +kernel
theorem dX8_sets_17 : decode cX8_sets 17 = .ok (.lconst 0, 1) := by decide +kernel
theorem dX8_sets_18 : decode cX8_sets 18 = .ok (.lcmp, 1) := by decide +kernel
theorem dX8_sets_19 : decode cX8_sets 19 = .ok (.ifCond .ne 97, 3) := by decide +kernel
theorem dX8_sets_22 : decode cX8_sets 22 = .ok (.iconst 0, 1) := by decide +kernel
theorem dX8_sets_23 : decode cX8_sets 23 = .ok (.istore_n 3, 1) := by decide +kernel
theorem dX8_sets_24 : decode cX8_sets 24 = .ok (.iload_n 3, 1) := by decide +kernel
theorem dX8_sets_25 : decode cX8_sets 25 = .ok (.bipush 50, 2) := by decide +kernel
theorem dX8_sets_27 : decode cX8_sets 27 = .ok (.if_icmp .gt 89, 3) := by decide +kernel
theorem dX8_sets_30 : decode cX8_sets 30 = .ok (.aload_n 0, 1) := by decide +kernel
theorem dX8_sets_31 : decode cX8_sets 31 = .ok (.getfield 29, 3) := by decide +kernel
theorem dX8_sets_34 : decode cX8_sets 34 = .ok (.bipush 51, 2) := by decide +kernel
theorem dX8_sets_36 : decode cX8_sets 36 = .ok (.iload_n 3, 1) := by decide +kernel
theorem dX8_sets_37 : decode cX8_sets 37 = .ok (.imul, 1) := by decide +kernel
theorem dX8_sets_38 : decode cX8_sets 38 = .ok (.lconst 1, 1) := by decide +kernel
theorem dX8_sets_39 : decode cX8_sets 39 = .ok (.lastore, 1) := by decide +kernel
theorem dX8_sets_40 : decode cX8_sets 40 = .ok (.iconst 1, 1) := by decide +kernel
theorem dX8_sets_41 : decode cX8_sets 41 = .ok (.istore 4, 2) := by decide +kernel
theorem dX8_sets_43 : decode cX8_sets 43 = .ok (.iload 4, 2) := by decide +kernel
theorem dX8_sets_45 : decode cX8_sets 45 = .ok (.iload_n 3, 1) := by decide +kernel
theorem dX8_sets_46 : decode cX8_sets 46 = .ok (.if_icmp .gt 64, 3) := by decide +kernel
theorem dX8_sets_49 : decode cX8_sets 49 = .ok (.aload_n 0, 1) := by decide +kernel
theorem dX8_sets_50 : decode cX8_sets 50 = .ok (.getfield 29, 3) := by decide +kernel
theorem dX8_sets_53 : decode cX8_sets 53 = .ok (.bipush 51, 2) := by decide +kernel
theorem dX8_sets_55 : decode cX8_sets 55 = .ok (.iload_n 3, 1) := by decide +kernel
theorem dX8_sets_56 : decode cX8_sets 56 = .ok (.imul, 1) := by decide +kernel
theorem dX8_sets_57 : decode cX8_sets 57 = .ok (.iload 4, 2) := by decide +kernel
theorem dX8_sets_59 : decode cX8_sets 59 = .ok (.iadd, 1) := by decide +kernel
theorem dX8_sets_60 : decode cX8_sets 60 = .ok (.aload_n 0, 1) := by decide +kernel
theorem dX8_sets_61 : decode cX8_sets 61 = .ok (.getfield 29, 3) := by decide +kernel
theorem dX8_sets_64 : decode cX8_sets 64 = .ok (.bipush 51, 2) := by decide +kernel
theorem dX8_sets_66 : decode cX8_sets 66 = .ok (.iload_n 3, 1) := by decide +kernel
theorem dX8_sets_67 : decode cX8_sets 67 = .ok (.imul, 1) := by decide +kernel
theorem dX8_sets_68 : decode cX8_sets 68 = .ok (.bipush 51, 2) := by decide +kernel
theorem dX8_sets_70 : decode cX8_sets 70 = .ok (.isub, 1) := by decide +kernel
theorem dX8_sets_71 : decode cX8_sets 71 = .ok (.iload 4, 2) := by decide +kernel
theorem dX8_sets_73 : decode cX8_sets 73 = .ok (.iadd, 1) := by decide +kernel
theorem dX8_sets_74 : decode cX8_sets 74 = .ok (.iconst 1, 1) := by decide +kernel
theorem dX8_sets_75 : decode cX8_sets 75 = .ok (.isub, 1) := by decide +kernel
theorem dX8_sets_76 : decode cX8_sets 76 = .ok (.laload, 1) := by decide +kernel
theorem dX8_sets_77 : decode cX8_sets 77 = .ok (.iload 4, 2) := by decide +kernel
theorem dX8_sets_79 : decode cX8_sets 79 = .ok (.iload_n 3, 1) := by decide +kernel
theorem dX8_sets_80 : decode cX8_sets 80 = .ok (.if_icmp .ge 21, 3) := by decide +kernel
theorem dX8_sets_83 : decode cX8_sets 83 = .ok (.aload_n 0, 1) := by decide +kernel
theorem dX8_sets_84 : decode cX8_sets 84 = .ok (.getfield 29, 3) := by decide +kernel
theorem dX8_sets_87 : decode cX8_sets 87 = .ok (.bipush 51, 2) := by decide +kernel
theorem dX8_sets_89 : decode cX8_sets 89 = .ok (.iload_n 3, 1) := by decide +kernel
theorem dX8_sets_90 : decode cX8_sets 90 = .ok (.imul, 1) := by decide +kernel
theorem dX8_sets_91 : decode cX8_sets 91 = .ok (.bipush 51, 2) := by decide +kernel
theorem dX8_sets_93 : decode cX8_sets 93 = .ok (.isub, 1) := by decide +kernel
theorem dX8_sets_94 : decode cX8_sets 94 = .ok (.iload 4, 2) := by decide +kernel
theorem dX8_sets_96 : decode cX8_sets 96 = .ok (.iadd, 1) := by decide +kernel
theorem dX8_sets_97 : decode cX8_sets 97 = .ok (.laload, 1) := by decide +kernel
theorem dX8_sets_98 : decode cX8_sets 98 = .ok (.goto 4, 3) := by decide +kernel
theorem dX8_sets_101 : decode cX8_sets 101 = .ok (.lconst 0, 1) := by decide +kernel
theorem dX8_sets_102 : decode cX8_sets 102 = .ok (.ladd, 1) := by decide +kernel
theorem dX8_sets_103 : decode cX8_sets 103 = .ok (.lastore, 1) := by decide +kernel
theorem dX8_sets_104 : decode cX8_sets 104 = .ok (.iinc 4 1, 3) := by decide +kernel
theorem dX8_sets_107 : decode cX8_sets 107 = .ok (.goto (-64), 3) := by decide +kernel
theorem dX8_sets_110 : decode cX8_sets 110 = .ok (.iinc 3 1, 3) := by decide +kernel
theorem dX8_sets_113 : decode cX8_sets 113 = .ok (.goto (-89), 3) := by decide +kernel
theorem dX8_sets_116 : decode cX8_sets 116 = .ok (.aload_n 0, 1) := by decide +kernel
theorem dX8_sets_117 : decode cX8_sets 117 = .ok (.getfield 29, 3) := by decide +kernel
theorem dX8_sets_120 : decode cX8_sets 120 = .ok (.bipush 51, 2) := by decide +kernel
theorem dX8_sets_122 : decode cX8_sets 122 = .ok (.iload_n 1, 1) := by decide +kernel
theorem dX8_sets_123 : decode cX8_sets 123 = .ok (.imul, 1) := by decide +kernel
theorem dX8_sets_124 : decode cX8_sets 124 = .ok (.iload_n 2, 1) := by decide +kernel
theorem dX8_sets_125 : decode cX8_sets 125 = .ok (.iadd, 1) := by decide +kernel
theorem dX8_sets_126 : decode cX8_sets 126 = .ok (.laload, 1) := by decide +kernel
theorem dX8_sets_127 : decode cX8_sets 127 = .ok (.lreturn, 1) := by decide +kernel
theorem dX8_findChance_0 : decode cX8_findChance 0 = .ok (.iload_n 1, 1) := by decide +kernel
theorem dX8_findChance_1 : decode cX8_findChance 1 = .ok (.iconst 5, 1) := by decide +kernel
theorem dX8_findChance_2 : decode cX8_findChance 2 = .ok (.invokestatic 33, 3) := by decide +kernel
theorem dX8_findChance_5 : decode cX8_findChance 5 = .ok (.istore_n 2, 1) := by decide +kernel
theorem dX8_findChance_6 : decode cX8_findChance 6 = .ok (.aload_n 0, 1) := by decide +kernel
theorem dX8_findChance_7 : decode cX8_findChance 7 = .ok (.getfield 7, 3) := by decide +kernel
theorem dX8_findChance_10 : decode cX8_findChance 10 = .ok (.iload_n 2, 1) := by decide +kernel
theorem dX8_findChance_11 : decode cX8_findChance 11 = .ok (.iaload, 1) := by decide +kernel
theorem dX8_findChance_12 : decode cX8_findChance 12 = .ok (.aload_n 0, 1) := by decide +kernel
theorem dX8_findChance_13 : decode cX8_findChance 13 = .ok (.getfield 7, 3) := by decide +kernel
theorem dX8_findChance_16 : decode cX8_findChance 16 = .ok (.iload_n 2, 1) := by decide +kernel
theorem dX8_findChance_17 : decode cX8_findChance 17 = .ok (.iconst 1, 1) := by decide +kernel
theorem dX8_findChance_18 : decode cX8_findChance 18 = .ok (.iadd, 1) := by decide +kernel
theorem dX8_findChance_19 : decode cX8_findChance 19 = .ok (.iaload, 1) := by decide +kernel
theorem dX8_findChance_20 : decode cX8_findChance 20 = .ok (.iadd, 1) := by decide +kernel
theorem dX8_findChance_21 : decode cX8_findChance 21 = .ok (.istore_n 3, 1) := by decide +kernel
theorem dX8_findChance_22 : decode cX8_findChance 22 = .ok (.aload_n 0, 1) := by decide +kernel
theorem dX8_findChance_23 : decode cX8_findChance 23 = .ok (.getfield 7, 3) := by decide +kernel
theorem dX8_findChance_26 : decode cX8_findChance 26 = .ok (.iload_n 2, 1) := by decide +kernel
theorem dX8_findChance_27 : decode cX8_findChance 27 = .ok (.iaload, 1) := by decide +kernel
theorem dX8_findChance_28 : decode cX8_findChance 28 = .ok (.aload_n 0, 1) := by decide +kernel
theorem dX8_findChance_29 : decode cX8_findChance 29 = .ok (.getfield 7, 3) := by decide +kernel
theorem dX8_findChance_32 : decode cX8_findChance 32 = .ok (.iload_n 2, 1) := by decide +kernel
theorem dX8_findChance_33 : decode cX8_findChance 33 = .ok (.iconst 2, 1) := by decide +kernel
theorem dX8_findChance_34 : decode cX8_findChance 34 = .ok (.iadd, 1) := by decide +kernel
theorem dX8_findChance_35 : decode cX8_findChance 35 = .ok (.iaload, 1) := by decide +kernel
theorem dX8_findChance_36 : decode cX8_findChance 36 = .ok (.iadd, 1) := by decide +kernel
theorem dX8_findChance_37 : decode cX8_findChance 37 = .ok (.istore 4, 2) := by decide +kernel
theorem dX8_findChance_39 : decode cX8_findChance 39 = .ok (.aload_n 0, 1) := by decide +kernel
theorem dX8_findChance_40 : decode cX8_findChance 40 = .ok (.getfield 7, 3) := by decide +kernel
theorem dX8_findChance_43 : decode cX8_findChance 43 = .ok (.iload_n 2, 1) := by decide +kernel
theorem dX8_findChance_44 : decode cX8_findChance 44 = .ok (.iconst 1, 1) := by decide +kernel
theorem dX8_findChance_45 : decode cX8_findChance 45 = .ok (.iadd, 1) := by decide +kernel
theorem dX8_findChance_46 : decode cX8_findChance 46 = .ok (.iaload, 1) := by decide +kernel
theorem dX8_findChance_47 : decode cX8_findChance 47 = .ok (.aload_n 0, 1) := by decide +kernel
theorem dX8_findChance_48 : decode cX8_findChance 48 = .ok (.getfield 7, 3) := by decide +kernel
theorem dX8_findChance_51 : decode cX8_findChance 51 = .ok (.iload_n 2, 1) := by decide +kernel
theorem dX8_findChance_52 : decode cX8_findChance 52 = .ok (.iconst 3, 1) := by decide +kernel
theorem dX8_findChance_53 : decode cX8_findChance 53 = .ok (.iadd, 1) := by decide +kernel
theorem dX8_findChance_54 : decode cX8_findChance 54 = .ok (.iaload, 1) := by decide +kernel
theorem dX8_findChance_55 : decode cX8_findChance 55 = .ok (.iadd, 1) := by decide +kernel
theorem dX8_findChance_56 : decode cX8_findChance 56 = .ok (.istore 5, 2) := by decide +kernel
theorem dX8_findChance_58 : decode cX8_findChance 58 = .ok (.aload_n 0, 1) := by decide +kernel
theorem dX8_findChance_59 : decode cX8_findChance 59 = .ok (.lconst 0, 1) := by decide +kernel
theorem dX8_findChance_60 : decode cX8_findChance 60 = .ok (.putfield 117, 3) := by decide +kernel
theorem dX8_findChance_63 : decode cX8_findChance 63 = .ok (.aload_n 0, 1) := by decide +kernel
theorem dX8_findChance_64 : decode cX8_findChance 64 = .ok (.aload_n 0, 1) := by decide +kernel
theorem dX8_findChance_65 : decode cX8_findChance 65 = .ok (.iload 4, 2) := by decide +kernel
theorem dX8_findChance_67 : decode cX8_findChance 67 = .ok (.iload 5, 2) := by decide +kernel
theorem dX8_findChance_69 : decode cX8_findChance 69 = .ok (.iadd, 1) := by decide +kernel
theorem dX8_findChance_70 : decode cX8_findChance 70 = .ok (.iload_n 3, 1) := by decide +kernel
theorem dX8_findChance_71 : decode cX8_findChance 71 = .ok (.invokevirtual 121, 3) := by decide +kernel
theorem dX8_findChance_74 : decode cX8_findChance 74 = .ok (.putfield 124, 3) := by decide +kernel
theorem dX8_findChance_77 : decode cX8_findChance 77 = .ok (.aload_n 0, 1) := by decide +kernel
theorem dX8_findChance_78 : decode cX8_findChance 78 = .ok (.getfield 7, 3) := by decide +kernel
theorem dX8_findChance_81 : decode cX8_findChance 81 = .ok (.iload_n 2, 1) := by decide +kernel
theorem dX8_findChance_82 : decode cX8_findChance 82 = .ok (.iaload, 1) := by decide +kernel
theorem dX8_findChance_83 : decode cX8_findChance 83 = .ok (.istore 6, 2) := by decide +kernel
theorem dX8_findChance_85 : decode cX8_findChance 85 = .ok (.iload 6, 2) := by decide +kernel
theorem dX8_findChance_87 : decode cX8_findChance 87 = .ok (.iload_n 3, 1) := by decide +kernel
theorem dX8_findChance_88 : decode cX8_findChance 88 = .ok (.if_icmp .gt 44, 3) := by decide +kernel
theorem dX8_findChance_91 : decode cX8_findChance 91 = .ok (.iload 6, 2) := by decide +kernel
theorem dX8_findChance_93 : decode cX8_findChance 93 = .ok (.iload 4, 2) := by decide +kernel
theorem dX8_findChance_95 : decode cX8_findChance 95 = .ok (.if_icmp .gt 37, 3) := by decide +kernel
theorem dX8_findChance_98 : decode cX8_findChance 98 = .ok (.aload_n 0, 1) := by decide +kernel
theorem dX8_findChance_99 : decode cX8_findChance 99 = .ok (.dup, 1) := by decide +kernel
theorem dX8_findChance_100 : decode cX8_findChance 100 = .ok (.getfield 117, 3) := by decide +kernel
theorem dX8_findChance_103 : decode cX8_findChance 103 = .ok (.aload_n 0, 1) := by decide +kernel
theorem dX8_findChance_104 : decode cX8_findChance 104 = .ok (.iload 4, 2) := by decide +kernel
theorem dX8_findChance_106 : decode cX8_findChance 106 = .ok (.iload 6, 2) := by decide +kernel
theorem dX8_findChance_108 : decode cX8_findChance 108 = .ok (.invokevirtual 121, 3) := by decide +kernel
theorem dX8_findChance_111 : decode cX8_findChance 111 = .ok (.aload_n 0, 1) := by decide +kernel
theorem dX8_findChance_112 : decode cX8_findChance 112 = .ok (.iload 5, 2) := by decide +kernel
theorem dX8_findChance_114 : decode cX8_findChance 114 = .ok (.iload_n 3, 1) := by decide +kernel
theorem dX8_findChance_115 : decode cX8_findChance 115 = .ok (.iload 6, 2) := by decide +kernel
theorem dX8_findChance_117 : decode cX8_findChance 117 = .ok (.isub, 1) := by decide +kernel
theorem dX8_findChance_118 : decode cX8_findChance 118 = .ok (.invokevirtual 121, 3) := by decide +kernel
theorem dX8_findChance_121 : decode cX8_findChance 121 = .ok (.lmul, 1) := by decide +kernel
theorem dX8_findChance_122 : decode cX8_findChance 122 = .ok (.ladd, 1) := by decide +kernel
theorem dX8_findChance_123 : decode cX8_findChance 123 = .ok (.putfield 117, 3) := by decide +kernel
theorem dX8_findChance_126 : decode cX8_findChance 126 = .ok (.iinc 6 1, 3) := by decide +kernel
theorem dX8_findChance_129 : decode cX8_findChance 129 = .ok (.goto (-44), 3) := by decide +kernel
theorem dX8_findChance_132 : decode cX8_findChance 132 = .ok (.return_, 1) := by decide +kernel
theorem dX8_isBad_0 : decode cX8_isBad 0 = .ok (.aload_n 0, 1) := by decide +kernel
theorem dX8_isBad_1 : decode cX8_isBad 1 = .ok (.iload_n 1, 1) := by decide +kernel
theorem dX8_isBad_2 : decode cX8_isBad 2 = .ok (.invokevirtual 127, 3) := by decide +kernel
theorem dX8_isBad_5 : decode cX8_isBad 5 = .ok (.aload_n 0, 1) := by decide +kernel
theorem dX8_isBad_6 : decode cX8_isBad 6 = .ok (.getfield 131, 3) := by decide +kernel
theorem dX8_isBad_9 : decode cX8_isBad 9 = .ok (.ifCond .ne 31, 3) := by decide +kernel
theorem dX8_isBad_12 : decode cX8_isBad 12 = .ok (.ldc2_w 135, 3) := by decide +kernel
theorem dX8_isBad_15 : decode cX8_isBad 15 = .ok (.aload_n 0, 1) := by decide +kernel
theorem dX8_isBad_16 : decode cX8_isBad 16 = .ok (.getfield 117, 3) := by decide +kernel
theorem dX8_isBad_19 : decode cX8_isBad 19 = .ok (.lmul, 1) := by decide +kernel
theorem dX8_isBad_20 : decode cX8_isBad 20 = .ok (.aload_n 0, 1) := by decide +kernel
theorem dX8_isBad_21 : decode cX8_isBad 21 = .ok (.getfield 7, 3) := by decide +kernel
theorem dX8_isBad_24 : decode cX8_isBad 24 = .ok (.iconst 2, 1) := by decide +kernel
theorem dX8_isBad_25 : decode cX8_isBad 25 = .ok (.iaload, 1) := by decide +kernel
theorem dX8_isBad_26 : decode cX8_isBad 26 = .ok (.i2l, 1) := by decide +kernel
theorem dX8_isBad_27 : decode cX8_isBad 27 = .ok (.aload_n 0, 1) := by decide +kernel
theorem dX8_isBad_28 : decode cX8_isBad 28 = .ok (.getfield 124, 3) := by decide +kernel
theorem dX8_isBad_31 : decode cX8_isBad 31 = .ok (.lmul, 1) := by decide +kernel
theorem dX8_isBad_32 : decode cX8_isBad 32 = .ok (.lcmp, 1) := by decide +kernel
theorem dX8_isBad_33 : decode cX8_isBad 33 = .ok (.ifCond .gt 7, 3) := by decide +kernel
theorem dX8_isBad_36 : decode cX8_isBad 36 = .ok (.iconst 1, 1) := by decide +kernel
theorem dX8_isBad_37 : decode cX8_isBad 37 = .ok (.goto 4, 3) := by decide +kernel
theorem dX8_isBad_40 : decode cX8_isBad 40 = .ok (.iconst 0, 1) := by decide +kernel
theorem dX8_isBad_41 : decode cX8_isBad 41 = .ok (.ireturn, 1) := by decide +kernel
theorem dX8_divisor_0 : decode cX8_divisor 0 = .ok (.lload_n 0, 1) := by decide +kernel
theorem dX8_divisor_1 : decode cX8_divisor 1 = .ok (.lstore 4, 2) := by decide +kernel
theorem dX8_divisor_3 : decode cX8_divisor 3 = .ok (.lload_n 2, 1) := by decide +kernel
theorem dX8_divisor_4 : decode cX8_divisor 4 = .ok (.lstore 6, 2) := by decide +kernel
theorem dX8_divisor_6 : decode cX8_divisor 6 = .ok (.lload 6, 2) := by decide +kernel
theorem dX8_divisor_8 : decode cX8_divisor 8 = .ok (.lconst 0, 1) := by decide +kernel
theorem dX8_divisor_9 : decode cX8_divisor 9 = .ok (.lcmp, 1) := by decide +kernel
theorem dX8_divisor_10 : decode cX8_divisor 10 = .ok (.ifCond .eq 21, 3) := by decide +kernel
theorem dX8_divisor_13 : decode cX8_divisor 13 = .ok (.lload 4, 2) := by decide +kernel
theorem dX8_divisor_15 : decode cX8_divisor 15 = .ok (.lload 6, 2) := by decide +kernel
theorem dX8_divisor_17 : decode cX8_divisor 17 = .ok (.lrem, 1) := by decide +kernel
theorem dX8_divisor_18 : decode cX8_divisor 18 = .ok (.lstore 8, 2) := by decide +kernel
theorem dX8_divisor_20 : decode cX8_divisor 20 = .ok (.lload 6, 2) := by decide +kernel
theorem dX8_divisor_22 : decode cX8_divisor 22 = .ok (.lstore 4, 2) := by decide +kernel
theorem dX8_divisor_24 : decode cX8_divisor 24 = .ok (.lload 8, 2) := by decide +kernel
theorem dX8_divisor_26 : decode cX8_divisor 26 = .ok (.lstore 6, 2) := by decide +kernel
theorem dX8_divisor_28 : decode cX8_divisor 28 = .ok (.goto (-22), 3) := by decide +kernel
theorem dX8_divisor_31 : decode cX8_divisor 31 = .ok (.lload 4, 2) := by decide +kernel
theorem dX8_divisor_33 : decode cX8_divisor 33 = .ok (.lreturn, 1) := by decide +kernel
theorem dX8_isFrozenHour_0 : decode cX8_isFrozenHour 0 = .ok (.iconst 0, 1) := by decide +kernel
theorem dX8_isFrozenHour_1 : decode cX8_isFrozenHour 1 = .ok (.istore_n 2, 1) := by decide +kernel
theorem dX8_isFrozenHour_2 : decode cX8_isFrozenHour 2 = .ok (.iconst 0, 1) := by decide +kernel
theorem dX8_isFrozenHour_3 : decode cX8_isFrozenHour 3 = .ok (.istore_n 3, 1) := by decide +kernel
theorem dX8_isFrozenHour_4 : decode cX8_isFrozenHour 4 = .ok (.iload_n 3, 1) := by decide +kernel
theorem dX8_isFrozenHour_5 : decode cX8_isFrozenHour 5 = .ok (.aload_n 0, 1) := by decide +kernel
theorem dX8_isFrozenHour_6 : decode cX8_isFrozenHour 6 = .ok (.getfield 7, 3) := by decide +kernel
theorem dX8_isFrozenHour_9 : decode cX8_isFrozenHour 9 = .ok (.iconst 3, 1) := by decide +kernel
theorem dX8_isFrozenHour_10 : decode cX8_isFrozenHour 10 = .ok (.iaload, 1) := by decide +kernel
theorem dX8_isFrozenHour_11 : decode cX8_isFrozenHour 11 = .ok (.if_icmp .ge 50, 3) := by decide +kernel
theorem dX8_isFrozenHour_14 : decode cX8_isFrozenHour 14 = .ok (.iload_n 2, 1) := by decide +kernel
theorem dX8_isFrozenHour_15 : decode cX8_isFrozenHour 15 = .ok (.ifCond .ne 34, 3) := by decide +kernel
theorem dX8_isFrozenHour_18 : decode cX8_isFrozenHour 18 = .ok (.iload_n 1, 1) := by decide +kernel
theorem dX8_isFrozenHour_19 : decode cX8_isFrozenHour 19 = .ok (.aload_n 0, 1) := by decide +kernel
theorem dX8_isFrozenHour_20 : decode cX8_isFrozenHour 20 = .ok (.getfield 7, 3) := by decide +kernel
theorem dX8_isFrozenHour_23 : decode cX8_isFrozenHour 23 = .ok (.iconst 4, 1) := by decide +kernel
theorem dX8_isFrozenHour_24 : decode cX8_isFrozenHour 24 = .ok (.iconst 2, 1) := by decide +kernel
theorem dX8_isFrozenHour_25 : decode cX8_isFrozenHour 25 = .ok (.iload_n 3, 1) := by decide +kernel
theorem dX8_isFrozenHour_26 : decode cX8_isFrozenHour 26 = .ok (.imul, 1) := by decide +kernel
theorem dX8_isFrozenHour_27 : decode cX8_isFrozenHour 27 = .ok (.iadd, 1) := by decide +kernel
theorem dX8_isFrozenHour_28 : decode cX8_isFrozenHour 28 = .ok (.iaload, 1) := by decide +kernel
theorem dX8_isFrozenHour_29 : decode cX8_isFrozenHour 29 = .ok (.aload_n 0, 1) := by decide +kernel
theorem dX8_isFrozenHour_30 : decode cX8_isFrozenHour 30 = .ok (.getfield 7, 3) := by decide +kernel
theorem dX8_isFrozenHour_33 : decode cX8_isFrozenHour 33 = .ok (.iconst 4, 1) := by decide +kernel
theorem dX8_isFrozenHour_34 : decode cX8_isFrozenHour 34 = .ok (.iconst 2, 1) := by decide +kernel
theorem dX8_isFrozenHour_35 : decode cX8_isFrozenHour 35 = .ok (.iload_n 3, 1) := by decide +kernel
theorem dX8_isFrozenHour_36 : decode cX8_isFrozenHour 36 = .ok (.imul, 1) := by decide +kernel
theorem dX8_isFrozenHour_37 : decode cX8_isFrozenHour 37 = .ok (.iadd, 1) := by decide +kernel
theorem dX8_isFrozenHour_38 : decode cX8_isFrozenHour 38 = .ok (.iconst 1, 1) := by decide +kernel
theorem dX8_isFrozenHour_39 : decode cX8_isFrozenHour 39 = .ok (.iadd, 1) := by decide +kernel
theorem dX8_isFrozenHour_40 : decode cX8_isFrozenHour 40 = .ok (.iaload, 1) := by decide +kernel
theorem dX8_isFrozenHour_41 : decode cX8_isFrozenHour 41 = .ok (.iconst 1, 1) := by decide +kernel
theorem dX8_isFrozenHour_42 : decode cX8_isFrozenHour 42 = .ok (.isub, 1) := by decide +kernel
theorem dX8_isFrozenHour_43 : decode cX8_isFrozenHour 43 = .ok (.invokestatic 37, 3) := by decide +kernel
theorem dX8_isFrozenHour_46 : decode cX8_isFrozenHour 46 = .ok (.ifCond .eq 7, 3) := by decide +kernel
theorem dX8_isFrozenHour_49 : decode cX8_isFrozenHour 49 = .ok (.iconst 1, 1) := by decide +kernel
theorem dX8_isFrozenHour_50 : decode cX8_isFrozenHour 50 = .ok (.goto 4, 3) := by decide +kernel
theorem dX8_isFrozenHour_53 : decode cX8_isFrozenHour 53 = .ok (.iconst 0, 1) := by decide +kernel
theorem dX8_isFrozenHour_54 : decode cX8_isFrozenHour 54 = .ok (.istore_n 2, 1) := by decide +kernel
theorem dX8_isFrozenHour_55 : decode cX8_isFrozenHour 55 = .ok (.iinc 3 1, 3) := by decide +kernel
theorem dX8_isFrozenHour_58 : decode cX8_isFrozenHour 58 = .ok (.goto (-54), 3) := by decide +kernel
theorem dX8_isFrozenHour_61 : decode cX8_isFrozenHour 61 = .ok (.iload_n 2, 1) := by decide +kernel
theorem dX8_isFrozenHour_62 : decode cX8_isFrozenHour 62 = .ok (.ireturn, 1) := by decide +kernel
theorem dX8_hoursSince_0 : decode cX8_hoursSince 0 = .ok (.aload_n 0, 1) := by decide +kernel
theorem dX8_hoursSince_1 : decode cX8_hoursSince 1 = .ok (.getfield 7, 3) := by decide +kernel
theorem dX8_hoursSince_4 : decode cX8_hoursSince 4 = .ok (.iload_n 1, 1) := by decide +kernel
theorem dX8_hoursSince_5 : decode cX8_hoursSince 5 = .ok (.iconst 3, 1) := by decide +kernel
theorem dX8_hoursSince_6 : decode cX8_hoursSince 6 = .ok (.invokestatic 33, 3) := by decide +kernel
theorem dX8_hoursSince_9 : decode cX8_hoursSince 9 = .ok (.iaload, 1) := by decide +kernel
theorem dX8_hoursSince_10 : decode cX8_hoursSince 10 = .ok (.istore_n 2, 1) := by decide +kernel
theorem dX8_hoursSince_11 : decode cX8_hoursSince 11 = .ok (.iload_n 2, 1) := by decide +kernel
theorem dX8_hoursSince_12 : decode cX8_hoursSince 12 = .ok (.ifCond .ne 7, 3) := by decide +kernel
theorem dX8_hoursSince_15 : decode cX8_hoursSince 15 = .ok (.iconst 0, 1) := by decide +kernel
theorem dX8_hoursSince_16 : decode cX8_hoursSince 16 = .ok (.goto 23, 3) := by decide +kernel
theorem dX8_hoursSince_19 : decode cX8_hoursSince 19 = .ok (.aload_n 0, 1) := by decide +kernel
theorem dX8_hoursSince_20 : decode cX8_hoursSince 20 = .ok (.getfield 7, 3) := by decide +kernel
theorem dX8_hoursSince_23 : decode cX8_hoursSince 23 = .ok (.iconst 1, 1) := by decide +kernel
theorem dX8_hoursSince_24 : decode cX8_hoursSince 24 = .ok (.iaload, 1) := by decide +kernel
theorem dX8_hoursSince_25 : decode cX8_hoursSince 25 = .ok (.aload_n 0, 1) := by decide +kernel
theorem dX8_hoursSince_26 : decode cX8_hoursSince 26 = .ok (.getfield 7, 3) := by decide +kernel
theorem dX8_hoursSince_29 : decode cX8_hoursSince 29 = .ok (.iload_n 1, 1) := by decide +kernel
theorem dX8_hoursSince_30 : decode cX8_hoursSince 30 = .ok (.iload_n 2, 1) := by decide +kernel
theorem dX8_hoursSince_31 : decode cX8_hoursSince 31 = .ok (.iconst 1, 1) := by decide +kernel
theorem dX8_hoursSince_32 : decode cX8_hoursSince 32 = .ok (.isub, 1) := by decide +kernel
theorem dX8_hoursSince_33 : decode cX8_hoursSince 33 = .ok (.iconst 3, 1) := by decide +kernel
theorem dX8_hoursSince_34 : decode cX8_hoursSince 34 = .ok (.invokestatic 44, 3) := by decide +kernel
theorem dX8_hoursSince_37 : decode cX8_hoursSince 37 = .ok (.iaload, 1) := by decide +kernel
theorem dX8_hoursSince_38 : decode cX8_hoursSince 38 = .ok (.isub, 1) := by decide +kernel
theorem dX8_hoursSince_39 : decode cX8_hoursSince 39 = .ok (.ireturn, 1) := by decide +kernel
theorem dX8_lacks_0 : decode cX8_lacks 0 = .ok (.iload_n 1, 1) := by decide +kernel
theorem dX8_lacks_1 : decode cX8_lacks 1 = .ok (.iconst 5, 1) := by decide +kernel
theorem dX8_lacks_2 : decode cX8_lacks 2 = .ok (.invokestatic 33, 3) := by decide +kernel
theorem dX8_lacks_5 : decode cX8_lacks 5 = .ok (.istore_n 2, 1) := by decide +kernel
theorem dX8_lacks_6 : decode cX8_lacks 6 = .ok (.aload_n 0, 1) := by decide +kernel
theorem dX8_lacks_7 : decode cX8_lacks 7 = .ok (.getfield 7, 3) := by decide +kernel
theorem dX8_lacks_10 : decode cX8_lacks 10 = .ok (.iload_n 1, 1) := by decide +kernel
theorem dX8_lacks_11 : decode cX8_lacks 11 = .ok (.aload_n 0, 1) := by decide +kernel
theorem dX8_lacks_12 : decode cX8_lacks 12 = .ok (.getfield 7, 3) := by decide +kernel
theorem dX8_lacks_15 : decode cX8_lacks 15 = .ok (.iload_n 1, 1) := by decide +kernel
theorem dX8_lacks_16 : decode cX8_lacks 16 = .ok (.iconst 3, 1) := by decide +kernel
theorem dX8_lacks_17 : decode cX8_lacks 17 = .ok (.invokestatic 33, 3) := by decide +kernel
theorem dX8_lacks_20 : decode cX8_lacks 20 = .ok (.iaload, 1) := by decide +kernel
theorem dX8_lacks_21 : decode cX8_lacks 21 = .ok (.iconst 1, 1) := by decide +kernel
theorem dX8_lacks_22 : decode cX8_lacks 22 = .ok (.isub, 1) := by decide +kernel
theorem dX8_lacks_23 : decode cX8_lacks 23 = .ok (.iconst 2, 1) := by decide +kernel
theorem dX8_lacks_24 : decode cX8_lacks 24 = .ok (.invokestatic 44, 3) := by decide +kernel
theorem dX8_lacks_27 : decode cX8_lacks 27 = .ok (.iaload, 1) := by decide +kernel
theorem dX8_lacks_28 : decode cX8_lacks 28 = .ok (.istore_n 3, 1) := by decide +kernel
theorem dX8_lacks_29 : decode cX8_lacks 29 = .ok (.aload_n 0, 1) := by decide +kernel
theorem dX8_lacks_30 : decode cX8_lacks 30 = .ok (.iload_n 1, 1) := by decide +kernel
theorem dX8_lacks_31 : decode cX8_lacks 31 = .ok (.invokevirtual 111, 3) := by decide +kernel
theorem dX8_lacks_34 : decode cX8_lacks 34 = .ok (.iconst 1, 1) := by decide +kernel
theorem dX8_lacks_35 : decode cX8_lacks 35 = .ok (.aload_n 0, 1) := by decide +kernel
theorem dX8_lacks_36 : decode cX8_lacks 36 = .ok (.getfield 7, 3) := by decide +kernel
theorem dX8_lacks_39 : decode cX8_lacks 39 = .ok (.iconst 0, 1) := by decide +kernel
theorem dX8_lacks_40 : decode cX8_lacks 40 = .ok (.iaload, 1) := by decide +kernel
theorem dX8_lacks_41 : decode cX8_lacks 41 = .ok (.ishl, 1) := by decide +kernel
theorem dX8_lacks_42 : decode cX8_lacks 42 = .ok (.iconst 1, 1) := by decide +kernel
theorem dX8_lacks_43 : decode cX8_lacks 43 = .ok (.isub, 1) := by decide +kernel
theorem dX8_lacks_44 : decode cX8_lacks 44 = .ok (.if_icmp .ne 7, 3) := by decide +kernel
theorem dX8_lacks_47 : decode cX8_lacks 47 = .ok (.iconst 1, 1) := by decide +kernel
theorem dX8_lacks_48 : decode cX8_lacks 48 = .ok (.goto 4, 3) := by decide +kernel
theorem dX8_lacks_51 : decode cX8_lacks 51 = .ok (.iconst 0, 1) := by decide +kernel
theorem dX8_lacks_52 : decode cX8_lacks 52 = .ok (.istore 4, 2) := by decide +kernel
theorem dX8_lacks_54 : decode cX8_lacks 54 = .ok (.aload_n 0, 1) := by decide +kernel
theorem dX8_lacks_55 : decode cX8_lacks 55 = .ok (.getfield 131, 3) := by decide +kernel
theorem dX8_lacks_58 : decode cX8_lacks 58 = .ok (.ifCond .ne 52, 3) := by decide +kernel
theorem dX8_lacks_61 : decode cX8_lacks 61 = .ok (.aload_n 0, 1) := by decide +kernel
theorem dX8_lacks_62 : decode cX8_lacks 62 = .ok (.getfield 7, 3) := by decide +kernel
theorem dX8_lacks_65 : decode cX8_lacks 65 = .ok (.iload_n 2, 1) := by decide +kernel
theorem dX8_lacks_66 : decode cX8_lacks 66 = .ok (.iaload, 1) := by decide +kernel
theorem dX8_lacks_67 : decode cX8_lacks 67 = .ok (.aload_n 0, 1) := by decide +kernel
theorem dX8_lacks_68 : decode cX8_lacks 68 = .ok (.getfield 7, 3) := by decide +kernel
theorem dX8_lacks_71 : decode cX8_lacks 71 = .ok (.iload_n 2, 1) := by decide +kernel
theorem dX8_lacks_72 : decode cX8_lacks 72 = .ok (.iconst 1, 1) := by decide +kernel
theorem dX8_lacks_73 : decode cX8_lacks 73 = .ok (.iadd, 1) := by decide +kernel
theorem dX8_lacks_74 : decode cX8_lacks 74 = .ok (.iaload, 1) := by decide +kernel
theorem dX8_lacks_75 : decode cX8_lacks 75 = .ok (.iadd, 1) := by decide +kernel
theorem dX8_lacks_76 : decode cX8_lacks 76 = .ok (.iload_n 3, 1) := by decide +kernel
theorem dX8_lacks_77 : decode cX8_lacks 77 = .ok (.if_icmp .lt 29, 3) := by decide +kernel
theorem dX8_lacks_80 : decode cX8_lacks 80 = .ok (.iload 4, 2) := by decide +kernel
theorem dX8_lacks_82 : decode cX8_lacks 82 = .ok (.ifCond .ne 28, 3) := by decide +kernel
theorem dX8_lacks_85 : decode cX8_lacks 85 = .ok (.aload_n 0, 1) := by decide +kernel
theorem dX8_lacks_86 : decode cX8_lacks 86 = .ok (.getfield 7, 3) := by decide +kernel
theorem dX8_lacks_89 : decode cX8_lacks 89 = .ok (.iload_n 2, 1) := by decide +kernel
theorem dX8_lacks_90 : decode cX8_lacks 90 = .ok (.iconst 2, 1) := by decide +kernel
theorem dX8_lacks_91 : decode cX8_lacks 91 = .ok (.iadd, 1) := by decide +kernel
theorem dX8_lacks_92 : decode cX8_lacks 92 = .ok (.iaload, 1) := by decide +kernel
theorem dX8_lacks_93 : decode cX8_lacks 93 = .ok (.aload_n 0, 1) := by decide +kernel
theorem dX8_lacks_94 : decode cX8_lacks 94 = .ok (.getfield 7, 3) := by decide +kernel
theorem dX8_lacks_97 : decode cX8_lacks 97 = .ok (.iload_n 2, 1) := by decide +kernel
theorem dX8_lacks_98 : decode cX8_lacks 98 = .ok (.iconst 3, 1) := by decide +kernel
theorem dX8_lacks_99 : decode cX8_lacks 99 = .ok (.iadd, 1) := by decide +kernel
theorem dX8_lacks_100 : decode cX8_lacks 100 = .ok (.iaload, 1) := by decide +kernel
theorem dX8_lacks_101 : decode cX8_lacks 101 = .ok (.iadd, 1) := by decide +kernel
theorem dX8_lacks_102 : decode cX8_lacks 102 = .ok (.iload_n 3, 1) := by decide +kernel
theorem dX8_lacks_103 : decode cX8_lacks 103 = .ok (.if_icmp .ge 7, 3) := by decide +kernel
theorem dX8_lacks_106 : decode cX8_lacks 106 = .ok (.iconst 1, 1) := by decide +kernel
theorem dX8_lacks_107 : decode cX8_lacks 107 = .ok (.goto 4, 3) := by decide +kernel
theorem dX8_lacks_110 : decode cX8_lacks 110 = .ok (.iconst 0, 1) := by decide +kernel
theorem dX8_lacks_111 : decode cX8_lacks 111 = .ok (.ireturn, 1) := by decide +kernel
theorem dX8_areAllDone_0 : decode cX8_areAllDone 0 = .ok (.iconst 1, 1) := by decide +kernel
theorem dX8_areAllDone_1 : decode cX8_areAllDone 1 = .ok (.istore_n 2, 1) := by decide +kernel
theorem dX8_areAllDone_2 : decode cX8_areAllDone 2 = .ok (.iconst 0, 1) := by decide +kernel
theorem dX8_areAllDone_3 : decode cX8_areAllDone 3 = .ok (.istore_n 3, 1) := by decide +kernel
theorem dX8_areAllDone_4 : decode cX8_areAllDone 4 = .ok (.iload_n 3, 1) := by decide +kernel
theorem dX8_areAllDone_5 : decode cX8_areAllDone 5 = .ok (.iconst 5, 1) := by decide +kernel
theorem dX8_areAllDone_6 : decode cX8_areAllDone 6 = .ok (.if_icmp .ge 41, 3) := by decide +kernel
theorem dX8_areAllDone_9 : decode cX8_areAllDone 9 = .ok (.iload_n 2, 1) := by decide +kernel
theorem dX8_areAllDone_10 : decode cX8_areAllDone 10 = .ok (.ifCond .eq 29, 3) := by decide +kernel
theorem dX8_areAllDone_13 : decode cX8_areAllDone 13 = .ok (.iload_n 1, 1) := by decide +kernel
theorem dX8_areAllDone_14 : decode cX8_areAllDone 14 = .ok (.iload_n 3, 1) := by decide +kernel
theorem dX8_areAllDone_15 : decode cX8_areAllDone 15 = .ok (.ishr, 1) := by decide +kernel
theorem dX8_areAllDone_16 : decode cX8_areAllDone 16 = .ok (.iconst 1, 1) := by decide +kernel
theorem dX8_areAllDone_17 : decode cX8_areAllDone 17 = .ok (.iand, 1) := by decide +kernel
theorem dX8_areAllDone_18 : decode cX8_areAllDone 18 = .ok (.ifCond .eq 17, 3) := by decide +kernel
theorem dX8_areAllDone_21 : decode cX8_areAllDone 21 = .ok (.aload_n 0, 1) := by decide +kernel
theorem dX8_areAllDone_22 : decode cX8_areAllDone 22 = .ok (.getfield 7, 3) := by decide +kernel
theorem dX8_areAllDone_25 : decode cX8_areAllDone 25 = .ok (.iload_n 3, 1) := by decide +kernel
theorem dX8_areAllDone_26 : decode cX8_areAllDone 26 = .ok (.iconst 1, 1) := by decide +kernel
theorem dX8_areAllDone_27 : decode cX8_areAllDone 27 = .ok (.invokestatic 33, 3) := by decide +kernel
theorem dX8_areAllDone_30 : decode cX8_areAllDone 30 = .ok (.iaload, 1) := by decide +kernel
theorem dX8_areAllDone_31 : decode cX8_areAllDone 31 = .ok (.iconst 3, 1) := by decide +kernel
theorem dX8_areAllDone_32 : decode cX8_areAllDone 32 = .ok (.if_icmp .ne 7, 3) := by decide +kernel
theorem dX8_areAllDone_35 : decode cX8_areAllDone 35 = .ok (.iconst 1, 1) := by decide +kernel
theorem dX8_areAllDone_36 : decode cX8_areAllDone 36 = .ok (.goto 4, 3) := by decide +kernel
theorem dX8_areAllDone_39 : decode cX8_areAllDone 39 = .ok (.iconst 0, 1) := by decide +kernel
theorem dX8_areAllDone_40 : decode cX8_areAllDone 40 = .ok (.istore_n 2, 1) := by decide +kernel
theorem dX8_areAllDone_41 : decode cX8_areAllDone 41 = .ok (.iinc 3 1, 3) := by decide +kernel
theorem dX8_areAllDone_44 : decode cX8_areAllDone 44 = .ok (.goto (-40), 3) := by decide +kernel
theorem dX8_areAllDone_47 : decode cX8_areAllDone 47 = .ok (.iload_n 2, 1) := by decide +kernel
theorem dX8_areAllDone_48 : decode cX8_areAllDone 48 = .ok (.ireturn, 1) := by decide +kernel
theorem dX8_isOtherRisk_0 : decode cX8_isOtherRisk 0 = .ok (.iconst 0, 1) := by decide +kernel
theorem dX8_isOtherRisk_1 : decode cX8_isOtherRisk 1 = .ok (.istore_n 2, 1) := by decide +kernel
theorem dX8_isOtherRisk_2 : decode cX8_isOtherRisk 2 = .ok (.iconst 0, 1) := by decide +kernel
theorem dX8_isOtherRisk_3 : decode cX8_isOtherRisk 3 = .ok (.istore_n 3, 1) := by decide +kernel
theorem dX8_isOtherRisk_4 : decode cX8_isOtherRisk 4 = .ok (.iload_n 3, 1) := by decide +kernel
theorem dX8_isOtherRisk_5 : decode cX8_isOtherRisk 5 = .ok (.aload_n 0, 1) := by decide +kernel
theorem dX8_isOtherRisk_6 : decode cX8_isOtherRisk 6 = .ok (.getfield 7, 3) := by decide +kernel
theorem dX8_isOtherRisk_9 : decode cX8_isOtherRisk 9 = .ok (.bipush 10, 2) := by decide +kernel
theorem dX8_isOtherRisk_11 : decode cX8_isOtherRisk 11 = .ok (.iaload, 1) := by decide +kernel
theorem dX8_isOtherRisk_12 : decode cX8_isOtherRisk 12 = .ok (.if_icmp .ge 91, 3) := by decide +kernel
theorem dX8_isOtherRisk_15 : decode cX8_isOtherRisk 15 = .ok (.aload_n 0, 1) := by decide +kernel
theorem dX8_isOtherRisk_16 : decode cX8_isOtherRisk 16 = .ok (.getfield 7, 3) := by decide +kernel
theorem dX8_isOtherRisk_19 : decode cX8_isOtherRisk 19 = .ok (.iload_n 3, 1) := by decide +kernel
theorem dX8_isOtherRisk_20 : decode cX8_isOtherRisk 20 = .ok (.iconst 1, 1) := by decide +kernel
theorem dX8_isOtherRisk_21 : decode cX8_isOtherRisk 21 = .ok (.invokestatic 33, 3) := by decide +kernel
theorem dX8_isOtherRisk_24 : decode cX8_isOtherRisk 24 = .ok (.iaload, 1) := by decide +kernel
theorem dX8_isOtherRisk_25 : decode cX8_isOtherRisk 25 = .ok (.istore 4, 2) := by decide +kernel
theorem dX8_isOtherRisk_27 : decode cX8_isOtherRisk 27 = .ok (.iload 4, 2) := by decide +kernel
theorem dX8_isOtherRisk_29 : decode cX8_isOtherRisk 29 = .ok (.iconst 1, 1) := by decide +kernel
theorem dX8_isOtherRisk_30 : decode cX8_isOtherRisk 30 = .ok (.iconst 2, 1) := by decide +kernel
theorem dX8_isOtherRisk_31 : decode cX8_isOtherRisk 31 = .ok (.invokestatic 37, 3) := by decide +kernel
theorem dX8_isOtherRisk_34 : decode cX8_isOtherRisk 34 = .ok (.ifCond .ne 9, 3) := by decide +kernel
theorem dX8_isOtherRisk_37 : decode cX8_isOtherRisk 37 = .ok (.iload 4, 2) := by decide +kernel
theorem dX8_isOtherRisk_39 : decode cX8_isOtherRisk 39 = .ok (.iconst 4, 1) := by decide +kernel
theorem dX8_isOtherRisk_40 : decode cX8_isOtherRisk 40 = .ok (.if_icmp .ne 7, 3) := by decide +kernel
theorem dX8_isOtherRisk_43 : decode cX8_isOtherRisk 43 = .ok (.iconst 1, 1) := by decide +kernel
theorem dX8_isOtherRisk_44 : decode cX8_isOtherRisk 44 = .ok (.goto 4, 3) := by decide +kernel
theorem dX8_isOtherRisk_47 : decode cX8_isOtherRisk 47 = .ok (.iconst 0, 1) := by decide +kernel
theorem dX8_isOtherRisk_48 : decode cX8_isOtherRisk 48 = .ok (.istore 5, 2) := by decide +kernel
theorem dX8_isOtherRisk_50 : decode cX8_isOtherRisk 50 = .ok (.iload_n 2, 1) := by decide +kernel
theorem dX8_isOtherRisk_51 : decode cX8_isOtherRisk 51 = .ok (.ifCond .ne 40, 3) := by decide +kernel
theorem dX8_isOtherRisk_54 : decode cX8_isOtherRisk 54 = .ok (.iload_n 3, 1) := by decide +kernel
theorem dX8_isOtherRisk_55 : decode cX8_isOtherRisk 55 = .ok (.iload_n 1, 1) := by decide +kernel
theorem dX8_isOtherRisk_56 : decode cX8_isOtherRisk 56 = .ok (.if_icmp .eq 39, 3) := by decide +kernel
theorem dX8_isOtherRisk_59 : decode cX8_isOtherRisk 59 = .ok (.aload_n 0, 1) := by decide +kernel
theorem dX8_isOtherRisk_60 : decode cX8_isOtherRisk 60 = .ok (.getfield 7, 3) := by decide +kernel
theorem dX8_isOtherRisk_63 : decode cX8_isOtherRisk 63 = .ok (.iload_n 3, 1) := by decide +kernel
theorem dX8_isOtherRisk_64 : decode cX8_isOtherRisk 64 = .ok (.iconst 0, 1) := by decide +kernel
theorem dX8_isOtherRisk_65 : decode cX8_isOtherRisk 65 = .ok (.invokestatic 33, 3) := by decide +kernel
theorem dX8_isOtherRisk_68 : decode cX8_isOtherRisk 68 = .ok (.iaload, 1) := by decide +kernel
theorem dX8_isOtherRisk_69 : decode cX8_isOtherRisk 69 = .ok (.iconst 1, 1) := by decide +kernel
theorem dX8_isOtherRisk_70 : decode cX8_isOtherRisk 70 = .ok (.if_icmp .ne 25, 3) := by decide +kernel
theorem dX8_isOtherRisk_73 : decode cX8_isOtherRisk 73 = .ok (.iload 5, 2) := by decide +kernel
theorem dX8_isOtherRisk_75 : decode cX8_isOtherRisk 75 = .ok (.ifCond .eq 20, 3) := by decide +kernel
theorem dX8_isOtherRisk_78 : decode cX8_isOtherRisk 78 = .ok (.aload_n 0, 1) := by decide +kernel
theorem dX8_isOtherRisk_79 : decode cX8_isOtherRisk 79 = .ok (.getfield 7, 3) := by decide +kernel
theorem dX8_isOtherRisk_82 : decode cX8_isOtherRisk 82 = .ok (.iload_n 3, 1) := by decide +kernel
theorem dX8_isOtherRisk_83 : decode cX8_isOtherRisk 83 = .ok (.iconst 3, 1) := by decide +kernel
theorem dX8_isOtherRisk_84 : decode cX8_isOtherRisk 84 = .ok (.invokestatic 33, 3) := by decide +kernel
theorem dX8_isOtherRisk_87 : decode cX8_isOtherRisk 87 = .ok (.iaload, 1) := by decide +kernel
theorem dX8_isOtherRisk_88 : decode cX8_isOtherRisk 88 = .ok (.ifCond .le 7, 3) := by decide +kernel
theorem dX8_isOtherRisk_91 : decode cX8_isOtherRisk 91 = .ok (.iconst 1, 1) := by decide +kernel
theorem dX8_isOtherRisk_92 : decode cX8_isOtherRisk 92 = .ok (.goto 4, 3) := by decide +kernel
theorem dX8_isOtherRisk_95 : decode cX8_isOtherRisk 95 = .ok (.iconst 0, 1) := by decide +kernel
theorem dX8_isOtherRisk_96 : decode cX8_isOtherRisk 96 = .ok (.istore_n 2, 1) := by decide +kernel
theorem dX8_isOtherRisk_97 : decode cX8_isOtherRisk 97 = .ok (.iinc 3 1, 3) := by decide +kernel
theorem dX8_isOtherRisk_100 : decode cX8_isOtherRisk 100 = .ok (.goto (-96), 3) := by decide +kernel
theorem dX8_isOtherRisk_103 : decode cX8_isOtherRisk 103 = .ok (.iload_n 2, 1) := by decide +kernel
theorem dX8_isOtherRisk_104 : decode cX8_isOtherRisk 104 = .ok (.ifCond .eq 21, 3) := by decide +kernel
theorem dX8_isOtherRisk_107 : decode cX8_isOtherRisk 107 = .ok (.aload_n 0, 1) := by decide +kernel
theorem dX8_isOtherRisk_108 : decode cX8_isOtherRisk 108 = .ok (.getfield 7, 3) := by decide +kernel
theorem dX8_isOtherRisk_111 : decode cX8_isOtherRisk 111 = .ok (.iload_n 1, 1) := by decide +kernel
theorem dX8_isOtherRisk_112 : decode cX8_isOtherRisk 112 = .ok (.iconst 0, 1) := by decide +kernel
theorem dX8_isOtherRisk_113 : decode cX8_isOtherRisk 113 = .ok (.invokestatic 33, 3) := by decide +kernel
theorem dX8_isOtherRisk_116 : decode cX8_isOtherRisk 116 = .ok (.iaload, 1) := by decide +kernel
theorem dX8_isOtherRisk_117 : decode cX8_isOtherRisk 117 = .ok (.iconst 1, 1) := by decide +kernel
theorem dX8_isOtherRisk_118 : decode cX8_isOtherRisk 118 = .ok (.if_icmp .ne 7, 3) := by decide +kernel
theorem dX8_isOtherRisk_121 : decode cX8_isOtherRisk 121 = .ok (.iconst 1, 1) := by decide +kernel
theorem dX8_isOtherRisk_122 : decode cX8_isOtherRisk 122 = .ok (.goto 4, 3) := by decide +kernel
theorem dX8_isOtherRisk_125 : decode cX8_isOtherRisk 125 = .ok (.iconst 0, 1) := by decide +kernel
theorem dX8_isOtherRisk_126 : decode cX8_isOtherRisk 126 = .ok (.ireturn, 1) := by decide +kernel
theorem dX8_reason_0 : decode cX8_reason 0 = .ok (.aload_n 0, 1) := by decide +kernel
theorem dX8_reason_1 : decode cX8_reason 1 = .ok (.getfield 7, 3) := by decide +kernel
theorem dX8_reason_4 : decode cX8_reason 4 = .ok (.iload_n 1, 1) := by decide +kernel
theorem dX8_reason_5 : decode cX8_reason 5 = .ok (.iconst 1, 1) := by decide +kernel
theorem dX8_reason_6 : decode cX8_reason 6 = .ok (.invokestatic 33, 3) := by decide +kernel
theorem dX8_reason_9 : decode cX8_reason 9 = .ok (.iaload, 1) := by decide +kernel
theorem dX8_reason_10 : decode cX8_reason 10 = .ok (.istore_n 2, 1) := by decide +kernel
theorem dX8_reason_11 : decode cX8_reason 11 = .ok (.aload_n 0, 1) := by decide +kernel
theorem dX8_reason_12 : decode cX8_reason 12 = .ok (.getfield 7, 3) := by decide +kernel
theorem dX8_reason_15 : decode cX8_reason 15 = .ok (.iload_n 1, 1) := by decide +kernel
theorem dX8_reason_16 : decode cX8_reason 16 = .ok (.iconst 3, 1) := by decide +kernel
theorem dX8_reason_17 : decode cX8_reason 17 = .ok (.invokestatic 33, 3) := by decide +kernel
theorem dX8_reason_20 : decode cX8_reason 20 = .ok (.iaload, 1) := by decide +kernel
theorem dX8_reason_21 : decode cX8_reason 21 = .ok (.istore_n 3, 1) := by decide +kernel
theorem dX8_reason_22 : decode cX8_reason 22 = .ok (.iload_n 2, 1) := by decide +kernel
theorem dX8_reason_23 : decode cX8_reason 23 = .ok (.iconst 4, 1) := by decide +kernel
theorem dX8_reason_24 : decode cX8_reason 24 = .ok (.if_icmp .eq 8, 3) := by decide +kernel
theorem dX8_reason_27 : decode cX8_reason 27 = .ok (.iload_n 2, 1) := by decide +kernel
theorem dX8_reason_28 : decode cX8_reason 28 = .ok (.iconst 2, 1) := by decide +kernel
theorem dX8_reason_29 : decode cX8_reason 29 = .ok (.if_icmp .ne 14, 3) := by decide +kernel
theorem dX8_reason_32 : decode cX8_reason 32 = .ok (.iload_n 2, 1) := by decide +kernel
theorem dX8_reason_33 : decode cX8_reason 33 = .ok (.iconst 4, 1) := by decide +kernel
theorem dX8_reason_34 : decode cX8_reason 34 = .ok (.if_icmp .ne 7, 3) := by decide +kernel
theorem dX8_reason_37 : decode cX8_reason 37 = .ok (.iconst 2, 1) := by decide +kernel
theorem dX8_reason_38 : decode cX8_reason 38 = .ok (.goto 4, 3) := by decide +kernel
theorem dX8_reason_41 : decode cX8_reason 41 = .ok (.iconst 3, 1) := by decide +kernel
theorem dX8_reason_42 : decode cX8_reason 42 = .ok (.ireturn, 1) := by decide +kernel
theorem dX8_reason_43 : decode cX8_reason 43 = .ok (.iload_n 2, 1) := by decide +kernel
theorem dX8_reason_44 : decode cX8_reason 44 = .ok (.iconst 1, 1) := by decide +kernel
theorem dX8_reason_45 : decode cX8_reason 45 = .ok (.if_icmp .eq 5, 3) := by decide +kernel
theorem dX8_reason_48 : decode cX8_reason 48 = .ok (.iconst 1, 1) := by decide +kernel
theorem dX8_reason_49 : decode cX8_reason 49 = .ok (.ireturn, 1) := by decide +kernel
theorem dX8_reason_50 : decode cX8_reason 50 = .ok (.iload_n 3, 1) := by decide +kernel
theorem dX8_reason_51 : decode cX8_reason 51 = .ok (.ifCond .le 26, 3) := by decide +kernel
theorem dX8_reason_54 : decode cX8_reason 54 = .ok (.aload_n 0, 1) := by decide +kernel
theorem dX8_reason_55 : decode cX8_reason 55 = .ok (.iload_n 1, 1) := by decide +kernel
theorem dX8_reason_56 : decode cX8_reason 56 = .ok (.invokevirtual 137, 3) := by decide +kernel
theorem dX8_reason_59 : decode cX8_reason 59 = .ok (.aload_n 0, 1) := by decide +kernel
theorem dX8_reason_60 : decode cX8_reason 60 = .ok (.getfield 7, 3) := by decide +kernel
theorem dX8_reason_63 : decode cX8_reason 63 = .ok (.iload_n 1, 1) := by decide +kernel
theorem dX8_reason_64 : decode cX8_reason 64 = .ok (.iload_n 3, 1) := by decide +kernel
theorem dX8_reason_65 : decode cX8_reason 65 = .ok (.iconst 1, 1) := by decide +kernel
theorem dX8_reason_66 : decode cX8_reason 66 = .ok (.isub, 1) := by decide +kernel
theorem dX8_reason_67 : decode cX8_reason 67 = .ok (.iconst 1, 1) := by decide +kernel
theorem dX8_reason_68 : decode cX8_reason 68 = .ok (.invokestatic 44, 3) := by decide +kernel
theorem dX8_reason_71 : decode cX8_reason 71 = .ok (.iaload, 1) := by decide +kernel
theorem dX8_reason_72 : decode cX8_reason 72 = .ok (.if_icmp .ge 5, 3) := by decide +kernel
theorem dX8_reason_75 : decode cX8_reason 75 = .ok (.iconst 4, 1) := by decide +kernel
theorem dX8_reason_76 : decode cX8_reason 76 = .ok (.ireturn, 1) := by decide +kernel
theorem dX8_reason_77 : decode cX8_reason 77 = .ok (.iload_n 3, 1) := by decide +kernel
theorem dX8_reason_78 : decode cX8_reason 78 = .ok (.ifCond .le 13, 3) := by decide +kernel
theorem dX8_reason_81 : decode cX8_reason 81 = .ok (.aload_n 0, 1) := by decide +kernel
theorem dX8_reason_82 : decode cX8_reason 82 = .ok (.iload_n 1, 1) := by decide +kernel
theorem dX8_reason_83 : decode cX8_reason 83 = .ok (.invokevirtual 140, 3) := by decide +kernel
theorem dX8_reason_86 : decode cX8_reason 86 = .ok (.ifCond .eq 5, 3) := by decide +kernel
theorem dX8_reason_89 : decode cX8_reason 89 = .ok (.iconst 5, 1) := by decide +kernel
theorem dX8_reason_90 : decode cX8_reason 90 = .ok (.ireturn, 1) := by decide +kernel
theorem dX8_reason_91 : decode cX8_reason 91 = .ok (.iload_n 3, 1) := by decide +kernel
theorem dX8_reason_92 : decode cX8_reason 92 = .ok (.aload_n 0, 1) := by decide +kernel
theorem dX8_reason_93 : decode cX8_reason 93 = .ok (.getfield 7, 3) := by decide +kernel
theorem dX8_reason_96 : decode cX8_reason 96 = .ok (.iload_n 1, 1) := by decide +kernel
theorem dX8_reason_97 : decode cX8_reason 97 = .ok (.iconst 2, 1) := by decide +kernel
theorem dX8_reason_98 : decode cX8_reason 98 = .ok (.invokestatic 33, 3) := by decide +kernel
theorem dX8_reason_101 : decode cX8_reason 101 = .ok (.iaload, 1) := by decide +kernel
theorem dX8_reason_102 : decode cX8_reason 102 = .ok (.if_icmp .ge 23, 3) := by decide +kernel
theorem dX8_reason_105 : decode cX8_reason 105 = .ok (.aload_n 0, 1) := by decide +kernel
theorem dX8_reason_106 : decode cX8_reason 106 = .ok (.aload_n 0, 1) := by decide +kernel
theorem dX8_reason_107 : decode cX8_reason 107 = .ok (.getfield 7, 3) := by decide +kernel
theorem dX8_reason_110 : decode cX8_reason 110 = .ok (.iconst 1, 1) := by decide +kernel
theorem dX8_reason_111 : decode cX8_reason 111 = .ok (.iaload, 1) := by decide +kernel
theorem dX8_reason_112 : decode cX8_reason 112 = .ok (.sipush 168, 3) := by decide +kernel
theorem dX8_reason_115 : decode cX8_reason 115 = .ok (.irem, 1) := by decide +kernel
theorem dX8_reason_116 : decode cX8_reason 116 = .ok (.invokevirtual 143, 3) := by decide +kernel
theorem dX8_reason_119 : decode cX8_reason 119 = .ok (.ifCond .eq 6, 3) := by decide +kernel
theorem dX8_reason_122 : decode cX8_reason 122 = .ok (.bipush 6, 2) := by decide +kernel
theorem dX8_reason_124 : decode cX8_reason 124 = .ok (.ireturn, 1) := by decide +kernel
theorem dX8_reason_125 : decode cX8_reason 125 = .ok (.iload_n 3, 1) := by decide +kernel
theorem dX8_reason_126 : decode cX8_reason 126 = .ok (.ifCond .ne 23, 3) := by decide +kernel
theorem dX8_reason_129 : decode cX8_reason 129 = .ok (.aload_n 0, 1) := by decide +kernel
theorem dX8_reason_130 : decode cX8_reason 130 = .ok (.aload_n 0, 1) := by decide +kernel
theorem dX8_reason_131 : decode cX8_reason 131 = .ok (.getfield 7, 3) := by decide +kernel
theorem dX8_reason_134 : decode cX8_reason 134 = .ok (.iload_n 1, 1) := by decide +kernel
theorem dX8_reason_135 : decode cX8_reason 135 = .ok (.iconst 4, 1) := by decide +kernel
theorem dX8_reason_136 : decode cX8_reason 136 = .ok (.invokestatic 33, 3) := by decide +kernel
theorem dX8_reason_139 : decode cX8_reason 139 = .ok (.iaload, 1) := by decide +kernel
theorem dX8_reason_140 : decode cX8_reason 140 = .ok (.invokevirtual 146, 3) := by decide +kernel
theorem dX8_reason_143 : decode cX8_reason 143 = .ok (.ifCond .ne 6, 3) := by decide +kernel
theorem dX8_reason_146 : decode cX8_reason 146 = .ok (.bipush 7, 2) := by decide +kernel
theorem dX8_reason_148 : decode cX8_reason 148 = .ok (.ireturn, 1) := by decide +kernel
theorem dX8_reason_149 : decode cX8_reason 149 = .ok (.iload_n 3, 1) := by decide +kernel
theorem dX8_reason_150 : decode cX8_reason 150 = .ok (.ifCond .ne 16, 3) := by decide +kernel
theorem dX8_reason_153 : decode cX8_reason 153 = .ok (.aload_n 0, 1) := by decide +kernel
theorem dX8_reason_154 : decode cX8_reason 154 = .ok (.iload_n 1, 1) := by decide +kernel
theorem dX8_reason_155 : decode cX8_reason 155 = .ok (.invokevirtual 149, 3) := by decide +kernel
theorem dX8_reason_158 : decode cX8_reason 158 = .ok (.ifCond .eq 8, 3) := by decide +kernel
theorem dX8_reason_161 : decode cX8_reason 161 = .ok (.bipush 8, 2) := by decide +kernel
theorem dX8_reason_163 : decode cX8_reason 163 = .ok (.goto 4, 3) := by decide +kernel
theorem dX8_reason_166 : decode cX8_reason 166 = .ok (.iconst 0, 1) := by decide +kernel
theorem dX8_reason_167 : decode cX8_reason 167 = .ok (.ireturn, 1) := by decide +kernel
theorem dX8_turnsOn_0 : decode cX8_turnsOn 0 = .ok (.aload_n 0, 1) := by decide +kernel
theorem dX8_turnsOn_1 : decode cX8_turnsOn 1 = .ok (.getfield 7, 3) := by decide +kernel
theorem dX8_turnsOn_4 : decode cX8_turnsOn 4 = .ok (.iload_n 1, 1) := by decide +kernel
theorem dX8_turnsOn_5 : decode cX8_turnsOn 5 = .ok (.iconst 3, 1) := by decide +kernel
theorem dX8_turnsOn_6 : decode cX8_turnsOn 6 = .ok (.invokestatic 33, 3) := by decide +kernel
theorem dX8_turnsOn_9 : decode cX8_turnsOn 9 = .ok (.iaload, 1) := by decide +kernel
theorem dX8_turnsOn_10 : decode cX8_turnsOn 10 = .ok (.ifCond .le 33, 3) := by decide +kernel
theorem dX8_turnsOn_13 : decode cX8_turnsOn 13 = .ok (.aload_n 0, 1) := by decide +kernel
theorem dX8_turnsOn_14 : decode cX8_turnsOn 14 = .ok (.getfield 7, 3) := by decide +kernel
theorem dX8_turnsOn_17 : decode cX8_turnsOn 17 = .ok (.iload_n 1, 1) := by decide +kernel
theorem dX8_turnsOn_18 : decode cX8_turnsOn 18 = .ok (.iconst 3, 1) := by decide +kernel
theorem dX8_turnsOn_19 : decode cX8_turnsOn 19 = .ok (.invokestatic 33, 3) := by decide +kernel
theorem dX8_turnsOn_22 : decode cX8_turnsOn 22 = .ok (.dup2, 1) := by decide +kernel
theorem dX8_turnsOn_23 : decode cX8_turnsOn 23 = .ok (.iaload, 1) := by decide +kernel
theorem dX8_turnsOn_24 : decode cX8_turnsOn 24 = .ok (.iconst 1, 1) := by decide +kernel
theorem dX8_turnsOn_25 : decode cX8_turnsOn 25 = .ok (.isub, 1) := by decide +kernel
theorem dX8_turnsOn_26 : decode cX8_turnsOn 26 = .ok (.iastore, 1) := by decide +kernel
theorem dX8_turnsOn_27 : decode cX8_turnsOn 27 = .ok (.aload_n 0, 1) := by decide +kernel
theorem dX8_turnsOn_28 : decode cX8_turnsOn 28 = .ok (.iload_n 1, 1) := by decide +kernel
theorem dX8_turnsOn_29 : decode cX8_turnsOn 29 = .ok (.iconst 4, 1) := by decide +kernel
theorem dX8_turnsOn_30 : decode cX8_turnsOn 30 = .ok (.aload_n 0, 1) := by decide +kernel
theorem dX8_turnsOn_31 : decode cX8_turnsOn 31 = .ok (.getfield 7, 3) := by decide +kernel
theorem dX8_turnsOn_34 : decode cX8_turnsOn 34 = .ok (.iload_n 1, 1) := by decide +kernel
theorem dX8_turnsOn_35 : decode cX8_turnsOn 35 = .ok (.iconst 3, 1) := by decide +kernel
theorem dX8_turnsOn_36 : decode cX8_turnsOn 36 = .ok (.invokestatic 33, 3) := by decide +kernel
theorem dX8_turnsOn_39 : decode cX8_turnsOn 39 = .ok (.iaload, 1) := by decide +kernel
theorem dX8_turnsOn_40 : decode cX8_turnsOn 40 = .ok (.invokevirtual 104, 3) := by decide +kernel
theorem dX8_turnsOn_43 : decode cX8_turnsOn 43 = .ok (.aload_n 0, 1) := by decide +kernel
theorem dX8_turnsOn_44 : decode cX8_turnsOn 44 = .ok (.getfield 7, 3) := by decide +kernel
theorem dX8_turnsOn_47 : decode cX8_turnsOn 47 = .ok (.iload_n 1, 1) := by decide +kernel
theorem dX8_turnsOn_48 : decode cX8_turnsOn 48 = .ok (.iconst 3, 1) := by decide +kernel
theorem dX8_turnsOn_49 : decode cX8_turnsOn 49 = .ok (.invokestatic 33, 3) := by decide +kernel
theorem dX8_turnsOn_52 : decode cX8_turnsOn 52 = .ok (.iaload, 1) := by decide +kernel
theorem dX8_turnsOn_53 : decode cX8_turnsOn 53 = .ok (.ifCond .ne 11, 3) := by decide +kernel
theorem dX8_turnsOn_56 : decode cX8_turnsOn 56 = .ok (.aload_n 0, 1) := by decide +kernel
theorem dX8_turnsOn_57 : decode cX8_turnsOn 57 = .ok (.iload_n 1, 1) := by decide +kernel
theorem dX8_turnsOn_58 : decode cX8_turnsOn 58 = .ok (.iconst 5, 1) := by decide +kernel
theorem dX8_turnsOn_59 : decode cX8_turnsOn 59 = .ok (.iconst 5, 1) := by decide +kernel
theorem dX8_turnsOn_60 : decode cX8_turnsOn 60 = .ok (.invokevirtual 108, 3) := by decide +kernel
theorem dX8_turnsOn_63 : decode cX8_turnsOn 63 = .ok (.istore_n 2, 1) := by decide +kernel
theorem dX8_turnsOn_64 : decode cX8_turnsOn 64 = .ok (.return_, 1) := by decide +kernel
theorem dX8_goesOn_0 : decode cX8_goesOn 0 = .ok (.aload_n 0, 1) := by decide +kernel
theorem dX8_goesOn_1 : decode cX8_goesOn 1 = .ok (.getfield 7, 3) := by decide +kernel
theorem dX8_goesOn_4 : decode cX8_goesOn 4 = .ok (.iload_n 1, 1) := by decide +kernel
theorem dX8_goesOn_5 : decode cX8_goesOn 5 = .ok (.iconst 3, 1) := by decide +kernel
theorem dX8_goesOn_6 : decode cX8_goesOn 6 = .ok (.invokestatic 33, 3) := by decide +kernel
theorem dX8_goesOn_9 : decode cX8_goesOn 9 = .ok (.iaload, 1) := by decide +kernel
theorem dX8_goesOn_10 : decode cX8_goesOn 10 = .ok (.istore_n 2, 1) := by decide +kernel
theorem dX8_goesOn_11 : decode cX8_goesOn 11 = .ok (.iload_n 2, 1) := by decide +kernel
theorem dX8_goesOn_12 : decode cX8_goesOn 12 = .ok (.aload_n 0, 1) := by decide +kernel
theorem dX8_goesOn_13 : decode cX8_goesOn 13 = .ok (.getfield 7, 3) := by decide +kernel
theorem dX8_goesOn_16 : decode cX8_goesOn 16 = .ok (.iload_n 1, 1) := by decide +kernel
theorem dX8_goesOn_17 : decode cX8_goesOn 17 = .ok (.iconst 2, 1) := by decide +kernel
theorem dX8_goesOn_18 : decode cX8_goesOn 18 = .ok (.invokestatic 33, 3) := by decide +kernel
theorem dX8_goesOn_21 : decode cX8_goesOn 21 = .ok (.iaload, 1) := by decide +kernel
theorem dX8_goesOn_22 : decode cX8_goesOn 22 = .ok (.if_icmp .ne 12, 3) := by decide +kernel
theorem dX8_goesOn_25 : decode cX8_goesOn 25 = .ok (.aload_n 0, 1) := by decide +kernel
theorem dX8_goesOn_26 : decode cX8_goesOn 26 = .ok (.iload_n 1, 1) := by decide +kernel
theorem dX8_goesOn_27 : decode cX8_goesOn 27 = .ok (.iconst 3, 1) := by decide +kernel
theorem dX8_goesOn_28 : decode cX8_goesOn 28 = .ok (.iconst 2, 1) := by decide +kernel
theorem dX8_goesOn_29 : decode cX8_goesOn 29 = .ok (.invokevirtual 108, 3) := by decide +kernel
theorem dX8_goesOn_32 : decode cX8_goesOn 32 = .ok (.istore_n 3, 1) := by decide +kernel
theorem dX8_goesOn_33 : decode cX8_goesOn 33 = .ok (.return_, 1) := by decide +kernel
theorem dX8_goesOn_34 : decode cX8_goesOn 34 = .ok (.aload_n 0, 1) := by decide +kernel
theorem dX8_goesOn_35 : decode cX8_goesOn 35 = .ok (.getfield 7, 3) := by decide +kernel
theorem dX8_goesOn_38 : decode cX8_goesOn 38 = .ok (.iload_n 1, 1) := by decide +kernel
theorem dX8_goesOn_39 : decode cX8_goesOn 39 = .ok (.iload_n 2, 1) := by decide +kernel
theorem dX8_goesOn_40 : decode cX8_goesOn 40 = .ok (.iconst 3, 1) := by decide +kernel
theorem dX8_goesOn_41 : decode cX8_goesOn 41 = .ok (.invokestatic 44, 3) := by decide +kernel
theorem dX8_goesOn_44 : decode cX8_goesOn 44 = .ok (.aload_n 0, 1) := by decide +kernel
theorem dX8_goesOn_45 : decode cX8_goesOn 45 = .ok (.getfield 7, 3) := by decide +kernel
theorem dX8_goesOn_48 : decode cX8_goesOn 48 = .ok (.iconst 1, 1) := by decide +kernel
theorem dX8_goesOn_49 : decode cX8_goesOn 49 = .ok (.iaload, 1) := by decide +kernel
theorem dX8_goesOn_50 : decode cX8_goesOn 50 = .ok (.iastore, 1) := by decide +kernel
theorem dX8_goesOn_51 : decode cX8_goesOn 51 = .ok (.aload_n 0, 1) := by decide +kernel
theorem dX8_goesOn_52 : decode cX8_goesOn 52 = .ok (.getfield 7, 3) := by decide +kernel
theorem dX8_goesOn_55 : decode cX8_goesOn 55 = .ok (.iload_n 1, 1) := by decide +kernel
theorem dX8_goesOn_56 : decode cX8_goesOn 56 = .ok (.iconst 3, 1) := by decide +kernel
theorem dX8_goesOn_57 : decode cX8_goesOn 57 = .ok (.invokestatic 33, 3) := by decide +kernel
theorem dX8_goesOn_60 : decode cX8_goesOn 60 = .ok (.dup2, 1) := by decide +kernel
theorem dX8_goesOn_61 : decode cX8_goesOn 61 = .ok (.iaload, 1) := by decide +kernel
theorem dX8_goesOn_62 : decode cX8_goesOn 62 = .ok (.iconst 1, 1) := by decide +kernel
theorem dX8_goesOn_63 : decode cX8_goesOn 63 = .ok (.iadd, 1) := by decide +kernel
theorem dX8_goesOn_64 : decode cX8_goesOn 64 = .ok (.iastore, 1) := by decide +kernel
theorem dX8_goesOn_65 : decode cX8_goesOn 65 = .ok (.iconst 0, 1) := by decide +kernel
theorem dX8_goesOn_66 : decode cX8_goesOn 66 = .ok (.istore_n 3, 1) := by decide +kernel
theorem dX8_goesOn_67 : decode cX8_goesOn 67 = .ok (.iload_n 3, 1) := by decide +kernel
theorem dX8_goesOn_68 : decode cX8_goesOn 68 = .ok (.iconst 4, 1) := by decide +kernel
theorem dX8_goesOn_69 : decode cX8_goesOn 69 = .ok (.if_icmp .ge 22, 3) := by decide +kernel
theorem dX8_goesOn_72 : decode cX8_goesOn 72 = .ok (.aload_n 0, 1) := by decide +kernel
theorem dX8_goesOn_73 : decode cX8_goesOn 73 = .ok (.getfield 7, 3) := by decide +kernel
theorem dX8_goesOn_76 : decode cX8_goesOn 76 = .ok (.iload_n 1, 1) := by decide +kernel
theorem dX8_goesOn_77 : decode cX8_goesOn 77 = .ok (.iconst 5, 1) := by decide +kernel
theorem dX8_goesOn_78 : decode cX8_goesOn 78 = .ok (.iload_n 3, 1) := by decide +kernel
theorem dX8_goesOn_79 : decode cX8_goesOn 79 = .ok (.iadd, 1) := by decide +kernel
theorem dX8_goesOn_80 : decode cX8_goesOn 80 = .ok (.invokestatic 33, 3) := by decide +kernel
theorem dX8_goesOn_83 : decode cX8_goesOn 83 = .ok (.iconst 0, 1) := by decide +kernel
theorem dX8_goesOn_84 : decode cX8_goesOn 84 = .ok (.iastore, 1) := by decide +kernel
theorem dX8_goesOn_85 : decode cX8_goesOn 85 = .ok (.iinc 3 1, 3) := by decide +kernel
theorem dX8_goesOn_88 : decode cX8_goesOn 88 = .ok (.goto (-21), 3) := by decide +kernel
theorem dX8_goesOn_91 : decode cX8_goesOn 91 = .ok (.aload_n 0, 1) := by decide +kernel
theorem dX8_goesOn_92 : decode cX8_goesOn 92 = .ok (.iload_n 1, 1) := by decide +kernel
theorem dX8_goesOn_93 : decode cX8_goesOn 93 = .ok (.iconst 1, 1) := by decide +kernel
theorem dX8_goesOn_94 : decode cX8_goesOn 94 = .ok (.iload_n 2, 1) := by decide +kernel
theorem dX8_goesOn_95 : decode cX8_goesOn 95 = .ok (.invokevirtual 104, 3) := by decide +kernel
theorem dX8_goesOn_98 : decode cX8_goesOn 98 = .ok (.return_, 1) := by decide +kernel
theorem dX8_passes_0 : decode cX8_passes 0 = .ok (.iconst 0, 1) := by decide +kernel
theorem dX8_passes_1 : decode cX8_passes 1 = .ok (.istore_n 1, 1) := by decide +kernel
theorem dX8_passes_2 : decode cX8_passes 2 = .ok (.iload_n 1, 1) := by decide +kernel
theorem dX8_passes_3 : decode cX8_passes 3 = .ok (.aload_n 0, 1) := by decide +kernel
theorem dX8_passes_4 : decode cX8_passes 4 = .ok (.getfield 7, 3) := by decide +kernel
theorem dX8_passes_7 : decode cX8_passes 7 = .ok (.bipush 10, 2) := by decide +kernel
theorem dX8_passes_9 : decode cX8_passes 9 = .ok (.iaload, 1) := by decide +kernel
theorem dX8_passes_10 : decode cX8_passes 10 = .ok (.if_icmp .ge 85, 3) := by decide +kernel
theorem dX8_passes_13 : decode cX8_passes 13 = .ok (.aload_n 0, 1) := by decide +kernel
theorem dX8_passes_14 : decode cX8_passes 14 = .ok (.iload_n 1, 1) := by decide +kernel
theorem dX8_passes_15 : decode cX8_passes 15 = .ok (.invokevirtual 114, 3) := by decide +kernel
theorem dX8_passes_18 : decode cX8_passes 18 = .ok (.ifCond .eq 22, 3) := by decide +kernel
theorem dX8_passes_21 : decode cX8_passes 21 = .ok (.aload_n 0, 1) := by decide +kernel
theorem dX8_passes_22 : decode cX8_passes 22 = .ok (.iload_n 1, 1) := by decide +kernel
theorem dX8_passes_23 : decode cX8_passes 23 = .ok (.invokevirtual 152, 3) := by decide +kernel
theorem dX8_passes_26 : decode cX8_passes 26 = .ok (.ifCond .eq 14, 3) := by decide +kernel
theorem dX8_passes_29 : decode cX8_passes 29 = .ok (.aload_n 0, 1) := by decide +kernel
theorem dX8_passes_30 : decode cX8_passes 30 = .ok (.iload_n 1, 1) := by decide +kernel
theorem dX8_passes_31 : decode cX8_passes 31 = .ok (.iconst 4, 1) := by decide +kernel
theorem dX8_passes_32 : decode cX8_passes 32 = .ok (.iconst 3, 1) := by decide +kernel
theorem dX8_passes_33 : decode cX8_passes 33 = .ok (.invokevirtual 108, 3) := by decide +kernel
theorem dX8_passes_36 : decode cX8_passes 36 = .ok (.istore_n 2, 1) := by decide +kernel
theorem dX8_passes_37 : decode cX8_passes 37 = .ok (.goto 52, 3) := by decide +kernel
theorem dX8_passes_40 : decode cX8_passes 40 = .ok (.aload_n 0, 1) := by decide +kernel
theorem dX8_passes_41 : decode cX8_passes 41 = .ok (.getfield 7, 3) := by decide +kernel
theorem dX8_passes_44 : decode cX8_passes 44 = .ok (.iload_n 1, 1) := by decide +kernel
theorem dX8_passes_45 : decode cX8_passes 45 = .ok (.iconst 1, 1) := by decide +kernel
theorem dX8_passes_46 : decode cX8_passes 46 = .ok (.invokestatic 33, 3) := by decide +kernel
theorem dX8_passes_49 : decode cX8_passes 49 = .ok (.iaload, 1) := by decide +kernel
theorem dX8_passes_50 : decode cX8_passes 50 = .ok (.iconst 4, 1) := by decide +kernel
theorem dX8_passes_51 : decode cX8_passes 51 = .ok (.if_icmp .ne 11, 3) := by decide +kernel
theorem dX8_passes_54 : decode cX8_passes 54 = .ok (.aload_n 0, 1) := by decide +kernel
theorem dX8_passes_55 : decode cX8_passes 55 = .ok (.iload_n 1, 1) := by decide +kernel
theorem dX8_passes_56 : decode cX8_passes 56 = .ok (.invokevirtual 155, 3) := by decide +kernel
theorem dX8_passes_59 : decode cX8_passes 59 = .ok (.goto 30, 3) := by decide +kernel
theorem dX8_passes_62 : decode cX8_passes 62 = .ok (.aload_n 0, 1) := by decide +kernel
theorem dX8_passes_63 : decode cX8_passes 63 = .ok (.getfield 7, 3) := by decide +kernel
theorem dX8_passes_66 : decode cX8_passes 66 = .ok (.iload_n 1, 1) := by decide +kernel
theorem dX8_passes_67 : decode cX8_passes 67 = .ok (.iconst 1, 1) := by decide +kernel
theorem dX8_passes_68 : decode cX8_passes 68 = .ok (.invokestatic 33, 3) := by decide +kernel
theorem dX8_passes_71 : decode cX8_passes 71 = .ok (.iaload, 1) := by decide +kernel
theorem dX8_passes_72 : decode cX8_passes 72 = .ok (.iconst 1, 1) := by decide +kernel
theorem dX8_passes_73 : decode cX8_passes 73 = .ok (.if_icmp .ne 16, 3) := by decide +kernel
theorem dX8_passes_76 : decode cX8_passes 76 = .ok (.aload_n 0, 1) := by decide +kernel
theorem dX8_passes_77 : decode cX8_passes 77 = .ok (.iload_n 1, 1) := by decide +kernel
theorem dX8_passes_78 : decode cX8_passes 78 = .ok (.invokevirtual 158, 3) := by decide +kernel
theorem dX8_passes_81 : decode cX8_passes 81 = .ok (.ifCond .ne 8, 3) := by decide +kernel
theorem dX8_passes_84 : decode cX8_passes 84 = .ok (.aload_n 0, 1) := by decide +kernel
theorem dX8_passes_85 : decode cX8_passes 85 = .ok (.iload_n 1, 1) := by decide +kernel
theorem dX8_passes_86 : decode cX8_passes 86 = .ok (.invokevirtual 161, 3) := by decide +kernel
theorem dX8_passes_89 : decode cX8_passes 89 = .ok (.iinc 1 1, 3) := by decide +kernel
theorem dX8_passes_92 : decode cX8_passes 92 = .ok (.goto (-90), 3) := by decide +kernel
theorem dX8_passes_95 : decode cX8_passes 95 = .ok (.aload_n 0, 1) := by decide +kernel
theorem dX8_passes_96 : decode cX8_passes 96 = .ok (.getfield 7, 3) := by decide +kernel
theorem dX8_passes_99 : decode cX8_passes 99 = .ok (.iconst 1, 1) := by decide +kernel
theorem dX8_passes_100 : decode cX8_passes 100 = .ok (.dup2, 1) := by decide +kernel
theorem dX8_passes_101 : decode cX8_passes 101 = .ok (.iaload, 1) := by decide +kernel
theorem dX8_passes_102 : decode cX8_passes 102 = .ok (.iconst 1, 1) := by decide +kernel
theorem dX8_passes_103 : decode cX8_passes 103 = .ok (.iadd, 1) := by decide +kernel
theorem dX8_passes_104 : decode cX8_passes 104 = .ok (.iastore, 1) := by decide +kernel
theorem dX8_passes_105 : decode cX8_passes 105 = .ok (.return_, 1) := by decide +kernel
theorem dX8_pass_0 : decode cX8_pass 0 = .ok (.iload_n 1, 1) := by decide +kernel
theorem dX8_pass_1 : decode cX8_pass 1 = .ok (.iconst 1, 1) := by decide +kernel
theorem dX8_pass_2 : decode cX8_pass 2 = .ok (.bipush 100, 2) := by decide +kernel
theorem dX8_pass_4 : decode cX8_pass 4 = .ok (.invokestatic 37, 3) := by decide +kernel
theorem dX8_pass_7 : decode cX8_pass 7 = .ok (.ifCond .ne 6, 3) := by decide +kernel
theorem dX8_pass_10 : decode cX8_pass 10 = .ok (.bipush (-12), 2) := by decide +kernel
theorem dX8_pass_12 : decode cX8_pass 12 = .ok (.ireturn, 1) := by decide +kernel
theorem dX8_pass_13 : decode cX8_pass 13 = .ok (.aload_n 0, 1) := by decide +kernel
theorem dX8_pass_14 : decode cX8_pass 14 = .ok (.iconst 0, 1) := by decide +kernel
theorem dX8_pass_15 : decode cX8_pass 15 = .ok (.putfield 101, 3) := by decide +kernel
theorem dX8_pass_18 : decode cX8_pass 18 = .ok (.iconst 0, 1) := by decide +kernel
theorem dX8_pass_19 : decode cX8_pass 19 = .ok (.istore_n 2, 1) := by decide +kernel
theorem dX8_pass_20 : decode cX8_pass 20 = .ok (.iload_n 2, 1) := by decide +kernel
theorem dX8_pass_21 : decode cX8_pass 21 = .ok (.iload_n 1, 1) := by decide +kernel
theorem dX8_pass_22 : decode cX8_pass 22 = .ok (.if_icmp .ge 13, 3) := by decide +kernel
theorem dX8_pass_25 : decode cX8_pass 25 = .ok (.aload_n 0, 1) := by decide +kernel
theorem dX8_pass_26 : decode cX8_pass 26 = .ok (.invokevirtual 164, 3) := by decide +kernel
theorem dX8_pass_29 : decode cX8_pass 29 = .ok (.iinc 2 1, 3) := by decide +kernel
theorem dX8_pass_32 : decode cX8_pass 32 = .ok (.goto (-12), 3) := by decide +kernel
theorem dX8_pass_35 : decode cX8_pass 35 = .ok (.aload_n 0, 1) := by decide +kernel
theorem dX8_pass_36 : decode cX8_pass 36 = .ok (.getfield 101, 3) := by decide +kernel
theorem dX8_pass_39 : decode cX8_pass 39 = .ok (.ireturn, 1) := by decide +kernel
theorem dX8_time_0 : decode cX8_time 0 = .ok (.aload_n 0, 1) := by decide +kernel
theorem dX8_time_1 : decode cX8_time 1 = .ok (.getfield 7, 3) := by decide +kernel
theorem dX8_time_4 : decode cX8_time 4 = .ok (.iconst 1, 1) := by decide +kernel
theorem dX8_time_5 : decode cX8_time 5 = .ok (.iaload, 1) := by decide +kernel
theorem dX8_time_6 : decode cX8_time 6 = .ok (.ireturn, 1) := by decide +kernel
theorem dX8_tells_0 : decode cX8_tells 0 = .ok (.iload_n 2, 1) := by decide +kernel
theorem dX8_tells_1 : decode cX8_tells 1 = .ok (.tableswitch 95 0 5 #[39, 50, 61, 72, 78, 84], 39) := by decide +kernel
theorem dX8_tells_40 : decode cX8_tells 40 = .ok (.aload_n 0, 1) := by decide +kernel
theorem dX8_tells_41 : decode cX8_tells 41 = .ok (.getfield 7, 3) := by decide +kernel
theorem dX8_tells_44 : decode cX8_tells 44 = .ok (.iload_n 1, 1) := by decide +kernel
theorem dX8_tells_45 : decode cX8_tells 45 = .ok (.iconst 1, 1) := by decide +kernel
theorem dX8_tells_46 : decode cX8_tells 46 = .ok (.invokestatic 33, 3) := by decide +kernel
theorem dX8_tells_49 : decode cX8_tells 49 = .ok (.iaload, 1) := by decide +kernel
theorem dX8_tells_50 : decode cX8_tells 50 = .ok (.ireturn, 1) := by decide +kernel
theorem dX8_tells_51 : decode cX8_tells 51 = .ok (.aload_n 0, 1) := by decide +kernel
theorem dX8_tells_52 : decode cX8_tells 52 = .ok (.getfield 7, 3) := by decide +kernel
theorem dX8_tells_55 : decode cX8_tells 55 = .ok (.iload_n 1, 1) := by decide +kernel
theorem dX8_tells_56 : decode cX8_tells 56 = .ok (.iconst 2, 1) := by decide +kernel
theorem dX8_tells_57 : decode cX8_tells 57 = .ok (.invokestatic 33, 3) := by decide +kernel
theorem dX8_tells_60 : decode cX8_tells 60 = .ok (.iaload, 1) := by decide +kernel
theorem dX8_tells_61 : decode cX8_tells 61 = .ok (.ireturn, 1) := by decide +kernel
theorem dX8_tells_62 : decode cX8_tells 62 = .ok (.aload_n 0, 1) := by decide +kernel
theorem dX8_tells_63 : decode cX8_tells 63 = .ok (.getfield 7, 3) := by decide +kernel
theorem dX8_tells_66 : decode cX8_tells 66 = .ok (.iload_n 1, 1) := by decide +kernel
theorem dX8_tells_67 : decode cX8_tells 67 = .ok (.iconst 3, 1) := by decide +kernel
theorem dX8_tells_68 : decode cX8_tells 68 = .ok (.invokestatic 33, 3) := by decide +kernel
theorem dX8_tells_71 : decode cX8_tells 71 = .ok (.iaload, 1) := by decide +kernel
theorem dX8_tells_72 : decode cX8_tells 72 = .ok (.ireturn, 1) := by decide +kernel
theorem dX8_tells_73 : decode cX8_tells 73 = .ok (.aload_n 0, 1) := by decide +kernel
theorem dX8_tells_74 : decode cX8_tells 74 = .ok (.iload_n 1, 1) := by decide +kernel
theorem dX8_tells_75 : decode cX8_tells 75 = .ok (.invokevirtual 137, 3) := by decide +kernel
theorem dX8_tells_78 : decode cX8_tells 78 = .ok (.ireturn, 1) := by decide +kernel
theorem dX8_tells_79 : decode cX8_tells 79 = .ok (.aload_n 0, 1) := by decide +kernel
theorem dX8_tells_80 : decode cX8_tells 80 = .ok (.iload_n 1, 1) := by decide +kernel
theorem dX8_tells_81 : decode cX8_tells 81 = .ok (.invokevirtual 158, 3) := by decide +kernel
theorem dX8_tells_84 : decode cX8_tells 84 = .ok (.ireturn, 1) := by decide +kernel
theorem dX8_tells_85 : decode cX8_tells 85 = .ok (.aload_n 0, 1) := by decide +kernel
theorem dX8_tells_86 : decode cX8_tells 86 = .ok (.getfield 7, 3) := by decide +kernel
theorem dX8_tells_89 : decode cX8_tells 89 = .ok (.iload_n 1, 1) := by decide +kernel
theorem dX8_tells_90 : decode cX8_tells 90 = .ok (.iconst 4, 1) := by decide +kernel
theorem dX8_tells_91 : decode cX8_tells 91 = .ok (.invokestatic 33, 3) := by decide +kernel
theorem dX8_tells_94 : decode cX8_tells 94 = .ok (.iaload, 1) := by decide +kernel
theorem dX8_tells_95 : decode cX8_tells 95 = .ok (.ireturn, 1) := by decide +kernel
theorem dX8_tells_96 : decode cX8_tells 96 = .ok (.aload_n 0, 1) := by decide +kernel
theorem dX8_tells_97 : decode cX8_tells 97 = .ok (.getfield 7, 3) := by decide +kernel
theorem dX8_tells_100 : decode cX8_tells 100 = .ok (.iload_n 1, 1) := by decide +kernel
theorem dX8_tells_101 : decode cX8_tells 101 = .ok (.iconst 0, 1) := by decide +kernel
theorem dX8_tells_102 : decode cX8_tells 102 = .ok (.invokestatic 33, 3) := by decide +kernel
theorem dX8_tells_105 : decode cX8_tells 105 = .ok (.iaload, 1) := by decide +kernel
theorem dX8_tells_106 : decode cX8_tells 106 = .ok (.ireturn, 1) := by decide +kernel
theorem dX8_change_0 : decode cX8_change 0 = .ok (.aload_n 0, 1) := by decide +kernel
theorem dX8_change_1 : decode cX8_change 1 = .ok (.iload_n 1, 1) := by decide +kernel
theorem dX8_change_2 : decode cX8_change 2 = .ok (.invokevirtual 48, 3) := by decide +kernel
theorem dX8_change_5 : decode cX8_change 5 = .ok (.ifCond .ne 6, 3) := by decide +kernel
theorem dX8_change_8 : decode cX8_change 8 = .ok (.bipush (-11), 2) := by decide +kernel
theorem dX8_change_10 : decode cX8_change 10 = .ok (.ireturn, 1) := by decide +kernel
theorem dX8_change_11 : decode cX8_change 11 = .ok (.iload_n 2, 1) := by decide +kernel
theorem dX8_change_12 : decode cX8_change 12 = .ok (.iconst 0, 1) := by decide +kernel
theorem dX8_change_13 : decode cX8_change 13 = .ok (.bipush 6, 2) := by decide +kernel
theorem dX8_change_15 : decode cX8_change 15 = .ok (.invokestatic 37, 3) := by decide +kernel
theorem dX8_change_18 : decode cX8_change 18 = .ok (.ifCond .eq 12, 3) := by decide +kernel
theorem dX8_change_21 : decode cX8_change 21 = .ok (.aload_n 0, 1) := by decide +kernel
theorem dX8_change_22 : decode cX8_change 22 = .ok (.iload_n 1, 1) := by decide +kernel
theorem dX8_change_23 : decode cX8_change 23 = .ok (.iload_n 2, 1) := by decide +kernel
theorem dX8_change_24 : decode cX8_change 24 = .ok (.invokevirtual 167, 3) := by decide +kernel
theorem dX8_change_27 : decode cX8_change 27 = .ok (.goto 5, 3) := by decide +kernel
theorem dX8_change_30 : decode cX8_change 30 = .ok (.bipush (-12), 2) := by decide +kernel
theorem dX8_change_32 : decode cX8_change 32 = .ok (.ireturn, 1) := by decide +kernel
theorem dX8_probes_0 : decode cX8_probes 0 = .ok (.aload_n 0, 1) := by decide +kernel
theorem dX8_probes_1 : decode cX8_probes 1 = .ok (.iload_n 1, 1) := by decide +kernel
theorem dX8_probes_2 : decode cX8_probes 2 = .ok (.invokevirtual 48, 3) := by decide +kernel
theorem dX8_probes_5 : decode cX8_probes 5 = .ok (.ifCond .ne 6, 3) := by decide +kernel
theorem dX8_probes_8 : decode cX8_probes 8 = .ok (.bipush (-11), 2) := by decide +kernel
theorem dX8_probes_10 : decode cX8_probes 10 = .ok (.ireturn, 1) := by decide +kernel
theorem dX8_probes_11 : decode cX8_probes 11 = .ok (.iload_n 2, 1) := by decide +kernel
theorem dX8_probes_12 : decode cX8_probes 12 = .ok (.iconst 0, 1) := by decide +kernel
theorem dX8_probes_13 : decode cX8_probes 13 = .ok (.iconst 3, 1) := by decide +kernel
theorem dX8_probes_14 : decode cX8_probes 14 = .ok (.invokestatic 37, 3) := by decide +kernel
theorem dX8_probes_17 : decode cX8_probes 17 = .ok (.ifCond .eq 18, 3) := by decide +kernel
theorem dX8_probes_20 : decode cX8_probes 20 = .ok (.aload_n 0, 1) := by decide +kernel
theorem dX8_probes_21 : decode cX8_probes 21 = .ok (.getfield 7, 3) := by decide +kernel
theorem dX8_probes_24 : decode cX8_probes 24 = .ok (.iload_n 1, 1) := by decide +kernel
theorem dX8_probes_25 : decode cX8_probes 25 = .ok (.iconst 5, 1) := by decide +kernel
theorem dX8_probes_26 : decode cX8_probes 26 = .ok (.iload_n 2, 1) := by decide +kernel
theorem dX8_probes_27 : decode cX8_probes 27 = .ok (.iadd, 1) := by decide +kernel
theorem dX8_probes_28 : decode cX8_probes 28 = .ok (.invokestatic 33, 3) := by decide +kernel
theorem dX8_probes_31 : decode cX8_probes 31 = .ok (.iaload, 1) := by decide +kernel
theorem dX8_probes_32 : decode cX8_probes 32 = .ok (.goto 5, 3) := by decide +kernel
theorem dX8_probes_35 : decode cX8_probes 35 = .ok (.bipush (-12), 2) := by decide +kernel
theorem dX8_probes_37 : decode cX8_probes 37 = .ok (.ireturn, 1) := by decide +kernel
theorem dX8_chance_0 : decode cX8_chance 0 = .ok (.aload_n 0, 1) := by decide +kernel
theorem dX8_chance_1 : decode cX8_chance 1 = .ok (.iload_n 1, 1) := by decide +kernel
theorem dX8_chance_2 : decode cX8_chance 2 = .ok (.invokevirtual 48, 3) := by decide +kernel
theorem dX8_chance_5 : decode cX8_chance 5 = .ok (.ifCond .ne 7, 3) := by decide +kernel
theorem dX8_chance_8 : decode cX8_chance 8 = .ok (.ldc2_w 170, 3) := by decide +kernel
theorem dX8_chance_11 : decode cX8_chance 11 = .ok (.lreturn, 1) := by decide +kernel
theorem dX8_chance_12 : decode cX8_chance 12 = .ok (.aload_n 0, 1) := by decide +kernel
theorem dX8_chance_13 : decode cX8_chance 13 = .ok (.iload_n 1, 1) := by decide +kernel
theorem dX8_chance_14 : decode cX8_chance 14 = .ok (.invokevirtual 127, 3) := by decide +kernel
theorem dX8_chance_17 : decode cX8_chance 17 = .ok (.iload_n 2, 1) := by decide +kernel
theorem dX8_chance_18 : decode cX8_chance 18 = .ok (.ifCond .eq 10, 3) := by decide +kernel
theorem dX8_chance_21 : decode cX8_chance 21 = .ok (.aload_n 0, 1) := by decide +kernel
theorem dX8_chance_22 : decode cX8_chance 22 = .ok (.getfield 124, 3) := by decide +kernel
theorem dX8_chance_25 : decode cX8_chance 25 = .ok (.goto 7, 3) := by decide +kernel
theorem dX8_chance_28 : decode cX8_chance 28 = .ok (.aload_n 0, 1) := by decide +kernel
theorem dX8_chance_29 : decode cX8_chance 29 = .ok (.getfield 117, 3) := by decide +kernel
theorem dX8_chance_32 : decode cX8_chance 32 = .ok (.aload_n 0, 1) := by decide +kernel
theorem dX8_chance_33 : decode cX8_chance 33 = .ok (.getfield 117, 3) := by decide +kernel
theorem dX8_chance_36 : decode cX8_chance 36 = .ok (.aload_n 0, 1) := by decide +kernel
theorem dX8_chance_37 : decode cX8_chance 37 = .ok (.getfield 124, 3) := by decide +kernel
theorem dX8_chance_40 : decode cX8_chance 40 = .ok (.invokestatic 172, 3) := by decide +kernel
theorem dX8_chance_43 : decode cX8_chance 43 = .ok (.ldiv, 1) := by decide +kernel
theorem dX8_chance_44 : decode cX8_chance 44 = .ok (.lreturn, 1) := by decide +kernel
theorem dX8_having_0 : decode cX8_having 0 = .ok (.iconst 0, 1) := by decide +kernel
theorem dX8_having_1 : decode cX8_having 1 = .ok (.istore_n 2, 1) := by decide +kernel
theorem dX8_having_2 : decode cX8_having 2 = .ok (.iconst 0, 1) := by decide +kernel
theorem dX8_having_3 : decode cX8_having 3 = .ok (.istore_n 3, 1) := by decide +kernel
theorem dX8_having_4 : decode cX8_having 4 = .ok (.iload_n 3, 1) := by decide +kernel
theorem dX8_having_5 : decode cX8_having 5 = .ok (.aload_n 0, 1) := by decide +kernel
theorem dX8_having_6 : decode cX8_having 6 = .ok (.getfield 7, 3) := by decide +kernel
theorem dX8_having_9 : decode cX8_having 9 = .ok (.bipush 10, 2) := by decide +kernel
theorem dX8_having_11 : decode cX8_having 11 = .ok (.iaload, 1) := by decide +kernel
theorem dX8_having_12 : decode cX8_having 12 = .ok (.if_icmp .ge 23, 3) := by decide +kernel
theorem dX8_having_15 : decode cX8_having 15 = .ok (.iload_n 2, 1) := by decide +kernel
theorem dX8_having_16 : decode cX8_having 16 = .ok (.aload_n 0, 1) := by decide +kernel
theorem dX8_having_17 : decode cX8_having 17 = .ok (.iload_n 3, 1) := by decide +kernel
theorem dX8_having_18 : decode cX8_having 18 = .ok (.invokevirtual 111, 3) := by decide +kernel
theorem dX8_having_21 : decode cX8_having 21 = .ok (.iload_n 1, 1) := by decide +kernel
theorem dX8_having_22 : decode cX8_having 22 = .ok (.ishr, 1) := by decide +kernel
theorem dX8_having_23 : decode cX8_having 23 = .ok (.iconst 1, 1) := by decide +kernel
theorem dX8_having_24 : decode cX8_having 24 = .ok (.iand, 1) := by decide +kernel
theorem dX8_having_25 : decode cX8_having 25 = .ok (.iload_n 3, 1) := by decide +kernel
theorem dX8_having_26 : decode cX8_having 26 = .ok (.ishl, 1) := by decide +kernel
theorem dX8_having_27 : decode cX8_having 27 = .ok (.ior, 1) := by decide +kernel
theorem dX8_having_28 : decode cX8_having 28 = .ok (.istore_n 2, 1) := by decide +kernel
theorem dX8_having_29 : decode cX8_having 29 = .ok (.iinc 3 1, 3) := by decide +kernel
theorem dX8_having_32 : decode cX8_having 32 = .ok (.goto (-28), 3) := by decide +kernel
theorem dX8_having_35 : decode cX8_having 35 = .ok (.iload_n 2, 1) := by decide +kernel
theorem dX8_having_36 : decode cX8_having 36 = .ok (.ireturn, 1) := by decide +kernel
theorem dX8_has_0 : decode cX8_has 0 = .ok (.aload_n 0, 1) := by decide +kernel
theorem dX8_has_1 : decode cX8_has 1 = .ok (.iload_n 1, 1) := by decide +kernel
theorem dX8_has_2 : decode cX8_has 2 = .ok (.invokevirtual 80, 3) := by decide +kernel
theorem dX8_has_5 : decode cX8_has 5 = .ok (.ifCond .eq 11, 3) := by decide +kernel
theorem dX8_has_8 : decode cX8_has 8 = .ok (.aload_n 0, 1) := by decide +kernel
theorem dX8_has_9 : decode cX8_has 9 = .ok (.iload_n 1, 1) := by decide +kernel
theorem dX8_has_10 : decode cX8_has 10 = .ok (.invokevirtual 176, 3) := by decide +kernel
theorem dX8_has_13 : decode cX8_has 13 = .ok (.goto 5, 3) := by decide +kernel
theorem dX8_has_16 : decode cX8_has 16 = .ok (.bipush (-11), 2) := by decide +kernel
theorem dX8_has_18 : decode cX8_has 18 = .ok (.ireturn, 1) := by decide +kernel
theorem dX8_isFrozen_0 : decode cX8_isFrozen 0 = .ok (.iload_n 1, 1) := by decide +kernel
theorem dX8_isFrozen_1 : decode cX8_isFrozen 1 = .ok (.iconst 0, 1) := by decide +kernel
theorem dX8_isFrozen_2 : decode cX8_isFrozen 2 = .ok (.sipush 167, 3) := by decide +kernel
theorem dX8_isFrozen_5 : decode cX8_isFrozen 5 = .ok (.invokestatic 37, 3) := by decide +kernel
theorem dX8_isFrozen_8 : decode cX8_isFrozen 8 = .ok (.ifCond .ne 8, 3) := by decide +kernel
theorem dX8_isFrozen_11 : decode cX8_isFrozen 11 = .ok (.bipush (-12), 2) := by decide +kernel
theorem dX8_isFrozen_13 : decode cX8_isFrozen 13 = .ok (.goto 16, 3) := by decide +kernel
theorem dX8_isFrozen_16 : decode cX8_isFrozen 16 = .ok (.aload_n 0, 1) := by decide +kernel
theorem dX8_isFrozen_17 : decode cX8_isFrozen 17 = .ok (.iload_n 1, 1) := by decide +kernel
theorem dX8_isFrozen_18 : decode cX8_isFrozen 18 = .ok (.invokevirtual 143, 3) := by decide +kernel
theorem dX8_isFrozen_21 : decode cX8_isFrozen 21 = .ok (.ifCond .eq 7, 3) := by decide +kernel
theorem dX8_isFrozen_24 : decode cX8_isFrozen 24 = .ok (.iconst 1, 1) := by decide +kernel
theorem dX8_isFrozen_25 : decode cX8_isFrozen 25 = .ok (.goto 4, 3) := by decide +kernel
theorem dX8_isFrozen_28 : decode cX8_isFrozen 28 = .ok (.iconst 0, 1) := by decide +kernel
theorem dX8_isFrozen_29 : decode cX8_isFrozen 29 = .ok (.ireturn, 1) := by decide +kernel
theorem dX8_isOver_0 : decode cX8_isOver 0 = .ok (.aload_n 0, 1) := by decide +kernel
theorem dX8_isOver_1 : decode cX8_isOver 1 = .ok (.getfield 7, 3) := by decide +kernel
theorem dX8_isOver_4 : decode cX8_isOver 4 = .ok (.iload_n 1, 1) := by decide +kernel
theorem dX8_isOver_5 : decode cX8_isOver 5 = .ok (.iconst 1, 1) := by decide +kernel
theorem dX8_isOver_6 : decode cX8_isOver 6 = .ok (.invokestatic 33, 3) := by decide +kernel
theorem dX8_isOver_9 : decode cX8_isOver 9 = .ok (.iaload, 1) := by decide +kernel
theorem dX8_isOver_10 : decode cX8_isOver 10 = .ok (.iconst 3, 1) := by decide +kernel
theorem dX8_isOver_11 : decode cX8_isOver 11 = .ok (.if_icmp .eq 17, 3) := by decide +kernel
theorem dX8_isOver_14 : decode cX8_isOver 14 = .ok (.aload_n 0, 1) := by decide +kernel
theorem dX8_isOver_15 : decode cX8_isOver 15 = .ok (.getfield 7, 3) := by decide +kernel
theorem dX8_isOver_18 : decode cX8_isOver 18 = .ok (.iload_n 1, 1) := by decide +kernel
theorem dX8_isOver_19 : decode cX8_isOver 19 = .ok (.iconst 1, 1) := by decide +kernel
theorem dX8_isOver_20 : decode cX8_isOver 20 = .ok (.invokestatic 33, 3) := by decide +kernel
theorem dX8_isOver_23 : decode cX8_isOver 23 = .ok (.iaload, 1) := by decide +kernel
theorem dX8_isOver_24 : decode cX8_isOver 24 = .ok (.iconst 5, 1) := by decide +kernel
theorem dX8_isOver_25 : decode cX8_isOver 25 = .ok (.if_icmp .ne 7, 3) := by decide +kernel
theorem dX8_isOver_28 : decode cX8_isOver 28 = .ok (.iconst 1, 1) := by decide +kernel
theorem dX8_isOver_29 : decode cX8_isOver 29 = .ok (.goto 4, 3) := by decide +kernel
theorem dX8_isOver_32 : decode cX8_isOver 32 = .ok (.iconst 0, 1) := by decide +kernel
theorem dX8_isOver_33 : decode cX8_isOver 33 = .ok (.ireturn, 1) := by decide +kernel
theorem dX8_forecast_0 : decode cX8_forecast 0 = .ok (.aload_n 0, 1) := by decide +kernel
theorem dX8_forecast_1 : decode cX8_forecast 1 = .ok (.iload_n 1, 1) := by decide +kernel
theorem dX8_forecast_2 : decode cX8_forecast 2 = .ok (.invokevirtual 48, 3) := by decide +kernel
theorem dX8_forecast_5 : decode cX8_forecast 5 = .ok (.ifCond .ne 6, 3) := by decide +kernel
theorem dX8_forecast_8 : decode cX8_forecast 8 = .ok (.bipush (-11), 2) := by decide +kernel
theorem dX8_forecast_10 : decode cX8_forecast 10 = .ok (.ireturn, 1) := by decide +kernel
theorem dX8_forecast_11 : decode cX8_forecast 11 = .ok (.iconst 0, 1) := by decide +kernel
theorem dX8_forecast_12 : decode cX8_forecast 12 = .ok (.istore_n 2, 1) := by decide +kernel
theorem dX8_forecast_13 : decode cX8_forecast 13 = .ok (.iload_n 2, 1) := by decide +kernel
theorem dX8_forecast_14 : decode cX8_forecast 14 = .ok (.sipush 257, 3) := by decide +kernel
theorem dX8_forecast_17 : decode cX8_forecast 17 = .ok (.if_icmp .ge 21, 3) := by decide +kernel
theorem dX8_forecast_20 : decode cX8_forecast 20 = .ok (.aload_n 0, 1) := by decide +kernel
theorem dX8_forecast_21 : decode cX8_forecast 21 = .ok (.getfield 13, 3) := by decide +kernel
theorem dX8_forecast_24 : decode cX8_forecast 24 = .ok (.iload_n 2, 1) := by decide +kernel
theorem dX8_forecast_25 : decode cX8_forecast 25 = .ok (.aload_n 0, 1) := by decide +kernel
theorem dX8_forecast_26 : decode cX8_forecast 26 = .ok (.getfield 7, 3) := by decide +kernel
theorem dX8_forecast_29 : decode cX8_forecast 29 = .ok (.iload_n 2, 1) := by decide +kernel
theorem dX8_forecast_30 : decode cX8_forecast 30 = .ok (.iaload, 1) := by decide +kernel
theorem dX8_forecast_31 : decode cX8_forecast 31 = .ok (.iastore, 1) := by decide +kernel
theorem dX8_forecast_32 : decode cX8_forecast 32 = .ok (.iinc 2 1, 3) := by decide +kernel
theorem dX8_forecast_35 : decode cX8_forecast 35 = .ok (.goto (-22), 3) := by decide +kernel
theorem dX8_forecast_38 : decode cX8_forecast 38 = .ok (.aload_n 0, 1) := by decide +kernel
theorem dX8_forecast_39 : decode cX8_forecast 39 = .ok (.iconst 1, 1) := by decide +kernel
theorem dX8_forecast_40 : decode cX8_forecast 40 = .ok (.putfield 131, 3) := by decide +kernel
theorem dX8_forecast_43 : decode cX8_forecast 43 = .ok (.iconst 0, 1) := by decide +kernel
theorem dX8_forecast_44 : decode cX8_forecast 44 = .ok (.istore_n 2, 1) := by decide +kernel
theorem dX8_forecast_45 : decode cX8_forecast 45 = .ok (.iload_n 2, 1) := by decide +kernel
theorem dX8_forecast_46 : decode cX8_forecast 46 = .ok (.sipush 400, 3) := by decide +kernel
theorem dX8_forecast_49 : decode cX8_forecast 49 = .ok (.if_icmp .ge 21, 3) := by decide +kernel
theorem dX8_forecast_52 : decode cX8_forecast 52 = .ok (.aload_n 0, 1) := by decide +kernel
theorem dX8_forecast_53 : decode cX8_forecast 53 = .ok (.iload_n 1, 1) := by decide +kernel
theorem dX8_forecast_54 : decode cX8_forecast 54 = .ok (.invokevirtual 179, 3) := by decide +kernel
theorem dX8_forecast_57 : decode cX8_forecast 57 = .ok (.ifCond .ne 13, 3) := by decide +kernel
theorem dX8_forecast_60 : decode cX8_forecast 60 = .ok (.aload_n 0, 1) := by decide +kernel
theorem dX8_forecast_61 : decode cX8_forecast 61 = .ok (.invokevirtual 164, 3) := by decide +kernel
theorem dX8_forecast_64 : decode cX8_forecast 64 = .ok (.iinc 2 1, 3) := by decide +kernel
theorem dX8_forecast_67 : decode cX8_forecast 67 = .ok (.goto (-22), 3) := by decide +kernel
theorem dX8_forecast_70 : decode cX8_forecast 70 = .ok (.aload_n 0, 1) := by decide +kernel
theorem dX8_forecast_71 : decode cX8_forecast 71 = .ok (.iload_n 1, 1) := by decide +kernel
theorem dX8_forecast_72 : decode cX8_forecast 72 = .ok (.invokevirtual 179, 3) := by decide +kernel
theorem dX8_forecast_75 : decode cX8_forecast 75 = .ok (.ifCond .eq 7, 3) := by decide +kernel
theorem dX8_forecast_78 : decode cX8_forecast 78 = .ok (.iload_n 2, 1) := by decide +kernel
theorem dX8_forecast_79 : decode cX8_forecast 79 = .ok (.goto 5, 3) := by decide +kernel
theorem dX8_forecast_82 : decode cX8_forecast 82 = .ok (.bipush (-15), 2) := by decide +kernel
theorem dX8_forecast_84 : decode cX8_forecast 84 = .ok (.istore_n 3, 1) := by decide +kernel
theorem dX8_forecast_85 : decode cX8_forecast 85 = .ok (.aload_n 0, 1) := by decide +kernel
theorem dX8_forecast_86 : decode cX8_forecast 86 = .ok (.iconst 0, 1) := by decide +kernel
theorem dX8_forecast_87 : decode cX8_forecast 87 = .ok (.putfield 131, 3) := by decide +kernel
theorem dX8_forecast_90 : decode cX8_forecast 90 = .ok (.iconst 0, 1) := by decide +kernel
theorem dX8_forecast_91 : decode cX8_forecast 91 = .ok (.istore 4, 2) := by decide +kernel
theorem dX8_forecast_93 : decode cX8_forecast 93 = .ok (.iload 4, 2) := by decide +kernel
theorem dX8_forecast_95 : decode cX8_forecast 95 = .ok (.sipush 257, 3) := by decide +kernel
theorem dX8_forecast_98 : decode cX8_forecast 98 = .ok (.if_icmp .ge 23, 3) := by decide +kernel
theorem dX8_forecast_101 : decode cX8_forecast 101 = .ok (.aload_n 0, 1) := by decide +kernel
theorem dX8_forecast_102 : decode cX8_forecast 102 = .ok (.getfield 7, 3) := by decide +kernel
theorem dX8_forecast_105 : decode cX8_forecast 105 = .ok (.iload 4, 2) := by decide +kernel
theorem dX8_forecast_107 : decode cX8_forecast 107 = .ok (.aload_n 0, 1) := by decide +kernel
theorem dX8_forecast_108 : decode cX8_forecast 108 = .ok (.getfield 13, 3) := by decide +kernel
theorem dX8_forecast_111 : decode cX8_forecast 111 = .ok (.iload 4, 2) := by decide +kernel
theorem dX8_forecast_113 : decode cX8_forecast 113 = .ok (.iaload, 1) := by decide +kernel
theorem dX8_forecast_114 : decode cX8_forecast 114 = .ok (.iastore, 1) := by decide +kernel
theorem dX8_forecast_115 : decode cX8_forecast 115 = .ok (.iinc 4 1, 3) := by decide +kernel
theorem dX8_forecast_118 : decode cX8_forecast 118 = .ok (.goto (-25), 3) := by decide +kernel
theorem dX8_forecast_121 : decode cX8_forecast 121 = .ok (.iload_n 3, 1) := by decide +kernel
theorem dX8_forecast_122 : decode cX8_forecast 122 = .ok (.ireturn, 1) := by decide +kernel
theorem dX8_entries_0 : decode cX8_entries 0 = .ok (.aload_n 0, 1) := by decide +kernel
theorem dX8_entries_1 : decode cX8_entries 1 = .ok (.getfield 7, 3) := by decide +kernel
theorem dX8_entries_4 : decode cX8_entries 4 = .ok (.bipush 11, 2) := by decide +kernel
theorem dX8_entries_6 : decode cX8_entries 6 = .ok (.iaload, 1) := by decide +kernel
theorem dX8_entries_7 : decode cX8_entries 7 = .ok (.ireturn, 1) := by decide +kernel
theorem dX8_entry_0 : decode cX8_entry 0 = .ok (.iload_n 1, 1) := by decide +kernel
theorem dX8_entry_1 : decode cX8_entry 1 = .ok (.iconst 0, 1) := by decide +kernel
theorem dX8_entry_2 : decode cX8_entry 2 = .ok (.aload_n 0, 1) := by decide +kernel
theorem dX8_entry_3 : decode cX8_entry 3 = .ok (.getfield 7, 3) := by decide +kernel
theorem dX8_entry_6 : decode cX8_entry 6 = .ok (.bipush 11, 2) := by decide +kernel
theorem dX8_entry_8 : decode cX8_entry 8 = .ok (.iaload, 1) := by decide +kernel
theorem dX8_entry_9 : decode cX8_entry 9 = .ok (.iconst 1, 1) := by decide +kernel
theorem dX8_entry_10 : decode cX8_entry 10 = .ok (.isub, 1) := by decide +kernel
theorem dX8_entry_11 : decode cX8_entry 11 = .ok (.invokestatic 37, 3) := by decide +kernel
theorem dX8_entry_14 : decode cX8_entry 14 = .ok (.ifCond .ne 6, 3) := by decide +kernel
theorem dX8_entry_17 : decode cX8_entry 17 = .ok (.bipush (-11), 2) := by decide +kernel
theorem dX8_entry_19 : decode cX8_entry 19 = .ok (.ireturn, 1) := by decide +kernel
theorem dX8_entry_20 : decode cX8_entry 20 = .ok (.iload_n 2, 1) := by decide +kernel
theorem dX8_entry_21 : decode cX8_entry 21 = .ok (.iconst 0, 1) := by decide +kernel
theorem dX8_entry_22 : decode cX8_entry 22 = .ok (.iconst 3, 1) := by decide +kernel
theorem dX8_entry_23 : decode cX8_entry 23 = .ok (.invokestatic 37, 3) := by decide +kernel
theorem dX8_entry_26 : decode cX8_entry 26 = .ok (.ifCond .eq 19, 3) := by decide +kernel
theorem dX8_entry_29 : decode cX8_entry 29 = .ok (.aload_n 0, 1) := by decide +kernel
theorem dX8_entry_30 : decode cX8_entry 30 = .ok (.getfield 7, 3) := by decide +kernel
theorem dX8_entry_33 : decode cX8_entry 33 = .ok (.bipush 12, 2) := by decide +kernel
theorem dX8_entry_35 : decode cX8_entry 35 = .ok (.iconst 4, 1) := by decide +kernel
theorem dX8_entry_36 : decode cX8_entry 36 = .ok (.iload_n 1, 1) := by decide +kernel
theorem dX8_entry_37 : decode cX8_entry 37 = .ok (.imul, 1) := by decide +kernel
theorem dX8_entry_38 : decode cX8_entry 38 = .ok (.iadd, 1) := by decide +kernel
theorem dX8_entry_39 : decode cX8_entry 39 = .ok (.iload_n 2, 1) := by decide +kernel
theorem dX8_entry_40 : decode cX8_entry 40 = .ok (.iadd, 1) := by decide +kernel
theorem dX8_entry_41 : decode cX8_entry 41 = .ok (.iaload, 1) := by decide +kernel
theorem dX8_entry_42 : decode cX8_entry 42 = .ok (.goto 5, 3) := by decide +kernel
theorem dX8_entry_45 : decode cX8_entry 45 = .ok (.bipush (-12), 2) := by decide +kernel
theorem dX8_entry_47 : decode cX8_entry 47 = .ok (.ireturn, 1) := by decide +kernel
theorem dX8_count_0 : decode cX8_count 0 = .ok (.iload_n 1, 1) := by decide +kernel
theorem dX8_count_1 : decode cX8_count 1 = .ok (.iconst 1, 1) := by decide +kernel
theorem dX8_count_2 : decode cX8_count 2 = .ok (.bipush 7, 2) := by decide +kernel
theorem dX8_count_4 : decode cX8_count 4 = .ok (.invokestatic 37, 3) := by decide +kernel
theorem dX8_count_7 : decode cX8_count 7 = .ok (.ifCond .ne 6, 3) := by decide +kernel
theorem dX8_count_10 : decode cX8_count 10 = .ok (.bipush (-12), 2) := by decide +kernel
theorem dX8_count_12 : decode cX8_count 12 = .ok (.ireturn, 1) := by decide +kernel
theorem dX8_count_13 : decode cX8_count 13 = .ok (.iload_n 2, 1) := by decide +kernel
theorem dX8_count_14 : decode cX8_count 14 = .ok (.iconst (-1), 1) := by decide +kernel
theorem dX8_count_15 : decode cX8_count 15 = .ok (.if_icmp .eq 14, 3) := by decide +kernel
theorem dX8_count_18 : decode cX8_count 18 = .ok (.aload_n 0, 1) := by decide +kernel
theorem dX8_count_19 : decode cX8_count 19 = .ok (.iload_n 2, 1) := by decide +kernel
theorem dX8_count_20 : decode cX8_count 20 = .ok (.invokevirtual 48, 3) := by decide +kernel
theorem dX8_count_23 : decode cX8_count 23 = .ok (.ifCond .ne 6, 3) := by decide +kernel
theorem dX8_count_26 : decode cX8_count 26 = .ok (.bipush (-11), 2) := by decide +kernel
theorem dX8_count_28 : decode cX8_count 28 = .ok (.ireturn, 1) := by decide +kernel
theorem dX8_count_29 : decode cX8_count 29 = .ok (.iconst 0, 1) := by decide +kernel
theorem dX8_count_30 : decode cX8_count 30 = .ok (.istore_n 3, 1) := by decide +kernel
theorem dX8_count_31 : decode cX8_count 31 = .ok (.bipush 12, 2) := by decide +kernel
theorem dX8_count_33 : decode cX8_count 33 = .ok (.istore 4, 2) := by decide +kernel
theorem dX8_count_35 : decode cX8_count 35 = .ok (.iload 4, 2) := by decide +kernel
theorem dX8_count_37 : decode cX8_count 37 = .ok (.bipush 12, 2) := by decide +kernel
theorem dX8_count_39 : decode cX8_count 39 = .ok (.iconst 4, 1) := by decide +kernel
theorem dX8_count_40 : decode cX8_count 40 = .ok (.aload_n 0, 1) := by decide +kernel
theorem dX8_count_41 : decode cX8_count 41 = .ok (.getfield 7, 3) := by decide +kernel
theorem dX8_count_44 : decode cX8_count 44 = .ok (.bipush 11, 2) := by decide +kernel
theorem dX8_count_46 : decode cX8_count 46 = .ok (.iaload, 1) := by decide +kernel
theorem dX8_count_47 : decode cX8_count 47 = .ok (.imul, 1) := by decide +kernel
theorem dX8_count_48 : decode cX8_count 48 = .ok (.iadd, 1) := by decide +kernel
theorem dX8_count_49 : decode cX8_count 49 = .ok (.if_icmp .ge 48, 3) := by decide +kernel
theorem dX8_count_52 : decode cX8_count 52 = .ok (.iload_n 3, 1) := by decide +kernel
theorem dX8_count_53 : decode cX8_count 53 = .ok (.aload_n 0, 1) := by decide +kernel
theorem dX8_count_54 : decode cX8_count 54 = .ok (.getfield 7, 3) := by decide +kernel
theorem dX8_count_57 : decode cX8_count 57 = .ok (.iload 4, 2) := by decide +kernel
theorem dX8_count_59 : decode cX8_count 59 = .ok (.iconst 2, 1) := by decide +kernel
theorem dX8_count_60 : decode cX8_count 60 = .ok (.iadd, 1) := by decide +kernel
theorem dX8_count_61 : decode cX8_count 61 = .ok (.iaload, 1) := by decide +kernel
theorem dX8_count_62 : decode cX8_count 62 = .ok (.iload_n 1, 1) := by decide +kernel
theorem dX8_count_63 : decode cX8_count 63 = .ok (.if_icmp .ne 25, 3) := by decide +kernel
theorem dX8_count_66 : decode cX8_count 66 = .ok (.iload_n 2, 1) := by decide +kernel
theorem dX8_count_67 : decode cX8_count 67 = .ok (.iconst (-1), 1) := by decide +kernel
theorem dX8_count_68 : decode cX8_count 68 = .ok (.if_icmp .eq 16, 3) := by decide +kernel
theorem dX8_count_71 : decode cX8_count 71 = .ok (.aload_n 0, 1) := by decide +kernel
theorem dX8_count_72 : decode cX8_count 72 = .ok (.getfield 7, 3) := by decide +kernel
theorem dX8_count_75 : decode cX8_count 75 = .ok (.iload 4, 2) := by decide +kernel
theorem dX8_count_77 : decode cX8_count 77 = .ok (.iconst 1, 1) := by decide +kernel
theorem dX8_count_78 : decode cX8_count 78 = .ok (.iadd, 1) := by decide +kernel
theorem dX8_count_79 : decode cX8_count 79 = .ok (.iaload, 1) := by decide +kernel
theorem dX8_count_80 : decode cX8_count 80 = .ok (.iload_n 2, 1) := by decide +kernel
theorem dX8_count_81 : decode cX8_count 81 = .ok (.if_icmp .ne 7, 3) := by decide +kernel
theorem dX8_count_84 : decode cX8_count 84 = .ok (.iconst 1, 1) := by decide +kernel
theorem dX8_count_85 : decode cX8_count 85 = .ok (.goto 4, 3) := by decide +kernel
theorem dX8_count_88 : decode cX8_count 88 = .ok (.iconst 0, 1) := by decide +kernel
theorem dX8_count_89 : decode cX8_count 89 = .ok (.iadd, 1) := by decide +kernel
theorem dX8_count_90 : decode cX8_count 90 = .ok (.istore_n 3, 1) := by decide +kernel
theorem dX8_count_91 : decode cX8_count 91 = .ok (.iinc 4 4, 3) := by decide +kernel
theorem dX8_count_94 : decode cX8_count 94 = .ok (.goto (-59), 3) := by decide +kernel
theorem dX8_count_97 : decode cX8_count 97 = .ok (.iload_n 3, 1) := by decide +kernel
theorem dX8_count_98 : decode cX8_count 98 = .ok (.ireturn, 1) := by decide +kernel
theorem dX8_save_0 : decode cX8_save 0 = .ok (.iload_n 1, 1) := by decide +kernel
theorem dX8_save_1 : decode cX8_save 1 = .ok (.iconst 0, 1) := by decide +kernel
theorem dX8_save_2 : decode cX8_save 2 = .ok (.iconst 1, 1) := by decide +kernel
theorem dX8_save_3 : decode cX8_save 3 = .ok (.invokestatic 37, 3) := by decide +kernel
theorem dX8_save_6 : decode cX8_save 6 = .ok (.ifCond .ne 6, 3) := by decide +kernel
theorem dX8_save_9 : decode cX8_save 9 = .ok (.bipush (-11), 2) := by decide +kernel
theorem dX8_save_11 : decode cX8_save 11 = .ok (.ireturn, 1) := by decide +kernel
theorem dX8_save_12 : decode cX8_save 12 = .ok (.iconst 0, 1) := by decide +kernel
theorem dX8_save_13 : decode cX8_save 13 = .ok (.istore_n 2, 1) := by decide +kernel
theorem dX8_save_14 : decode cX8_save 14 = .ok (.iload_n 2, 1) := by decide +kernel
theorem dX8_save_15 : decode cX8_save 15 = .ok (.sipush 257, 3) := by decide +kernel
theorem dX8_save_18 : decode cX8_save 18 = .ok (.if_icmp .ge 27, 3) := by decide +kernel
theorem dX8_save_21 : decode cX8_save 21 = .ok (.aload_n 0, 1) := by decide +kernel
theorem dX8_save_22 : decode cX8_save 22 = .ok (.getfield 16, 3) := by decide +kernel
theorem dX8_save_25 : decode cX8_save 25 = .ok (.sipush 257, 3) := by decide +kernel
theorem dX8_save_28 : decode cX8_save 28 = .ok (.iload_n 1, 1) := by decide +kernel
theorem dX8_save_29 : decode cX8_save 29 = .ok (.imul, 1) := by decide +kernel
theorem dX8_save_30 : decode cX8_save 30 = .ok (.iload_n 2, 1) := by decide +kernel
theorem dX8_save_31 : decode cX8_save 31 = .ok (.iadd, 1) := by decide +kernel
theorem dX8_save_32 : decode cX8_save 32 = .ok (.aload_n 0, 1) := by decide +kernel
theorem dX8_save_33 : decode cX8_save 33 = .ok (.getfield 7, 3) := by decide +kernel
theorem dX8_save_36 : decode cX8_save 36 = .ok (.iload_n 2, 1) := by decide +kernel
theorem dX8_save_37 : decode cX8_save 37 = .ok (.iaload, 1) := by decide +kernel
theorem dX8_save_38 : decode cX8_save 38 = .ok (.iastore, 1) := by decide +kernel
theorem dX8_save_39 : decode cX8_save 39 = .ok (.iinc 2 1, 3) := by decide +kernel
theorem dX8_save_42 : decode cX8_save 42 = .ok (.goto (-28), 3) := by decide +kernel
theorem dX8_save_45 : decode cX8_save 45 = .ok (.aload_n 0, 1) := by decide +kernel
theorem dX8_save_46 : decode cX8_save 46 = .ok (.getfield 19, 3) := by decide +kernel
theorem dX8_save_49 : decode cX8_save 49 = .ok (.iload_n 1, 1) := by decide +kernel
theorem dX8_save_50 : decode cX8_save 50 = .ok (.iconst 1, 1) := by decide +kernel
theorem dX8_save_51 : decode cX8_save 51 = .ok (.bastore, 1) := by decide +kernel
theorem dX8_save_52 : decode cX8_save 52 = .ok (.aload_n 0, 1) := by decide +kernel
theorem dX8_save_53 : decode cX8_save 53 = .ok (.getfield 7, 3) := by decide +kernel
theorem dX8_save_56 : decode cX8_save 56 = .ok (.iconst 1, 1) := by decide +kernel
theorem dX8_save_57 : decode cX8_save 57 = .ok (.iaload, 1) := by decide +kernel
theorem dX8_save_58 : decode cX8_save 58 = .ok (.ireturn, 1) := by decide +kernel
theorem dX8_restore_0 : decode cX8_restore 0 = .ok (.iload_n 1, 1) := by decide +kernel
theorem dX8_restore_1 : decode cX8_restore 1 = .ok (.iconst 0, 1) := by decide +kernel
theorem dX8_restore_2 : decode cX8_restore 2 = .ok (.iconst 1, 1) := by decide +kernel
theorem dX8_restore_3 : decode cX8_restore 3 = .ok (.invokestatic 37, 3) := by decide +kernel
theorem dX8_restore_6 : decode cX8_restore 6 = .ok (.ifCond .ne 6, 3) := by decide +kernel
theorem dX8_restore_9 : decode cX8_restore 9 = .ok (.bipush (-11), 2) := by decide +kernel
theorem dX8_restore_11 : decode cX8_restore 11 = .ok (.ireturn, 1) := by decide +kernel
theorem dX8_restore_12 : decode cX8_restore 12 = .ok (.aload_n 0, 1) := by decide +kernel
theorem dX8_restore_13 : decode cX8_restore 13 = .ok (.getfield 19, 3) := by decide +kernel
theorem dX8_restore_16 : decode cX8_restore 16 = .ok (.iload_n 1, 1) := by decide +kernel
theorem dX8_restore_17 : decode cX8_restore 17 = .ok (.baload, 1) := by decide +kernel
theorem dX8_restore_18 : decode cX8_restore 18 = .ok (.ifCond .ne 6, 3) := by decide +kernel
theorem dX8_restore_21 : decode cX8_restore 21 = .ok (.bipush (-13), 2) := by decide +kernel
theorem dX8_restore_23 : decode cX8_restore 23 = .ok (.ireturn, 1) := by decide +kernel
theorem dX8_restore_24 : decode cX8_restore 24 = .ok (.iconst 0, 1) := by decide +kernel
theorem dX8_restore_25 : decode cX8_restore 25 = .ok (.istore_n 2, 1) := by decide +kernel
theorem dX8_restore_26 : decode cX8_restore 26 = .ok (.iload_n 2, 1) := by decide +kernel
theorem dX8_restore_27 : decode cX8_restore 27 = .ok (.sipush 257, 3) := by decide +kernel
theorem dX8_restore_30 : decode cX8_restore 30 = .ok (.if_icmp .ge 27, 3) := by decide +kernel
theorem dX8_restore_33 : decode cX8_restore 33 = .ok (.aload_n 0, 1) := by decide +kernel
theorem dX8_restore_34 : decode cX8_restore 34 = .ok (.getfield 7, 3) := by decide +kernel
theorem dX8_restore_37 : decode cX8_restore 37 = .ok (.iload_n 2, 1) := by decide +kernel
theorem dX8_restore_38 : decode cX8_restore 38 = .ok (.aload_n 0, 1) := by decide +kernel
theorem dX8_restore_39 : decode cX8_restore 39 = .ok (.getfield 16, 3) := by decide +kernel
theorem dX8_restore_42 : decode cX8_restore 42 = .ok (.sipush 257, 3) := by decide +kernel
theorem dX8_restore_45 : decode cX8_restore 45 = .ok (.iload_n 1, 1) := by decide +kernel
theorem dX8_restore_46 : decode cX8_restore 46 = .ok (.imul, 1) := by decide +kernel
theorem dX8_restore_47 : decode cX8_restore 47 = .ok (.iload_n 2, 1) := by decide +kernel
theorem dX8_restore_48 : decode cX8_restore 48 = .ok (.iadd, 1) := by decide +kernel
theorem dX8_restore_49 : decode cX8_restore 49 = .ok (.iaload, 1) := by decide +kernel
theorem dX8_restore_50 : decode cX8_restore 50 = .ok (.iastore, 1) := by decide +kernel
theorem dX8_restore_51 : decode cX8_restore 51 = .ok (.iinc 2 1, 3) := by decide +kernel
theorem dX8_restore_54 : decode cX8_restore 54 = .ok (.goto (-28), 3) := by decide +kernel
theorem dX8_restore_57 : decode cX8_restore 57 = .ok (.aload_n 0, 1) := by decide +kernel
theorem dX8_restore_58 : decode cX8_restore 58 = .ok (.getfield 7, 3) := by decide +kernel
theorem dX8_restore_61 : decode cX8_restore 61 = .ok (.iconst 1, 1) := by decide +kernel
theorem dX8_restore_62 : decode cX8_restore 62 = .ok (.iaload, 1) := by decide +kernel
theorem dX8_restore_63 : decode cX8_restore 63 = .ok (.ireturn, 1) := by decide +kernel
theorem dX8_more_0 : decode cX8_more 0 = .ok (.ldc2_w 182, 3) := by decide +kernel
theorem dX8_more_3 : decode cX8_more 3 = .ok (.lload_n 0, 1) := by decide +kernel
theorem dX8_more_4 : decode cX8_more 4 = .ok (.lmul, 1) := by decide +kernel
theorem dX8_more_5 : decode cX8_more 5 = .ok (.lload_n 2, 1) := by decide +kernel
theorem dX8_more_6 : decode cX8_more 6 = .ok (.ladd, 1) := by decide +kernel
theorem dX8_more_7 : decode cX8_more 7 = .ok (.lreturn, 1) := by decide +kernel
theorem dX8_checksum_0 : decode cX8_checksum 0 = .ok (.ldc2_w 184, 3) := by decide +kernel
theorem dX8_checksum_3 : decode cX8_checksum 3 = .ok (.aload_n 0, 1) := by decide +kernel
theorem dX8_checksum_4 : decode cX8_checksum 4 = .ok (.getfield 7, 3) := by decide +kernel
theorem dX8_checksum_7 : decode cX8_checksum 7 = .ok (.iconst 1, 1) := by decide +kernel
theorem dX8_checksum_8 : decode cX8_checksum 8 = .ok (.iaload, 1) := by decide +kernel
theorem dX8_checksum_9 : decode cX8_checksum 9 = .ok (.i2l, 1) := by decide +kernel
theorem dX8_checksum_10 : decode cX8_checksum 10 = .ok (.invokestatic 186, 3) := by decide +kernel
theorem dX8_checksum_13 : decode cX8_checksum 13 = .ok (.aload_n 0, 1) := by decide +kernel
theorem dX8_checksum_14 : decode cX8_checksum 14 = .ok (.getfield 7, 3) := by decide +kernel
theorem dX8_checksum_17 : decode cX8_checksum 17 = .ok (.bipush 10, 2) := by decide +kernel
theorem dX8_checksum_19 : decode cX8_checksum 19 = .ok (.iaload, 1) := by decide +kernel
theorem dX8_checksum_20 : decode cX8_checksum 20 = .ok (.i2l, 1) := by decide +kernel
theorem dX8_checksum_21 : decode cX8_checksum 21 = .ok (.invokestatic 186, 3) := by decide +kernel
theorem dX8_checksum_24 : decode cX8_checksum 24 = .ok (.lstore_n 1, 1) := by decide +kernel
theorem dX8_checksum_25 : decode cX8_checksum 25 = .ok (.iconst 0, 1) := by decide +kernel
theorem dX8_checksum_26 : decode cX8_checksum 26 = .ok (.istore_n 3, 1) := by decide +kernel
theorem dX8_checksum_27 : decode cX8_checksum 27 = .ok (.iload_n 3, 1) := by decide +kernel
theorem dX8_checksum_28 : decode cX8_checksum 28 = .ok (.aload_n 0, 1) := by decide +kernel
theorem dX8_checksum_29 : decode cX8_checksum 29 = .ok (.getfield 7, 3) := by decide +kernel
theorem dX8_checksum_32 : decode cX8_checksum 32 = .ok (.bipush 10, 2) := by decide +kernel
theorem dX8_checksum_34 : decode cX8_checksum 34 = .ok (.iaload, 1) := by decide +kernel
theorem dX8_checksum_35 : decode cX8_checksum 35 = .ok (.if_icmp .ge 92, 3) := by decide +kernel
theorem dX8_checksum_38 : decode cX8_checksum 38 = .ok (.iconst 0, 1) := by decide +kernel
theorem dX8_checksum_39 : decode cX8_checksum 39 = .ok (.istore 4, 2) := by decide +kernel
theorem dX8_checksum_41 : decode cX8_checksum 41 = .ok (.iload 4, 2) := by decide +kernel
theorem dX8_checksum_43 : decode cX8_checksum 43 = .ok (.bipush 7, 2) := by decide +kernel
theorem dX8_checksum_45 : decode cX8_checksum 45 = .ok (.if_icmp .ge 22, 3) := by decide +kernel
theorem dX8_checksum_48 : decode cX8_checksum 48 = .ok (.lload_n 1, 1) := by decide +kernel
theorem dX8_checksum_49 : decode cX8_checksum 49 = .ok (.aload_n 0, 1) := by decide +kernel
theorem dX8_checksum_50 : decode cX8_checksum 50 = .ok (.iload_n 3, 1) := by decide +kernel
theorem dX8_checksum_51 : decode cX8_checksum 51 = .ok (.iload 4, 2) := by decide +kernel
theorem dX8_checksum_53 : decode cX8_checksum 53 = .ok (.invokevirtual 167, 3) := by decide +kernel
theorem dX8_checksum_56 : decode cX8_checksum 56 = .ok (.i2l, 1) := by decide +kernel
theorem dX8_checksum_57 : decode cX8_checksum 57 = .ok (.invokestatic 186, 3) := by decide +kernel
theorem dX8_checksum_60 : decode cX8_checksum 60 = .ok (.lstore_n 1, 1) := by decide +kernel
theorem dX8_checksum_61 : decode cX8_checksum 61 = .ok (.iinc 4 1, 3) := by decide +kernel
theorem dX8_checksum_64 : decode cX8_checksum 64 = .ok (.goto (-23), 3) := by decide +kernel
theorem dX8_checksum_67 : decode cX8_checksum 67 = .ok (.iconst 0, 1) := by decide +kernel
theorem dX8_checksum_68 : decode cX8_checksum 68 = .ok (.istore 4, 2) := by decide +kernel
theorem dX8_checksum_70 : decode cX8_checksum 70 = .ok (.iload 4, 2) := by decide +kernel
theorem dX8_checksum_72 : decode cX8_checksum 72 = .ok (.iconst 4, 1) := by decide +kernel
theorem dX8_checksum_73 : decode cX8_checksum 73 = .ok (.if_icmp .ge 28, 3) := by decide +kernel
theorem dX8_checksum_76 : decode cX8_checksum 76 = .ok (.lload_n 1, 1) := by decide +kernel
theorem dX8_checksum_77 : decode cX8_checksum 77 = .ok (.aload_n 0, 1) := by decide +kernel
theorem dX8_checksum_78 : decode cX8_checksum 78 = .ok (.getfield 7, 3) := by decide +kernel
theorem dX8_checksum_81 : decode cX8_checksum 81 = .ok (.iload_n 3, 1) := by decide +kernel
theorem dX8_checksum_82 : decode cX8_checksum 82 = .ok (.iconst 5, 1) := by decide +kernel
theorem dX8_checksum_83 : decode cX8_checksum 83 = .ok (.iload 4, 2) := by decide +kernel
theorem dX8_checksum_85 : decode cX8_checksum 85 = .ok (.iadd, 1) := by decide +kernel
theorem dX8_checksum_86 : decode cX8_checksum 86 = .ok (.invokestatic 33, 3) := by decide +kernel
theorem dX8_checksum_89 : decode cX8_checksum 89 = .ok (.iaload, 1) := by decide +kernel
theorem dX8_checksum_90 : decode cX8_checksum 90 = .ok (.i2l, 1) := by decide +kernel
theorem dX8_checksum_91 : decode cX8_checksum 91 = .ok (.invokestatic 186, 3) := by decide +kernel
theorem dX8_checksum_94 : decode cX8_checksum 94 = .ok (.lstore_n 1, 1) := by decide +kernel
theorem dX8_checksum_95 : decode cX8_checksum 95 = .ok (.iinc 4 1, 3) := by decide +kernel
theorem dX8_checksum_98 : decode cX8_checksum 98 = .ok (.goto (-28), 3) := by decide +kernel
theorem dX8_checksum_101 : decode cX8_checksum 101 = .ok (.lload_n 1, 1) := by decide +kernel
theorem dX8_checksum_102 : decode cX8_checksum 102 = .ok (.aload_n 0, 1) := by decide +kernel
theorem dX8_checksum_103 : decode cX8_checksum 103 = .ok (.iload_n 3, 1) := by decide +kernel
theorem dX8_checksum_104 : decode cX8_checksum 104 = .ok (.iconst 0, 1) := by decide +kernel
theorem dX8_checksum_105 : decode cX8_checksum 105 = .ok (.invokevirtual 189, 3) := by decide +kernel
theorem dX8_checksum_108 : decode cX8_checksum 108 = .ok (.invokestatic 186, 3) := by decide +kernel
theorem dX8_checksum_111 : decode cX8_checksum 111 = .ok (.aload_n 0, 1) := by decide +kernel
theorem dX8_checksum_112 : decode cX8_checksum 112 = .ok (.iload_n 3, 1) := by decide +kernel
theorem dX8_checksum_113 : decode cX8_checksum 113 = .ok (.iconst 1, 1) := by decide +kernel
theorem dX8_checksum_114 : decode cX8_checksum 114 = .ok (.invokevirtual 189, 3) := by decide +kernel
theorem dX8_checksum_117 : decode cX8_checksum 117 = .ok (.invokestatic 186, 3) := by decide +kernel
theorem dX8_checksum_120 : decode cX8_checksum 120 = .ok (.lstore_n 1, 1) := by decide +kernel
theorem dX8_checksum_121 : decode cX8_checksum 121 = .ok (.iinc 3 1, 3) := by decide +kernel
theorem dX8_checksum_124 : decode cX8_checksum 124 = .ok (.goto (-97), 3) := by decide +kernel
theorem dX8_checksum_127 : decode cX8_checksum 127 = .ok (.iconst 0, 1) := by decide +kernel
theorem dX8_checksum_128 : decode cX8_checksum 128 = .ok (.istore_n 3, 1) := by decide +kernel
theorem dX8_checksum_129 : decode cX8_checksum 129 = .ok (.iload_n 3, 1) := by decide +kernel
theorem dX8_checksum_130 : decode cX8_checksum 130 = .ok (.aload_n 0, 1) := by decide +kernel
theorem dX8_checksum_131 : decode cX8_checksum 131 = .ok (.getfield 7, 3) := by decide +kernel
theorem dX8_checksum_134 : decode cX8_checksum 134 = .ok (.iconst 0, 1) := by decide +kernel
theorem dX8_checksum_135 : decode cX8_checksum 135 = .ok (.iaload, 1) := by decide +kernel
theorem dX8_checksum_136 : decode cX8_checksum 136 = .ok (.if_icmp .ge 20, 3) := by decide +kernel
theorem dX8_checksum_139 : decode cX8_checksum 139 = .ok (.lload_n 1, 1) := by decide +kernel
theorem dX8_checksum_140 : decode cX8_checksum 140 = .ok (.aload_n 0, 1) := by decide +kernel
theorem dX8_checksum_141 : decode cX8_checksum 141 = .ok (.iload_n 3, 1) := by decide +kernel
theorem dX8_checksum_142 : decode cX8_checksum 142 = .ok (.invokevirtual 176, 3) := by decide +kernel
theorem dX8_checksum_145 : decode cX8_checksum 145 = .ok (.i2l, 1) := by decide +kernel
theorem dX8_checksum_146 : decode cX8_checksum 146 = .ok (.invokestatic 186, 3) := by decide +kernel
theorem dX8_checksum_149 : decode cX8_checksum 149 = .ok (.lstore_n 1, 1) := by decide +kernel
theorem dX8_checksum_150 : decode cX8_checksum 150 = .ok (.iinc 3 1, 3) := by decide +kernel
theorem dX8_checksum_153 : decode cX8_checksum 153 = .ok (.goto (-24), 3) := by decide +kernel
theorem dX8_checksum_156 : decode cX8_checksum 156 = .ok (.lload_n 1, 1) := by decide +kernel
theorem dX8_checksum_157 : decode cX8_checksum 157 = .ok (.aload_n 0, 1) := by decide +kernel
theorem dX8_checksum_158 : decode cX8_checksum 158 = .ok (.getfield 7, 3) := by decide +kernel
theorem dX8_checksum_161 : decode cX8_checksum 161 = .ok (.bipush 11, 2) := by decide +kernel
theorem dX8_checksum_163 : decode cX8_checksum 163 = .ok (.iaload, 1) := by decide +kernel
theorem dX8_checksum_164 : decode cX8_checksum 164 = .ok (.i2l, 1) := by decide +kernel
theorem dX8_checksum_165 : decode cX8_checksum 165 = .ok (.invokestatic 186, 3) := by decide +kernel
theorem dX8_checksum_168 : decode cX8_checksum 168 = .ok (.lstore_n 1, 1) := by decide +kernel
theorem dX8_checksum_169 : decode cX8_checksum 169 = .ok (.bipush 12, 2) := by decide +kernel
theorem dX8_checksum_171 : decode cX8_checksum 171 = .ok (.istore_n 3, 1) := by decide +kernel
theorem dX8_checksum_172 : decode cX8_checksum 172 = .ok (.iload_n 3, 1) := by decide +kernel
theorem dX8_checksum_173 : decode cX8_checksum 173 = .ok (.bipush 12, 2) := by decide +kernel
theorem dX8_checksum_175 : decode cX8_checksum 175 = .ok (.iconst 4, 1) := by decide +kernel
theorem dX8_checksum_176 : decode cX8_checksum 176 = .ok (.aload_n 0, 1) := by decide +kernel
theorem dX8_checksum_177 : decode cX8_checksum 177 = .ok (.getfield 7, 3) := by decide +kernel
theorem dX8_checksum_180 : decode cX8_checksum 180 = .ok (.bipush 11, 2) := by decide +kernel
theorem dX8_checksum_182 : decode cX8_checksum 182 = .ok (.iaload, 1) := by decide +kernel
theorem dX8_checksum_183 : decode cX8_checksum 183 = .ok (.imul, 1) := by decide +kernel
theorem dX8_checksum_184 : decode cX8_checksum 184 = .ok (.iadd, 1) := by decide +kernel
theorem dX8_checksum_185 : decode cX8_checksum 185 = .ok (.if_icmp .ge 21, 3) := by decide +kernel
theorem dX8_checksum_188 : decode cX8_checksum 188 = .ok (.lload_n 1, 1) := by decide +kernel
theorem dX8_checksum_189 : decode cX8_checksum 189 = .ok (.aload_n 0, 1) := by decide +kernel
theorem dX8_checksum_190 : decode cX8_checksum 190 = .ok (.getfield 7, 3) := by decide +kernel
theorem dX8_checksum_193 : decode cX8_checksum 193 = .ok (.iload_n 3, 1) := by decide +kernel
theorem dX8_checksum_194 : decode cX8_checksum 194 = .ok (.iaload, 1) := by decide +kernel
theorem dX8_checksum_195 : decode cX8_checksum 195 = .ok (.i2l, 1) := by decide +kernel
theorem dX8_checksum_196 : decode cX8_checksum 196 = .ok (.invokestatic 186, 3) := by decide +kernel
theorem dX8_checksum_199 : decode cX8_checksum 199 = .ok (.lstore_n 1, 1) := by decide +kernel
theorem dX8_checksum_200 : decode cX8_checksum 200 = .ok (.iinc 3 1, 3) := by decide +kernel
theorem dX8_checksum_203 : decode cX8_checksum 203 = .ok (.goto (-31), 3) := by decide +kernel
theorem dX8_checksum_206 : decode cX8_checksum 206 = .ok (.lload_n 1, 1) := by decide +kernel
theorem dX8_checksum_207 : decode cX8_checksum 207 = .ok (.lreturn, 1) := by decide +kernel
theorem dJ6_bitCount_0f7a4_0 : decode cJ6_bitCount_0f7a4 0 = .ok (.iload_n 0, 1) := by decide +kernel
theorem dJ6_bitCount_0f7a4_1 : decode cJ6_bitCount_0f7a4 1 = .ok (.iload_n 0, 1) := by decide +kernel
theorem dJ6_bitCount_0f7a4_2 : decode cJ6_bitCount_0f7a4 2 = .ok (.iconst 1, 1) := by decide +kernel
theorem dJ6_bitCount_0f7a4_3 : decode cJ6_bitCount_0f7a4 3 = .ok (.iushr, 1) := by decide +kernel
theorem dJ6_bitCount_0f7a4_4 : decode cJ6_bitCount_0f7a4 4 = .ok (.ldc_w 265, 3) := by decide +kernel
theorem dJ6_bitCount_0f7a4_7 : decode cJ6_bitCount_0f7a4 7 = .ok (.iand, 1) := by decide +kernel
theorem dJ6_bitCount_0f7a4_8 : decode cJ6_bitCount_0f7a4 8 = .ok (.isub, 1) := by decide +kernel
theorem dJ6_bitCount_0f7a4_9 : decode cJ6_bitCount_0f7a4 9 = .ok (.istore_n 0, 1) := by decide +kernel
theorem dJ6_bitCount_0f7a4_10 : decode cJ6_bitCount_0f7a4 10 = .ok (.iload_n 0, 1) := by decide +kernel
theorem dJ6_bitCount_0f7a4_11 : decode cJ6_bitCount_0f7a4 11 = .ok (.ldc_w 266, 3) := by decide +kernel
theorem dJ6_bitCount_0f7a4_14 : decode cJ6_bitCount_0f7a4 14 = .ok (.iand, 1) := by decide +kernel
theorem dJ6_bitCount_0f7a4_15 : decode cJ6_bitCount_0f7a4 15 = .ok (.iload_n 0, 1) := by decide +kernel
theorem dJ6_bitCount_0f7a4_16 : decode cJ6_bitCount_0f7a4 16 = .ok (.iconst 2, 1) := by decide +kernel
theorem dJ6_bitCount_0f7a4_17 : decode cJ6_bitCount_0f7a4 17 = .ok (.iushr, 1) := by decide +kernel
theorem dJ6_bitCount_0f7a4_18 : decode cJ6_bitCount_0f7a4 18 = .ok (.ldc_w 266, 3) := by decide +kernel
theorem dJ6_bitCount_0f7a4_21 : decode cJ6_bitCount_0f7a4 21 = .ok (.iand, 1) := by decide +kernel
theorem dJ6_bitCount_0f7a4_22 : decode cJ6_bitCount_0f7a4 22 = .ok (.iadd, 1) := by decide +kernel
theorem dJ6_bitCount_0f7a4_23 : decode cJ6_bitCount_0f7a4 23 = .ok (.istore_n 0, 1) := by decide +kernel
theorem dJ6_bitCount_0f7a4_24 : decode cJ6_bitCount_0f7a4 24 = .ok (.iload_n 0, 1) := by decide +kernel
theorem dJ6_bitCount_0f7a4_25 : decode cJ6_bitCount_0f7a4 25 = .ok (.iload_n 0, 1) := by decide +kernel
theorem dJ6_bitCount_0f7a4_26 : decode cJ6_bitCount_0f7a4 26 = .ok (.iconst 4, 1) := by decide +kernel
theorem dJ6_bitCount_0f7a4_27 : decode cJ6_bitCount_0f7a4 27 = .ok (.iushr, 1) := by decide +kernel
theorem dJ6_bitCount_0f7a4_28 : decode cJ6_bitCount_0f7a4 28 = .ok (.iadd, 1) := by decide +kernel
theorem dJ6_bitCount_0f7a4_29 : decode cJ6_bitCount_0f7a4 29 = .ok (.ldc_w 267, 3) := by decide +kernel
theorem dJ6_bitCount_0f7a4_32 : decode cJ6_bitCount_0f7a4 32 = .ok (.iand, 1) := by decide +kernel
theorem dJ6_bitCount_0f7a4_33 : decode cJ6_bitCount_0f7a4 33 = .ok (.istore_n 0, 1) := by decide +kernel
theorem dJ6_bitCount_0f7a4_34 : decode cJ6_bitCount_0f7a4 34 = .ok (.iload_n 0, 1) := by decide +kernel
theorem dJ6_bitCount_0f7a4_35 : decode cJ6_bitCount_0f7a4 35 = .ok (.iload_n 0, 1) := by decide +kernel
theorem dJ6_bitCount_0f7a4_36 : decode cJ6_bitCount_0f7a4 36 = .ok (.bipush 8, 2) := by decide +kernel
theorem dJ6_bitCount_0f7a4_38 : decode cJ6_bitCount_0f7a4 38 = .ok (.iushr, 1) := by decide +kernel
theorem dJ6_bitCount_0f7a4_39 : decode cJ6_bitCount_0f7a4 39 = .ok (.iadd, 1) := by decide +kernel
theorem dJ6_bitCount_0f7a4_40 : decode cJ6_bitCount_0f7a4 40 = .ok (.istore_n 0, 1) := by decide +kernel
theorem dJ6_bitCount_0f7a4_41 : decode cJ6_bitCount_0f7a4 41 = .ok (.iload_n 0, 1) := by decide +kernel
theorem dJ6_bitCount_0f7a4_42 : decode cJ6_bitCount_0f7a4 42 = .ok (.iload_n 0, 1) := by decide +kernel
theorem dJ6_bitCount_0f7a4_43 : decode cJ6_bitCount_0f7a4 43 = .ok (.bipush 16, 2) := by decide +kernel
theorem dJ6_bitCount_0f7a4_45 : decode cJ6_bitCount_0f7a4 45 = .ok (.iushr, 1) := by decide +kernel
theorem dJ6_bitCount_0f7a4_46 : decode cJ6_bitCount_0f7a4 46 = .ok (.iadd, 1) := by decide +kernel
theorem dJ6_bitCount_0f7a4_47 : decode cJ6_bitCount_0f7a4 47 = .ok (.istore_n 0, 1) := by decide +kernel
theorem dJ6_bitCount_0f7a4_48 : decode cJ6_bitCount_0f7a4 48 = .ok (.iload_n 0, 1) := by decide +kernel
theorem dJ6_bitCount_0f7a4_49 : decode cJ6_bitCount_0f7a4 49 = .ok (.bipush 63, 2) := by decide +kernel
theorem dJ6_bitCount_0f7a4_51 : decode cJ6_bitCount_0f7a4 51 = .ok (.iand, 1) := by decide +kernel
theorem dJ6_bitCount_0f7a4_52 : decode cJ6_bitCount_0f7a4 52 = .ok (.ireturn, 1) := by decide +kernel
theorem dJ9_max_f86c9_0 : decode cJ9_max_f86c9 0 = .ok (.lload_n 0, 1) := by decide +kernel
theorem dJ9_max_f86c9_1 : decode cJ9_max_f86c9 1 = .ok (.lload_n 2, 1) := by decide +kernel
theorem dJ9_max_f86c9_2 : decode cJ9_max_f86c9 2 = .ok (.lcmp, 1) := by decide +kernel
theorem dJ9_max_f86c9_3 : decode cJ9_max_f86c9 3 = .ok (.ifCond .lt 7, 3) := by decide +kernel
theorem dJ9_max_f86c9_6 : decode cJ9_max_f86c9 6 = .ok (.lload_n 0, 1) := by decide +kernel
theorem dJ9_max_f86c9_7 : decode cJ9_max_f86c9 7 = .ok (.goto 4, 3) := by decide +kernel
theorem dJ9_max_f86c9_10 : decode cJ9_max_f86c9 10 = .ok (.lload_n 2, 1) := by decide +kernel
theorem dJ9_max_f86c9_11 : decode cJ9_max_f86c9 11 = .ok (.lreturn, 1) := by decide +kernel
theorem dJ9_min_7cf53_0 : decode cJ9_min_7cf53 0 = .ok (.iload_n 0, 1) := by decide +kernel
theorem dJ9_min_7cf53_1 : decode cJ9_min_7cf53 1 = .ok (.iload_n 1, 1) := by decide +kernel
theorem dJ9_min_7cf53_2 : decode cJ9_min_7cf53 2 = .ok (.if_icmp .gt 7, 3) := by decide +kernel
theorem dJ9_min_7cf53_5 : decode cJ9_min_7cf53 5 = .ok (.iload_n 0, 1) := by decide +kernel
theorem dJ9_min_7cf53_6 : decode cJ9_min_7cf53 6 = .ok (.goto 4, 3) := by decide +kernel
theorem dJ9_min_7cf53_9 : decode cJ9_min_7cf53 9 = .ok (.iload_n 1, 1) := by decide +kernel
theorem dJ9_min_7cf53_10 : decode cJ9_min_7cf53 10 = .ok (.ireturn, 1) := by decide +kernel
