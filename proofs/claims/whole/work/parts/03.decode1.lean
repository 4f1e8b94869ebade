theorem dX0_init_0 : decode cX0_init 0 = .ok (.aload_n 0, 1) := by decide +kernel
theorem dX0_init_1 : decode cX0_init 1 = .ok (.invokespecial 3, 3) := by decide +kernel
theorem dX0_init_4 : decode cX0_init 4 = .ok (.aload_n 0, 1) := by decide +kernel
theorem dX0_init_5 : decode cX0_init 5 = .ok (.iload_n 1, 1) := by decide +kernel
theorem dX0_init_6 : decode cX0_init 6 = .ok (.putfield 9, 3) := by decide +kernel
theorem dX0_init_9 : decode cX0_init 9 = .ok (.aload_n 0, 1) := by decide +kernel
theorem dX0_init_10 : decode cX0_init 10 = .ok (.new 15, 3) := by decide +kernel
theorem dX0_init_13 : decode cX0_init 13 = .ok (.dup, 1) := by decide +kernel
theorem dX0_init_14 : decode cX0_init 14 = .ok (.invokespecial 17, 3) := by decide +kernel
theorem dX0_init_17 : decode cX0_init 17 = .ok (.putfield 18, 3) := by decide +kernel
theorem dX0_init_20 : decode cX0_init 20 = .ok (.aload_n 0, 1) := by decide +kernel
theorem dX0_init_21 : decode cX0_init 21 = .ok (.new 22, 3) := by decide +kernel
theorem dX0_init_24 : decode cX0_init 24 = .ok (.dup, 1) := by decide +kernel
theorem dX0_init_25 : decode cX0_init 25 = .ok (.invokespecial 24, 3) := by decide +kernel
theorem dX0_init_28 : decode cX0_init 28 = .ok (.putfield 25, 3) := by decide +kernel
theorem dX0_init_31 : decode cX0_init 31 = .ok (.aload_n 0, 1) := by decide +kernel
theorem dX0_init_32 : decode cX0_init 32 = .ok (.bipush 6, 2) := by decide +kernel
theorem dX0_init_34 : decode cX0_init 34 = .ok (.newarray .int, 2) := by decide +kernel
theorem dX0_init_36 : decode cX0_init 36 = .ok (.putfield 29, 3) := by decide +kernel
theorem dX0_init_39 : decode cX0_init 39 = .ok (.return_, 1) := by decide +kernel
theorem dX0_makeNew_0 : decode cX0_makeNew 0 = .ok (.aload_n 0, 1) := by decide +kernel
theorem dX0_makeNew_1 : decode cX0_makeNew 1 = .ok (.iload_n 1, 1) := by decide +kernel
theorem dX0_makeNew_2 : decode cX0_makeNew 2 = .ok (.putfield 33, 3) := by decide +kernel
theorem dX0_makeNew_5 : decode cX0_makeNew 5 = .ok (.aload_n 0, 1) := by decide +kernel
theorem dX0_makeNew_6 : decode cX0_makeNew 6 = .ok (.iconst 0, 1) := by decide +kernel
theorem dX0_makeNew_7 : decode cX0_makeNew 7 = .ok (.putfield 37, 3) := by decide +kernel
theorem dX0_makeNew_10 : decode cX0_makeNew 10 = .ok (.aload_n 0, 1) := by decide +kernel
theorem dX0_makeNew_11 : decode cX0_makeNew 11 = .ok (.iconst 0, 1) := by decide +kernel
theorem dX0_makeNew_12 : decode cX0_makeNew 12 = .ok (.putfield 40, 3) := by decide +kernel
theorem dX0_makeNew_15 : decode cX0_makeNew 15 = .ok (.aload_n 0, 1) := by decide +kernel
theorem dX0_makeNew_16 : decode cX0_makeNew 16 = .ok (.iconst 0, 1) := by decide +kernel
theorem dX0_makeNew_17 : decode cX0_makeNew 17 = .ok (.putfield 43, 3) := by decide +kernel
theorem dX0_makeNew_20 : decode cX0_makeNew 20 = .ok (.aload_n 0, 1) := by decide +kernel
theorem dX0_makeNew_21 : decode cX0_makeNew 21 = .ok (.getfield 18, 3) := by decide +kernel
theorem dX0_makeNew_24 : decode cX0_makeNew 24 = .ok (.iconst 0, 1) := by decide +kernel
theorem dX0_makeNew_25 : decode cX0_makeNew 25 = .ok (.putfield 46, 3) := by decide +kernel
theorem dX0_makeNew_28 : decode cX0_makeNew 28 = .ok (.aload_n 0, 1) := by decide +kernel
theorem dX0_makeNew_29 : decode cX0_makeNew 29 = .ok (.getfield 25, 3) := by decide +kernel
theorem dX0_makeNew_32 : decode cX0_makeNew 32 = .ok (.invokevirtual 49, 3) := by decide +kernel
theorem dX0_makeNew_35 : decode cX0_makeNew 35 = .ok (.return_, 1) := by decide +kernel
theorem dX0_copyFrom_0 : decode cX0_copyFrom 0 = .ok (.aload_n 0, 1) := by decide +kernel
theorem dX0_copyFrom_1 : decode cX0_copyFrom 1 = .ok (.aload_n 1, 1) := by decide +kernel
theorem dX0_copyFrom_2 : decode cX0_copyFrom 2 = .ok (.getfield 33, 3) := by decide +kernel
theorem dX0_copyFrom_5 : decode cX0_copyFrom 5 = .ok (.putfield 33, 3) := by decide +kernel
theorem dX0_copyFrom_8 : decode cX0_copyFrom 8 = .ok (.aload_n 0, 1) := by decide +kernel
theorem dX0_copyFrom_9 : decode cX0_copyFrom 9 = .ok (.aload_n 1, 1) := by decide +kernel
theorem dX0_copyFrom_10 : decode cX0_copyFrom 10 = .ok (.getfield 37, 3) := by decide +kernel
theorem dX0_copyFrom_13 : decode cX0_copyFrom 13 = .ok (.putfield 37, 3) := by decide +kernel
theorem dX0_copyFrom_16 : decode cX0_copyFrom 16 = .ok (.aload_n 0, 1) := by decide +kernel
theorem dX0_copyFrom_17 : decode cX0_copyFrom 17 = .ok (.aload_n 1, 1) := by decide +kernel
theorem dX0_copyFrom_18 : decode cX0_copyFrom 18 = .ok (.getfield 40, 3) := by decide +kernel
theorem dX0_copyFrom_21 : decode cX0_copyFrom 21 = .ok (.putfield 40, 3) := by decide +kernel
theorem dX0_copyFrom_24 : decode cX0_copyFrom 24 = .ok (.aload_n 0, 1) := by decide +kernel
theorem dX0_copyFrom_25 : decode cX0_copyFrom 25 = .ok (.aload_n 1, 1) := by decide +kernel
theorem dX0_copyFrom_26 : decode cX0_copyFrom 26 = .ok (.getfield 43, 3) := by decide +kernel
theorem dX0_copyFrom_29 : decode cX0_copyFrom 29 = .ok (.putfield 43, 3) := by decide +kernel
theorem dX0_copyFrom_32 : decode cX0_copyFrom 32 = .ok (.aload_n 0, 1) := by decide +kernel
theorem dX0_copyFrom_33 : decode cX0_copyFrom 33 = .ok (.getfield 18, 3) := by decide +kernel
theorem dX0_copyFrom_36 : decode cX0_copyFrom 36 = .ok (.aload_n 1, 1) := by decide +kernel
theorem dX0_copyFrom_37 : decode cX0_copyFrom 37 = .ok (.getfield 18, 3) := by decide +kernel
theorem dX0_copyFrom_40 : decode cX0_copyFrom 40 = .ok (.invokevirtual 52, 3) := by decide +kernel
theorem dX0_copyFrom_43 : decode cX0_copyFrom 43 = .ok (.aload_n 0, 1) := by decide +kernel
theorem dX0_copyFrom_44 : decode cX0_copyFrom 44 = .ok (.getfield 25, 3) := by decide +kernel
theorem dX0_copyFrom_47 : decode cX0_copyFrom 47 = .ok (.aload_n 1, 1) := by decide +kernel
theorem dX0_copyFrom_48 : decode cX0_copyFrom 48 = .ok (.getfield 25, 3) := by decide +kernel
theorem dX0_copyFrom_51 : decode cX0_copyFrom 51 = .ok (.invokevirtual 56, 3) := by decide +kernel
theorem dX0_copyFrom_54 : decode cX0_copyFrom 54 = .ok (.aload_n 1, 1) := by decide +kernel
theorem dX0_copyFrom_55 : decode cX0_copyFrom 55 = .ok (.getfield 29, 3) := by decide +kernel
theorem dX0_copyFrom_58 : decode cX0_copyFrom 58 = .ok (.iconst 0, 1) := by decide +kernel
theorem dX0_copyFrom_59 : decode cX0_copyFrom 59 = .ok (.aload_n 0, 1) := by decide +kernel
theorem dX0_copyFrom_60 : decode cX0_copyFrom 60 = .ok (.getfield 29, 3) := by decide +kernel
theorem dX0_copyFrom_63 : decode cX0_copyFrom 63 = .ok (.iconst 0, 1) := by decide +kernel
theorem dX0_copyFrom_64 : decode cX0_copyFrom 64 = .ok (.bipush 6, 2) := by decide +kernel
theorem dX0_copyFrom_66 : decode cX0_copyFrom 66 = .ok (.invokestatic 59, 3) := by decide +kernel
theorem dX0_copyFrom_69 : decode cX0_copyFrom 69 = .ok (.return_, 1) := by decide +kernel
theorem dX0_isUnderWay_0 : decode cX0_isUnderWay 0 = .ok (.aload_n 0, 1) := by decide +kernel
theorem dX0_isUnderWay_1 : decode cX0_isUnderWay 1 = .ok (.getfield 40, 3) := by decide +kernel
theorem dX0_isUnderWay_4 : decode cX0_isUnderWay 4 = .ok (.iconst 1, 1) := by decide +kernel
theorem dX0_isUnderWay_5 : decode cX0_isUnderWay 5 = .ok (.if_icmp .eq 19, 3) := by decide +kernel
theorem dX0_isUnderWay_8 : decode cX0_isUnderWay 8 = .ok (.aload_n 0, 1) := by decide +kernel
theorem dX0_isUnderWay_9 : decode cX0_isUnderWay 9 = .ok (.getfield 40, 3) := by decide +kernel
theorem dX0_isUnderWay_12 : decode cX0_isUnderWay 12 = .ok (.iconst 2, 1) := by decide +kernel
theorem dX0_isUnderWay_13 : decode cX0_isUnderWay 13 = .ok (.if_icmp .eq 11, 3) := by decide +kernel
theorem dX0_isUnderWay_16 : decode cX0_isUnderWay 16 = .ok (.aload_n 0, 1) := by decide +kernel
theorem dX0_isUnderWay_17 : decode cX0_isUnderWay 17 = .ok (.getfield 40, 3) := by decide +kernel
theorem dX0_isUnderWay_20 : decode cX0_isUnderWay 20 = .ok (.iconst 4, 1) := by decide +kernel
theorem dX0_isUnderWay_21 : decode cX0_isUnderWay 21 = .ok (.if_icmp .ne 7, 3) := by decide +kernel
theorem dX0_isUnderWay_24 : decode cX0_isUnderWay 24 = .ok (.iconst 1, 1) := by decide +kernel
theorem dX0_isUnderWay_25 : decode cX0_isUnderWay 25 = .ok (.goto 4, 3) := by decide +kernel
theorem dX0_isUnderWay_28 : decode cX0_isUnderWay 28 = .ok (.iconst 0, 1) := by decide +kernel
theorem dX0_isUnderWay_29 : decode cX0_isUnderWay 29 = .ok (.ireturn, 1) := by decide +kernel
theorem dX0_isWatched_0 : decode cX0_isWatched 0 = .ok (.aload_n 0, 1) := by decide +kernel
theorem dX0_isWatched_1 : decode cX0_isWatched 1 = .ok (.getfield 40, 3) := by decide +kernel
theorem dX0_isWatched_4 : decode cX0_isWatched 4 = .ok (.iconst 1, 1) := by decide +kernel
theorem dX0_isWatched_5 : decode cX0_isWatched 5 = .ok (.if_icmp .eq 11, 3) := by decide +kernel
theorem dX0_isWatched_8 : decode cX0_isWatched 8 = .ok (.aload_n 0, 1) := by decide +kernel
theorem dX0_isWatched_9 : decode cX0_isWatched 9 = .ok (.getfield 40, 3) := by decide +kernel
theorem dX0_isWatched_12 : decode cX0_isWatched 12 = .ok (.iconst 2, 1) := by decide +kernel
theorem dX0_isWatched_13 : decode cX0_isWatched 13 = .ok (.if_icmp .ne 7, 3) := by decide +kernel
theorem dX0_isWatched_16 : decode cX0_isWatched 16 = .ok (.iconst 1, 1) := by decide +kernel
theorem dX0_isWatched_17 : decode cX0_isWatched 17 = .ok (.goto 4, 3) := by decide +kernel
theorem dX0_isWatched_20 : decode cX0_isWatched 20 = .ok (.iconst 0, 1) := by decide +kernel
theorem dX0_isWatched_21 : decode cX0_isWatched 21 = .ok (.ireturn, 1) := by decide +kernel
theorem dX0_hasFurtherStage_0 : decode cX0_hasFurtherStage 0 = .ok (.aload_n 0, 1) := by decide +kernel
theorem dX0_hasFurtherStage_1 : decode cX0_hasFurtherStage 1 = .ok (.getfield 43, 3) := by decide +kernel
theorem dX0_hasFurtherStage_4 : decode cX0_hasFurtherStage 4 = .ok (.aload_n 0, 1) := by decide +kernel
theorem dX0_hasFurtherStage_5 : decode cX0_hasFurtherStage 5 = .ok (.getfield 18, 3) := by decide +kernel
theorem dX0_hasFurtherStage_8 : decode cX0_hasFurtherStage 8 = .ok (.getfield 46, 3) := by decide +kernel
theorem dX0_hasFurtherStage_11 : decode cX0_hasFurtherStage 11 = .ok (.if_icmp .ge 7, 3) := by decide +kernel
theorem dX0_hasFurtherStage_14 : decode cX0_hasFurtherStage 14 = .ok (.iconst 1, 1) := by decide +kernel
theorem dX0_hasFurtherStage_15 : decode cX0_hasFurtherStage 15 = .ok (.goto 4, 3) := by decide +kernel
theorem dX0_hasFurtherStage_18 : decode cX0_hasFurtherStage 18 = .ok (.iconst 0, 1) := by decide +kernel
theorem dX0_hasFurtherStage_19 : decode cX0_hasFurtherStage 19 = .ok (.ireturn, 1) := by decide +kernel
theorem dX0_isAt_0 : decode cX0_isAt 0 = .ok (.aload_n 0, 1) := by decide +kernel
theorem dX0_isAt_1 : decode cX0_isAt 1 = .ok (.getfield 18, 3) := by decide +kernel
theorem dX0_isAt_4 : decode cX0_isAt 4 = .ok (.aload_n 0, 1) := by decide +kernel
theorem dX0_isAt_5 : decode cX0_isAt 5 = .ok (.getfield 43, 3) := by decide +kernel
theorem dX0_isAt_8 : decode cX0_isAt 8 = .ok (.invokevirtual 65, 3) := by decide +kernel
theorem dX0_isAt_11 : decode cX0_isAt 11 = .ok (.iload_n 1, 1) := by decide +kernel
theorem dX0_isAt_12 : decode cX0_isAt 12 = .ok (.ishr, 1) := by decide +kernel
theorem dX0_isAt_13 : decode cX0_isAt 13 = .ok (.iconst 1, 1) := by decide +kernel
theorem dX0_isAt_14 : decode cX0_isAt 14 = .ok (.iand, 1) := by decide +kernel
theorem dX0_isAt_15 : decode cX0_isAt 15 = .ok (.ifCond .eq 7, 3) := by decide +kernel
theorem dX0_isAt_18 : decode cX0_isAt 18 = .ok (.iconst 1, 1) := by decide +kernel
theorem dX0_isAt_19 : decode cX0_isAt 19 = .ok (.goto 4, 3) := by decide +kernel
theorem dX0_isAt_22 : decode cX0_isAt 22 = .ok (.iconst 0, 1) := by decide +kernel
theorem dX0_isAt_23 : decode cX0_isAt 23 = .ok (.ireturn, 1) := by decide +kernel
theorem dX0_takesProbes_0 : decode cX0_takesProbes 0 = .ok (.aload_n 0, 1) := by decide +kernel
theorem dX0_takesProbes_1 : decode cX0_takesProbes 1 = .ok (.invokevirtual 69, 3) := by decide +kernel
theorem dX0_takesProbes_4 : decode cX0_takesProbes 4 = .ok (.ifCond .eq 10, 3) := by decide +kernel
theorem dX0_takesProbes_7 : decode cX0_takesProbes 7 = .ok (.aload_n 0, 1) := by decide +kernel
theorem dX0_takesProbes_8 : decode cX0_takesProbes 8 = .ok (.getfield 43, 3) := by decide +kernel
theorem dX0_takesProbes_11 : decode cX0_takesProbes 11 = .ok (.ifCond .ne 5, 3) := by decide +kernel
theorem dX0_takesProbes_14 : decode cX0_takesProbes 14 = .ok (.iconst 0, 1) := by decide +kernel
theorem dX0_takesProbes_15 : decode cX0_takesProbes 15 = .ok (.ireturn, 1) := by decide +kernel
theorem dX0_takesProbes_16 : decode cX0_takesProbes 16 = .ok (.aload_n 0, 1) := by decide +kernel
theorem dX0_takesProbes_17 : decode cX0_takesProbes 17 = .ok (.iload_n 1, 1) := by decide +kernel
theorem dX0_takesProbes_18 : decode cX0_takesProbes 18 = .ok (.invokevirtual 73, 3) := by decide +kernel
theorem dX0_takesProbes_21 : decode cX0_takesProbes 21 = .ok (.ifCond .eq 15, 3) := by decide +kernel
theorem dX0_takesProbes_24 : decode cX0_takesProbes 24 = .ok (.aload_n 0, 1) := by decide +kernel
theorem dX0_takesProbes_25 : decode cX0_takesProbes 25 = .ok (.getfield 25, 3) := by decide +kernel
theorem dX0_takesProbes_28 : decode cX0_takesProbes 28 = .ok (.iload_n 2, 1) := by decide +kernel
theorem dX0_takesProbes_29 : decode cX0_takesProbes 29 = .ok (.iload_n 3, 1) := by decide +kernel
theorem dX0_takesProbes_30 : decode cX0_takesProbes 30 = .ok (.invokevirtual 77, 3) := by decide +kernel
theorem dX0_takesProbes_33 : decode cX0_takesProbes 33 = .ok (.goto 12, 3) := by decide +kernel
theorem dX0_takesProbes_36 : decode cX0_takesProbes 36 = .ok (.aload_n 0, 1) := by decide +kernel
theorem dX0_takesProbes_37 : decode cX0_takesProbes 37 = .ok (.getfield 25, 3) := by decide +kernel
theorem dX0_takesProbes_40 : decode cX0_takesProbes 40 = .ok (.iload_n 2, 1) := by decide +kernel
theorem dX0_takesProbes_41 : decode cX0_takesProbes 41 = .ok (.iload_n 3, 1) := by decide +kernel
theorem dX0_takesProbes_42 : decode cX0_takesProbes 42 = .ok (.invokevirtual 81, 3) := by decide +kernel
theorem dX0_takesProbes_45 : decode cX0_takesProbes 45 = .ok (.ireturn, 1) := by decide +kernel
theorem dX0_hoursSinceLatest_0 : decode cX0_hoursSinceLatest 0 = .ok (.aload_n 0, 1) := by decide +kernel
theorem dX0_hoursSinceLatest_1 : decode cX0_hoursSinceLatest 1 = .ok (.getfield 43, 3) := by decide +kernel
theorem dX0_hoursSinceLatest_4 : decode cX0_hoursSinceLatest 4 = .ok (.iconst 1, 1) := by decide +kernel
theorem dX0_hoursSinceLatest_5 : decode cX0_hoursSinceLatest 5 = .ok (.isub, 1) := by decide +kernel
theorem dX0_hoursSinceLatest_6 : decode cX0_hoursSinceLatest 6 = .ok (.istore_n 2, 1) := by decide +kernel
theorem dX0_hoursSinceLatest_7 : decode cX0_hoursSinceLatest 7 = .ok (.iload_n 2, 1) := by decide +kernel
theorem dX0_hoursSinceLatest_8 : decode cX0_hoursSinceLatest 8 = .ok (.ifCond .lt 20, 3) := by decide +kernel
theorem dX0_hoursSinceLatest_11 : decode cX0_hoursSinceLatest 11 = .ok (.iload_n 2, 1) := by decide +kernel
theorem dX0_hoursSinceLatest_12 : decode cX0_hoursSinceLatest 12 = .ok (.bipush 6, 2) := by decide +kernel
theorem dX0_hoursSinceLatest_14 : decode cX0_hoursSinceLatest 14 = .ok (.if_icmp .ge 14, 3) := by decide +kernel
theorem dX0_hoursSinceLatest_17 : decode cX0_hoursSinceLatest 17 = .ok (.iload_n 1, 1) := by decide +kernel
theorem dX0_hoursSinceLatest_18 : decode cX0_hoursSinceLatest 18 = .ok (.aload_n 0, 1) := by decide +kernel
theorem dX0_hoursSinceLatest_19 : decode cX0_hoursSinceLatest 19 = .ok (.getfield 29, 3) := by decide +kernel
theorem dX0_hoursSinceLatest_22 : decode cX0_hoursSinceLatest 22 = .ok (.iload_n 2, 1) := by decide +kernel
theorem dX0_hoursSinceLatest_23 : decode cX0_hoursSinceLatest 23 = .ok (.iaload, 1) := by decide +kernel
theorem dX0_hoursSinceLatest_24 : decode cX0_hoursSinceLatest 24 = .ok (.isub, 1) := by decide +kernel
theorem dX0_hoursSinceLatest_25 : decode cX0_hoursSinceLatest 25 = .ok (.goto 4, 3) := by decide +kernel
theorem dX0_hoursSinceLatest_28 : decode cX0_hoursSinceLatest 28 = .ok (.iconst 0, 1) := by decide +kernel
theorem dX0_hoursSinceLatest_29 : decode cX0_hoursSinceLatest 29 = .ok (.ireturn, 1) := by decide +kernel
theorem dX0_waitsAt_0 : decode cX0_waitsAt 0 = .ok (.aload_n 0, 1) := by decide +kernel
theorem dX0_waitsAt_1 : decode cX0_waitsAt 1 = .ok (.getfield 43, 3) := by decide +kernel
theorem dX0_waitsAt_4 : decode cX0_waitsAt 4 = .ok (.ifCond .le 29, 3) := by decide +kernel
theorem dX0_waitsAt_7 : decode cX0_waitsAt 7 = .ok (.aload_n 0, 1) := by decide +kernel
theorem dX0_waitsAt_8 : decode cX0_waitsAt 8 = .ok (.iload_n 1, 1) := by decide +kernel
theorem dX0_waitsAt_9 : decode cX0_waitsAt 9 = .ok (.invokevirtual 84, 3) := by decide +kernel
theorem dX0_waitsAt_12 : decode cX0_waitsAt 12 = .ok (.aload_n 0, 1) := by decide +kernel
theorem dX0_waitsAt_13 : decode cX0_waitsAt 13 = .ok (.getfield 18, 3) := by decide +kernel
theorem dX0_waitsAt_16 : decode cX0_waitsAt 16 = .ok (.aload_n 0, 1) := by decide +kernel
theorem dX0_waitsAt_17 : decode cX0_waitsAt 17 = .ok (.getfield 43, 3) := by decide +kernel
theorem dX0_waitsAt_20 : decode cX0_waitsAt 20 = .ok (.iconst 1, 1) := by decide +kernel
theorem dX0_waitsAt_21 : decode cX0_waitsAt 21 = .ok (.isub, 1) := by decide +kernel
theorem dX0_waitsAt_22 : decode cX0_waitsAt 22 = .ok (.iconst 1, 1) := by decide +kernel
theorem dX0_waitsAt_23 : decode cX0_waitsAt 23 = .ok (.invokevirtual 87, 3) := by decide +kernel
theorem dX0_waitsAt_26 : decode cX0_waitsAt 26 = .ok (.if_icmp .ge 7, 3) := by decide +kernel
theorem dX0_waitsAt_29 : decode cX0_waitsAt 29 = .ok (.iconst 1, 1) := by decide +kernel
theorem dX0_waitsAt_30 : decode cX0_waitsAt 30 = .ok (.goto 4, 3) := by decide +kernel
theorem dX0_waitsAt_33 : decode cX0_waitsAt 33 = .ok (.iconst 0, 1) := by decide +kernel
theorem dX0_waitsAt_34 : decode cX0_waitsAt 34 = .ok (.ireturn, 1) := by decide +kernel
theorem dX0_lacksSamples_0 : decode cX0_lacksSamples 0 = .ok (.aload_n 0, 1) := by decide +kernel
theorem dX0_lacksSamples_1 : decode cX0_lacksSamples 1 = .ok (.getfield 43, 3) := by decide +kernel
theorem dX0_lacksSamples_4 : decode cX0_lacksSamples 4 = .ok (.ifCond .ne 5, 3) := by decide +kernel
theorem dX0_lacksSamples_7 : decode cX0_lacksSamples 7 = .ok (.iconst 0, 1) := by decide +kernel
theorem dX0_lacksSamples_8 : decode cX0_lacksSamples 8 = .ok (.ireturn, 1) := by decide +kernel
theorem dX0_lacksSamples_9 : decode cX0_lacksSamples 9 = .ok (.aload_n 0, 1) := by decide +kernel
theorem dX0_lacksSamples_10 : decode cX0_lacksSamples 10 = .ok (.getfield 18, 3) := by decide +kernel
theorem dX0_lacksSamples_13 : decode cX0_lacksSamples 13 = .ok (.aload_n 0, 1) := by decide +kernel
theorem dX0_lacksSamples_14 : decode cX0_lacksSamples 14 = .ok (.getfield 43, 3) := by decide +kernel
theorem dX0_lacksSamples_17 : decode cX0_lacksSamples 17 = .ok (.iconst 1, 1) := by decide +kernel
theorem dX0_lacksSamples_18 : decode cX0_lacksSamples 18 = .ok (.isub, 1) := by decide +kernel
theorem dX0_lacksSamples_19 : decode cX0_lacksSamples 19 = .ok (.iconst 2, 1) := by decide +kernel
theorem dX0_lacksSamples_20 : decode cX0_lacksSamples 20 = .ok (.invokevirtual 87, 3) := by decide +kernel
theorem dX0_lacksSamples_23 : decode cX0_lacksSamples 23 = .ok (.istore_n 2, 1) := by decide +kernel
theorem dX0_lacksSamples_24 : decode cX0_lacksSamples 24 = .ok (.aload_n 0, 1) := by decide +kernel
theorem dX0_lacksSamples_25 : decode cX0_lacksSamples 25 = .ok (.getfield 18, 3) := by decide +kernel
theorem dX0_lacksSamples_28 : decode cX0_lacksSamples 28 = .ok (.aload_n 0, 1) := by decide +kernel
theorem dX0_lacksSamples_29 : decode cX0_lacksSamples 29 = .ok (.getfield 43, 3) := by decide +kernel
theorem dX0_lacksSamples_32 : decode cX0_lacksSamples 32 = .ok (.invokevirtual 65, 3) := by decide +kernel
theorem dX0_lacksSamples_35 : decode cX0_lacksSamples 35 = .ok (.iload_n 1, 1) := by decide +kernel
theorem dX0_lacksSamples_36 : decode cX0_lacksSamples 36 = .ok (.if_icmp .eq 7, 3) := by decide +kernel
theorem dX0_lacksSamples_39 : decode cX0_lacksSamples 39 = .ok (.iconst 1, 1) := by decide +kernel
theorem dX0_lacksSamples_40 : decode cX0_lacksSamples 40 = .ok (.goto 4, 3) := by decide +kernel
theorem dX0_lacksSamples_43 : decode cX0_lacksSamples 43 = .ok (.iconst 0, 1) := by decide +kernel
theorem dX0_lacksSamples_44 : decode cX0_lacksSamples 44 = .ok (.istore_n 3, 1) := by decide +kernel
theorem dX0_lacksSamples_45 : decode cX0_lacksSamples 45 = .ok (.aload_n 0, 1) := by decide +kernel
theorem dX0_lacksSamples_46 : decode cX0_lacksSamples 46 = .ok (.getfield 25, 3) := by decide +kernel
theorem dX0_lacksSamples_49 : decode cX0_lacksSamples 49 = .ok (.invokevirtual 90, 3) := by decide +kernel
theorem dX0_lacksSamples_52 : decode cX0_lacksSamples 52 = .ok (.iload_n 2, 1) := by decide +kernel
theorem dX0_lacksSamples_53 : decode cX0_lacksSamples 53 = .ok (.if_icmp .lt 18, 3) := by decide +kernel
theorem dX0_lacksSamples_56 : decode cX0_lacksSamples 56 = .ok (.iload_n 3, 1) := by decide +kernel
theorem dX0_lacksSamples_57 : decode cX0_lacksSamples 57 = .ok (.ifCond .eq 18, 3) := by decide +kernel
theorem dX0_lacksSamples_60 : decode cX0_lacksSamples 60 = .ok (.aload_n 0, 1) := by decide +kernel
theorem dX0_lacksSamples_61 : decode cX0_lacksSamples 61 = .ok (.getfield 25, 3) := by decide +kernel
theorem dX0_lacksSamples_64 : decode cX0_lacksSamples 64 = .ok (.invokevirtual 94, 3) := by decide +kernel
theorem dX0_lacksSamples_67 : decode cX0_lacksSamples 67 = .ok (.iload_n 2, 1) := by decide +kernel
theorem dX0_lacksSamples_68 : decode cX0_lacksSamples 68 = .ok (.if_icmp .ge 7, 3) := by decide +kernel
theorem dX0_lacksSamples_71 : decode cX0_lacksSamples 71 = .ok (.iconst 1, 1) := by decide +kernel
theorem dX0_lacksSamples_72 : decode cX0_lacksSamples 72 = .ok (.goto 4, 3) := by decide +kernel
theorem dX0_lacksSamples_75 : decode cX0_lacksSamples 75 = .ok (.iconst 0, 1) := by decide +kernel
theorem dX0_lacksSamples_76 : decode cX0_lacksSamples 76 = .ok (.ireturn, 1) := by decide +kernel
theorem dX0_beginStage_0 : decode cX0_beginStage 0 = .ok (.aload_n 0, 1) := by decide +kernel
theorem dX0_beginStage_1 : decode cX0_beginStage 1 = .ok (.getfield 43, 3) := by decide +kernel
theorem dX0_beginStage_4 : decode cX0_beginStage 4 = .ok (.ifCond .lt 39, 3) := by decide +kernel
theorem dX0_beginStage_7 : decode cX0_beginStage 7 = .ok (.aload_n 0, 1) := by decide +kernel
theorem dX0_beginStage_8 : decode cX0_beginStage 8 = .ok (.getfield 43, 3) := by decide +kernel
theorem dX0_beginStage_11 : decode cX0_beginStage 11 = .ok (.bipush 6, 2) := by decide +kernel
theorem dX0_beginStage_13 : decode cX0_beginStage 13 = .ok (.if_icmp .ge 30, 3) := by decide +kernel
theorem dX0_beginStage_16 : decode cX0_beginStage 16 = .ok (.aload_n 0, 1) := by decide +kernel
theorem dX0_beginStage_17 : decode cX0_beginStage 17 = .ok (.getfield 29, 3) := by decide +kernel
theorem dX0_beginStage_20 : decode cX0_beginStage 20 = .ok (.aload_n 0, 1) := by decide +kernel
theorem dX0_beginStage_21 : decode cX0_beginStage 21 = .ok (.getfield 43, 3) := by decide +kernel
theorem dX0_beginStage_24 : decode cX0_beginStage 24 = .ok (.iload_n 1, 1) := by decide +kernel
theorem dX0_beginStage_25 : decode cX0_beginStage 25 = .ok (.iastore, 1) := by decide +kernel
theorem dX0_beginStage_26 : decode cX0_beginStage 26 = .ok (.aload_n 0, 1) := by decide +kernel
theorem dX0_beginStage_27 : decode cX0_beginStage 27 = .ok (.dup, 1) := by decide +kernel
theorem dX0_beginStage_28 : decode cX0_beginStage 28 = .ok (.getfield 43, 3) := by decide +kernel
theorem dX0_beginStage_31 : decode cX0_beginStage 31 = .ok (.iconst 1, 1) := by decide +kernel
theorem dX0_beginStage_32 : decode cX0_beginStage 32 = .ok (.iadd, 1) := by decide +kernel
theorem dX0_beginStage_33 : decode cX0_beginStage 33 = .ok (.putfield 43, 3) := by decide +kernel
theorem dX0_beginStage_36 : decode cX0_beginStage 36 = .ok (.aload_n 0, 1) := by decide +kernel
theorem dX0_beginStage_37 : decode cX0_beginStage 37 = .ok (.getfield 25, 3) := by decide +kernel
theorem dX0_beginStage_40 : decode cX0_beginStage 40 = .ok (.invokevirtual 49, 3) := by decide +kernel
theorem dX0_beginStage_43 : decode cX0_beginStage 43 = .ok (.return_, 1) := by decide +kernel
theorem dX1_init_0 : decode cX1_init 0 = .ok (.aload_n 0, 1) := by decide +kernel
theorem dX1_init_1 : decode cX1_init 1 = .ok (.invokespecial 3, 3) := by decide +kernel
theorem dX1_init_4 : decode cX1_init 4 = .ok (.aload_n 0, 1) := by decide +kernel
theorem dX1_init_5 : decode cX1_init 5 = .ok (.iload_n 1, 1) := by decide +kernel
theorem dX1_init_6 : decode cX1_init 6 = .ok (.putfield 9, 3) := by decide +kernel
theorem dX1_init_9 : decode cX1_init 9 = .ok (.aload_n 0, 1) := by decide +kernel
theorem dX1_init_10 : decode cX1_init 10 = .ok (.iconst 5, 1) := by decide +kernel
theorem dX1_init_11 : decode cX1_init 11 = .ok (.anewarray 15, 3) := by decide +kernel
theorem dX1_init_14 : decode cX1_init 14 = .ok (.putfield 17, 3) := by decide +kernel
theorem dX1_init_17 : decode cX1_init 17 = .ok (.iconst 0, 1) := by decide +kernel
theorem dX1_init_18 : decode cX1_init 18 = .ok (.istore_n 2, 1) := by decide +kernel
theorem dX1_init_19 : decode cX1_init 19 = .ok (.iload_n 2, 1) := by decide +kernel
theorem dX1_init_20 : decode cX1_init 20 = .ok (.iconst 5, 1) := by decide +kernel
theorem dX1_init_21 : decode cX1_init 21 = .ok (.if_icmp .ge 23, 3) := by decide +kernel
theorem dX1_init_24 : decode cX1_init 24 = .ok (.aload_n 0, 1) := by decide +kernel
theorem dX1_init_25 : decode cX1_init 25 = .ok (.getfield 17, 3) := by decide +kernel
theorem dX1_init_28 : decode cX1_init 28 = .ok (.iload_n 2, 1) := by decide +kernel
theorem dX1_init_29 : decode cX1_init 29 = .ok (.new 15, 3) := by decide +kernel
theorem dX1_init_32 : decode cX1_init 32 = .ok (.dup, 1) := by decide +kernel
theorem dX1_init_33 : decode cX1_init 33 = .ok (.iload_n 2, 1) := by decide +kernel
theorem dX1_init_34 : decode cX1_init 34 = .ok (.invokespecial 21, 3) := by decide +kernel
theorem dX1_init_37 : decode cX1_init 37 = .ok (.aastore, 1) := by decide +kernel
theorem dX1_init_38 : decode cX1_init 38 = .ok (.iinc 2 1, 3) := by decide +kernel
theorem dX1_init_41 : decode cX1_init 41 = .ok (.goto (-22), 3) := by decide +kernel
theorem dX1_init_44 : decode cX1_init 44 = .ok (.aload_n 0, 1) := by decide +kernel
theorem dX1_init_45 : decode cX1_init 45 = .ok (.new 24, 3) := by decide +kernel
theorem dX1_init_48 : decode cX1_init 48 = .ok (.dup, 1) := by decide +kernel
theorem dX1_init_49 : decode cX1_init 49 = .ok (.invokespecial 26, 3) := by decide +kernel
theorem dX1_init_52 : decode cX1_init 52 = .ok (.putfield 27, 3) := by decide +kernel
theorem dX1_init_55 : decode cX1_init 55 = .ok (.aload_n 0, 1) := by decide +kernel
theorem dX1_init_56 : decode cX1_init 56 = .ok (.new 31, 3) := by decide +kernel
theorem dX1_init_59 : decode cX1_init 59 = .ok (.dup, 1) := by decide +kernel
theorem dX1_init_60 : decode cX1_init 60 = .ok (.invokespecial 33, 3) := by decide +kernel
theorem dX1_init_63 : decode cX1_init 63 = .ok (.putfield 34, 3) := by decide +kernel
theorem dX1_init_66 : decode cX1_init 66 = .ok (.aload_n 0, 1) := by decide +kernel
theorem dX1_init_67 : decode cX1_init 67 = .ok (.iconst 4, 1) := by decide +kernel
theorem dX1_init_68 : decode cX1_init 68 = .ok (.putfield 38, 3) := by decide +kernel
theorem dX1_init_71 : decode cX1_init 71 = .ok (.aload_n 0, 1) := by decide +kernel
theorem dX1_init_72 : decode cX1_init 72 = .ok (.bipush 50, 2) := by decide +kernel
theorem dX1_init_74 : decode cX1_init 74 = .ok (.putfield 42, 3) := by decide +kernel
theorem dX1_init_77 : decode cX1_init 77 = .ok (.return_, 1) := by decide +kernel
theorem dX1_beginAnew_0 : decode cX1_beginAnew 0 = .ok (.aload_n 0, 1) := by decide +kernel
theorem dX1_beginAnew_1 : decode cX1_beginAnew 1 = .ok (.iload_n 1, 1) := by decide +kernel
theorem dX1_beginAnew_2 : decode cX1_beginAnew 2 = .ok (.putfield 38, 3) := by decide +kernel
theorem dX1_beginAnew_5 : decode cX1_beginAnew 5 = .ok (.aload_n 0, 1) := by decide +kernel
theorem dX1_beginAnew_6 : decode cX1_beginAnew 6 = .ok (.iconst 0, 1) := by decide +kernel
theorem dX1_beginAnew_7 : decode cX1_beginAnew 7 = .ok (.putfield 45, 3) := by decide +kernel
theorem dX1_beginAnew_10 : decode cX1_beginAnew 10 = .ok (.aload_n 0, 1) := by decide +kernel
theorem dX1_beginAnew_11 : decode cX1_beginAnew 11 = .ok (.iconst 0, 1) := by decide +kernel
theorem dX1_beginAnew_12 : decode cX1_beginAnew 12 = .ok (.putfield 48, 3) := by decide +kernel
theorem dX1_beginAnew_15 : decode cX1_beginAnew 15 = .ok (.aload_n 0, 1) := by decide +kernel
theorem dX1_beginAnew_16 : decode cX1_beginAnew 16 = .ok (.getfield 27, 3) := by decide +kernel
theorem dX1_beginAnew_19 : decode cX1_beginAnew 19 = .ok (.iconst 0, 1) := by decide +kernel
theorem dX1_beginAnew_20 : decode cX1_beginAnew 20 = .ok (.putfield 51, 3) := by decide +kernel
theorem dX1_beginAnew_23 : decode cX1_beginAnew 23 = .ok (.aload_n 0, 1) := by decide +kernel
theorem dX1_beginAnew_24 : decode cX1_beginAnew 24 = .ok (.getfield 34, 3) := by decide +kernel
theorem dX1_beginAnew_27 : decode cX1_beginAnew 27 = .ok (.invokevirtual 52, 3) := by decide +kernel
theorem dX1_beginAnew_30 : decode cX1_beginAnew 30 = .ok (.return_, 1) := by decide +kernel
theorem dX1_copyFrom_0 : decode cX1_copyFrom 0 = .ok (.aload_n 0, 1) := by decide +kernel
theorem dX1_copyFrom_1 : decode cX1_copyFrom 1 = .ok (.aload_n 1, 1) := by decide +kernel
theorem dX1_copyFrom_2 : decode cX1_copyFrom 2 = .ok (.getfield 45, 3) := by decide +kernel
theorem dX1_copyFrom_5 : decode cX1_copyFrom 5 = .ok (.putfield 45, 3) := by decide +kernel
theorem dX1_copyFrom_8 : decode cX1_copyFrom 8 = .ok (.aload_n 0, 1) := by decide +kernel
theorem dX1_copyFrom_9 : decode cX1_copyFrom 9 = .ok (.aload_n 1, 1) := by decide +kernel
theorem dX1_copyFrom_10 : decode cX1_copyFrom 10 = .ok (.getfield 38, 3) := by decide +kernel
theorem dX1_copyFrom_13 : decode cX1_copyFrom 13 = .ok (.putfield 38, 3) := by decide +kernel
theorem dX1_copyFrom_16 : decode cX1_copyFrom 16 = .ok (.aload_n 0, 1) := by decide +kernel
theorem dX1_copyFrom_17 : decode cX1_copyFrom 17 = .ok (.aload_n 1, 1) := by decide +kernel
theorem dX1_copyFrom_18 : decode cX1_copyFrom 18 = .ok (.getfield 48, 3) := by decide +kernel
theorem dX1_copyFrom_21 : decode cX1_copyFrom 21 = .ok (.putfield 48, 3) := by decide +kernel
theorem dX1_copyFrom_24 : decode cX1_copyFrom 24 = .ok (.aload_n 0, 1) := by decide +kernel
theorem dX1_copyFrom_25 : decode cX1_copyFrom 25 = .ok (.aload_n 1, 1) := by decide +kernel
theorem dX1_copyFrom_26 : decode cX1_copyFrom 26 = .ok (.getfield 42, 3) := by decide +kernel
theorem dX1_copyFrom_29 : decode cX1_copyFrom 29 = .ok (.putfield 42, 3) := by decide +kernel
theorem dX1_copyFrom_32 : decode cX1_copyFrom 32 = .ok (.aload_n 0, 1) := by decide +kernel
theorem dX1_copyFrom_33 : decode cX1_copyFrom 33 = .ok (.getfield 27, 3) := by decide +kernel
theorem dX1_copyFrom_36 : decode cX1_copyFrom 36 = .ok (.aload_n 1, 1) := by decide +kernel
theorem dX1_copyFrom_37 : decode cX1_copyFrom 37 = .ok (.getfield 27, 3) := by decide +kernel
theorem dX1_copyFrom_40 : decode cX1_copyFrom 40 = .ok (.invokevirtual 55, 3) := by decide +kernel
theorem dX1_copyFrom_43 : decode cX1_copyFrom 43 = .ok (.aload_n 0, 1) := by decide +kernel
theorem dX1_copyFrom_44 : decode cX1_copyFrom 44 = .ok (.getfield 34, 3) := by decide +kernel
theorem dX1_copyFrom_47 : decode cX1_copyFrom 47 = .ok (.aload_n 1, 1) := by decide +kernel
theorem dX1_copyFrom_48 : decode cX1_copyFrom 48 = .ok (.getfield 34, 3) := by decide +kernel
theorem dX1_copyFrom_51 : decode cX1_copyFrom 51 = .ok (.invokevirtual 59, 3) := by decide +kernel
theorem dX1_copyFrom_54 : decode cX1_copyFrom 54 = .ok (.iconst 0, 1) := by decide +kernel
theorem dX1_copyFrom_55 : decode cX1_copyFrom 55 = .ok (.istore_n 2, 1) := by decide +kernel
theorem dX1_copyFrom_56 : decode cX1_copyFrom 56 = .ok (.iload_n 2, 1) := by decide +kernel
theorem dX1_copyFrom_57 : decode cX1_copyFrom 57 = .ok (.aload_n 0, 1) := by decide +kernel
theorem dX1_copyFrom_58 : decode cX1_copyFrom 58 = .ok (.getfield 45, 3) := by decide +kernel
theorem dX1_copyFrom_61 : decode cX1_copyFrom 61 = .ok (.if_icmp .ge 29, 3) := by decide +kernel
theorem dX1_copyFrom_64 : decode cX1_copyFrom 64 = .ok (.iload_n 2, 1) := by decide +kernel
theorem dX1_copyFrom_65 : decode cX1_copyFrom 65 = .ok (.iconst 5, 1) := by decide +kernel
theorem dX1_copyFrom_66 : decode cX1_copyFrom 66 = .ok (.if_icmp .ge 24, 3) := by decide +kernel
theorem dX1_copyFrom_69 : decode cX1_copyFrom 69 = .ok (.aload_n 0, 1) := by decide +kernel
theorem dX1_copyFrom_70 : decode cX1_copyFrom 70 = .ok (.getfield 17, 3) := by decide +kernel
theorem dX1_copyFrom_73 : decode cX1_copyFrom 73 = .ok (.iload_n 2, 1) := by decide +kernel
theorem dX1_copyFrom_74 : decode cX1_copyFrom 74 = .ok (.aaload, 1) := by decide +kernel
theorem dX1_copyFrom_75 : decode cX1_copyFrom 75 = .ok (.aload_n 1, 1) := by decide +kernel
theorem dX1_copyFrom_76 : decode cX1_copyFrom 76 = .ok (.getfield 17, 3) := by decide +kernel
theorem dX1_copyFrom_79 : decode cX1_copyFrom 79 = .ok (.iload_n 2, 1) := by decide +kernel
theorem dX1_copyFrom_80 : decode cX1_copyFrom 80 = .ok (.aaload, 1) := by decide +kernel
theorem dX1_copyFrom_81 : decode cX1_copyFrom 81 = .ok (.invokevirtual 62, 3) := by decide +kernel
theorem dX1_copyFrom_84 : decode cX1_copyFrom 84 = .ok (.iinc 2 1, 3) := by decide +kernel
theorem dX1_copyFrom_87 : decode cX1_copyFrom 87 = .ok (.goto (-31), 3) := by decide +kernel
theorem dX1_copyFrom_90 : decode cX1_copyFrom 90 = .ok (.return_, 1) := by decide +kernel
theorem dX1_find_0 : decode cX1_find 0 = .ok (.iload_n 1, 1) := by decide +kernel
theorem dX1_find_1 : decode cX1_find 1 = .ok (.ifCond .lt 25, 3) := by decide +kernel
theorem dX1_find_4 : decode cX1_find 4 = .ok (.iload_n 1, 1) := by decide +kernel
theorem dX1_find_5 : decode cX1_find 5 = .ok (.aload_n 0, 1) := by decide +kernel
theorem dX1_find_6 : decode cX1_find 6 = .ok (.getfield 45, 3) := by decide +kernel
theorem dX1_find_9 : decode cX1_find 9 = .ok (.if_icmp .ge 17, 3) := by decide +kernel
theorem dX1_find_12 : decode cX1_find 12 = .ok (.iload_n 1, 1) := by decide +kernel
theorem dX1_find_13 : decode cX1_find 13 = .ok (.iconst 5, 1) := by decide +kernel
theorem dX1_find_14 : decode cX1_find 14 = .ok (.if_icmp .ge 12, 3) := by decide +kernel
theorem dX1_find_17 : decode cX1_find 17 = .ok (.aload_n 0, 1) := by decide +kernel
theorem dX1_find_18 : decode cX1_find 18 = .ok (.getfield 17, 3) := by decide +kernel
theorem dX1_find_21 : decode cX1_find 21 = .ok (.iload_n 1, 1) := by decide +kernel
theorem dX1_find_22 : decode cX1_find 22 = .ok (.aaload, 1) := by decide +kernel
theorem dX1_find_23 : decode cX1_find 23 = .ok (.goto 4, 3) := by decide +kernel
theorem dX1_find_26 : decode cX1_find 26 = .ok (.aconst_null, 1) := by decide +kernel
theorem dX1_find_27 : decode cX1_find 27 = .ok (.areturn, 1) := by decide +kernel
theorem dX1_putChange_0 : decode cX1_putChange 0 = .ok (.aload_n 0, 1) := by decide +kernel
theorem dX1_putChange_1 : decode cX1_putChange 1 = .ok (.getfield 45, 3) := by decide +kernel
theorem dX1_putChange_4 : decode cX1_putChange 4 = .ok (.ifCond .lt 11, 3) := by decide +kernel
theorem dX1_putChange_7 : decode cX1_putChange 7 = .ok (.aload_n 0, 1) := by decide +kernel
theorem dX1_putChange_8 : decode cX1_putChange 8 = .ok (.getfield 45, 3) := by decide +kernel
theorem dX1_putChange_11 : decode cX1_putChange 11 = .ok (.iconst 5, 1) := by decide +kernel
theorem dX1_putChange_12 : decode cX1_putChange 12 = .ok (.if_icmp .lt 5, 3) := by decide +kernel
theorem dX1_putChange_15 : decode cX1_putChange 15 = .ok (.iconst 0, 1) := by decide +kernel
theorem dX1_putChange_16 : decode cX1_putChange 16 = .ok (.ireturn, 1) := by decide +kernel
theorem dX1_putChange_17 : decode cX1_putChange 17 = .ok (.aload_n 0, 1) := by decide +kernel
theorem dX1_putChange_18 : decode cX1_putChange 18 = .ok (.getfield 17, 3) := by decide +kernel
theorem dX1_putChange_21 : decode cX1_putChange 21 = .ok (.aload_n 0, 1) := by decide +kernel
theorem dX1_putChange_22 : decode cX1_putChange 22 = .ok (.getfield 45, 3) := by decide +kernel
theorem dX1_putChange_25 : decode cX1_putChange 25 = .ok (.aaload, 1) := by decide +kernel
theorem dX1_putChange_26 : decode cX1_putChange 26 = .ok (.iload_n 1, 1) := by decide +kernel
theorem dX1_putChange_27 : decode cX1_putChange 27 = .ok (.invokevirtual 65, 3) := by decide +kernel
theorem dX1_putChange_30 : decode cX1_putChange 30 = .ok (.aload_n 0, 1) := by decide +kernel
theorem dX1_putChange_31 : decode cX1_putChange 31 = .ok (.dup, 1) := by decide +kernel
theorem dX1_putChange_32 : decode cX1_putChange 32 = .ok (.getfield 45, 3) := by decide +kernel
theorem dX1_putChange_35 : decode cX1_putChange 35 = .ok (.iconst 1, 1) := by decide +kernel
theorem dX1_putChange_36 : decode cX1_putChange 36 = .ok (.iadd, 1) := by decide +kernel
theorem dX1_putChange_37 : decode cX1_putChange 37 = .ok (.putfield 45, 3) := by decide +kernel
theorem dX1_putChange_40 : decode cX1_putChange 40 = .ok (.iconst 1, 1) := by decide +kernel
theorem dX1_putChange_41 : decode cX1_putChange 41 = .ok (.ireturn, 1) := by decide +kernel
theorem dX1_isCell_0 : decode cX1_isCell 0 = .ok (.iload_n 1, 1) := by decide +kernel
theorem dX1_isCell_1 : decode cX1_isCell 1 = .ok (.ifCond .lt 15, 3) := by decide +kernel
theorem dX1_isCell_4 : decode cX1_isCell 4 = .ok (.iload_n 1, 1) := by decide +kernel
theorem dX1_isCell_5 : decode cX1_isCell 5 = .ok (.aload_n 0, 1) := by decide +kernel
theorem dX1_isCell_6 : decode cX1_isCell 6 = .ok (.getfield 38, 3) := by decide +kernel
theorem dX1_isCell_9 : decode cX1_isCell 9 = .ok (.if_icmp .ge 7, 3) := by decide +kernel
theorem dX1_isCell_12 : decode cX1_isCell 12 = .ok (.iconst 1, 1) := by decide +kernel
theorem dX1_isCell_13 : decode cX1_isCell 13 = .ok (.goto 4, 3) := by decide +kernel
theorem dX1_isCell_16 : decode cX1_isCell 16 = .ok (.iconst 0, 1) := by decide +kernel
theorem dX1_isCell_17 : decode cX1_isCell 17 = .ok (.ireturn, 1) := by decide +kernel
theorem dX1_allCells_0 : decode cX1_allCells 0 = .ok (.iconst 1, 1) := by decide +kernel
theorem dX1_allCells_1 : decode cX1_allCells 1 = .ok (.aload_n 0, 1) := by decide +kernel
theorem dX1_allCells_2 : decode cX1_allCells 2 = .ok (.getfield 38, 3) := by decide +kernel
theorem dX1_allCells_5 : decode cX1_allCells 5 = .ok (.ishl, 1) := by decide +kernel
theorem dX1_allCells_6 : decode cX1_allCells 6 = .ok (.iconst 1, 1) := by decide +kernel
theorem dX1_allCells_7 : decode cX1_allCells 7 = .ok (.isub, 1) := by decide +kernel
theorem dX1_allCells_8 : decode cX1_allCells 8 = .ok (.ireturn, 1) := by decide +kernel
theorem dX1_changesOf_0 : decode cX1_changesOf 0 = .ok (.iconst 0, 1) := by decide +kernel
theorem dX1_changesOf_1 : decode cX1_changesOf 1 = .ok (.istore_n 2, 1) := by decide +kernel
theorem dX1_changesOf_2 : decode cX1_changesOf 2 = .ok (.iconst 0, 1) := by decide +kernel
theorem dX1_changesOf_3 : decode cX1_changesOf 3 = .ok (.istore_n 3, 1) := by decide +kernel
theorem dX1_changesOf_4 : decode cX1_changesOf 4 = .ok (.iload_n 3, 1) := by decide +kernel
theorem dX1_changesOf_5 : decode cX1_changesOf 5 = .ok (.aload_n 0, 1) := by decide +kernel
theorem dX1_changesOf_6 : decode cX1_changesOf 6 = .ok (.getfield 45, 3) := by decide +kernel
theorem dX1_changesOf_9 : decode cX1_changesOf 9 = .ok (.if_icmp .ge 33, 3) := by decide +kernel
theorem dX1_changesOf_12 : decode cX1_changesOf 12 = .ok (.iload_n 3, 1) := by decide +kernel
theorem dX1_changesOf_13 : decode cX1_changesOf 13 = .ok (.iconst 5, 1) := by decide +kernel
theorem dX1_changesOf_14 : decode cX1_changesOf 14 = .ok (.if_icmp .ge 28, 3) := by decide +kernel
theorem dX1_changesOf_17 : decode cX1_changesOf 17 = .ok (.aload_n 0, 1) := by decide +kernel
theorem dX1_changesOf_18 : decode cX1_changesOf 18 = .ok (.getfield 17, 3) := by decide +kernel
theorem dX1_changesOf_21 : decode cX1_changesOf 21 = .ok (.iload_n 3, 1) := by decide +kernel
theorem dX1_changesOf_22 : decode cX1_changesOf 22 = .ok (.aaload, 1) := by decide +kernel
theorem dX1_changesOf_23 : decode cX1_changesOf 23 = .ok (.iload_n 1, 1) := by decide +kernel
theorem dX1_changesOf_24 : decode cX1_changesOf 24 = .ok (.invokevirtual 69, 3) := by decide +kernel
theorem dX1_changesOf_27 : decode cX1_changesOf 27 = .ok (.ifCond .eq 9, 3) := by decide +kernel
theorem dX1_changesOf_30 : decode cX1_changesOf 30 = .ok (.iload_n 2, 1) := by decide +kernel
theorem dX1_changesOf_31 : decode cX1_changesOf 31 = .ok (.iconst 1, 1) := by decide +kernel
theorem dX1_changesOf_32 : decode cX1_changesOf 32 = .ok (.iload_n 3, 1) := by decide +kernel
theorem dX1_changesOf_33 : decode cX1_changesOf 33 = .ok (.ishl, 1) := by decide +kernel
theorem dX1_changesOf_34 : decode cX1_changesOf 34 = .ok (.ior, 1) := by decide +kernel
theorem dX1_changesOf_35 : decode cX1_changesOf 35 = .ok (.istore_n 2, 1) := by decide +kernel
theorem dX1_changesOf_36 : decode cX1_changesOf 36 = .ok (.iinc 3 1, 3) := by decide +kernel
theorem dX1_changesOf_39 : decode cX1_changesOf 39 = .ok (.goto (-35), 3) := by decide +kernel
theorem dX1_changesOf_42 : decode cX1_changesOf 42 = .ok (.iload_n 2, 1) := by decide +kernel
theorem dX1_changesOf_43 : decode cX1_changesOf 43 = .ok (.ireturn, 1) := by decide +kernel
theorem dX1_isOver_0 : decode cX1_isOver 0 = .ok (.aload_n 0, 1) := by decide +kernel
theorem dX1_isOver_1 : decode cX1_isOver 1 = .ok (.iload_n 1, 1) := by decide +kernel
theorem dX1_isOver_2 : decode cX1_isOver 2 = .ok (.invokevirtual 73, 3) := by decide +kernel
theorem dX1_isOver_5 : decode cX1_isOver 5 = .ok (.astore_n 2, 1) := by decide +kernel
theorem dX1_isOver_6 : decode cX1_isOver 6 = .ok (.aload_n 2, 1) := by decide +kernel
theorem dX1_isOver_7 : decode cX1_isOver 7 = .ok (.ifnull 23, 3) := by decide +kernel
theorem dX1_isOver_10 : decode cX1_isOver 10 = .ok (.aload_n 2, 1) := by decide +kernel
theorem dX1_isOver_11 : decode cX1_isOver 11 = .ok (.getfield 77, 3) := by decide +kernel
theorem dX1_isOver_14 : decode cX1_isOver 14 = .ok (.iconst 3, 1) := by decide +kernel
theorem dX1_isOver_15 : decode cX1_isOver 15 = .ok (.if_icmp .eq 11, 3) := by decide +kernel
theorem dX1_isOver_18 : decode cX1_isOver 18 = .ok (.aload_n 2, 1) := by decide +kernel
theorem dX1_isOver_19 : decode cX1_isOver 19 = .ok (.getfield 77, 3) := by decide +kernel
theorem dX1_isOver_22 : decode cX1_isOver 22 = .ok (.iconst 5, 1) := by decide +kernel
theorem dX1_isOver_23 : decode cX1_isOver 23 = .ok (.if_icmp .ne 7, 3) := by decide +kernel
theorem dX1_isOver_26 : decode cX1_isOver 26 = .ok (.iconst 1, 1) := by decide +kernel
theorem dX1_isOver_27 : decode cX1_isOver 27 = .ok (.goto 4, 3) := by decide +kernel
theorem dX1_isOver_30 : decode cX1_isOver 30 = .ok (.iconst 0, 1) := by decide +kernel
theorem dX1_isOver_31 : decode cX1_isOver 31 = .ok (.ireturn, 1) := by decide +kernel
theorem dX1_takeProbes_0 : decode cX1_takeProbes 0 = .ok (.iconst 0, 1) := by decide +kernel
theorem dX1_takeProbes_1 : decode cX1_takeProbes 1 = .ok (.istore 4, 2) := by decide +kernel
theorem dX1_takeProbes_3 : decode cX1_takeProbes 3 = .ok (.iconst 0, 1) := by decide +kernel
theorem dX1_takeProbes_4 : decode cX1_takeProbes 4 = .ok (.istore 5, 2) := by decide +kernel
theorem dX1_takeProbes_6 : decode cX1_takeProbes 6 = .ok (.iload 5, 2) := by decide +kernel
theorem dX1_takeProbes_8 : decode cX1_takeProbes 8 = .ok (.aload_n 0, 1) := by decide +kernel
theorem dX1_takeProbes_9 : decode cX1_takeProbes 9 = .ok (.getfield 45, 3) := by decide +kernel
theorem dX1_takeProbes_12 : decode cX1_takeProbes 12 = .ok (.if_icmp .ge 34, 3) := by decide +kernel
theorem dX1_takeProbes_15 : decode cX1_takeProbes 15 = .ok (.iload 5, 2) := by decide +kernel
theorem dX1_takeProbes_17 : decode cX1_takeProbes 17 = .ok (.iconst 5, 1) := by decide +kernel
theorem dX1_takeProbes_18 : decode cX1_takeProbes 18 = .ok (.if_icmp .ge 28, 3) := by decide +kernel
theorem dX1_takeProbes_21 : decode cX1_takeProbes 21 = .ok (.aload_n 0, 1) := by decide +kernel
theorem dX1_takeProbes_22 : decode cX1_takeProbes 22 = .ok (.getfield 17, 3) := by decide +kernel
theorem dX1_takeProbes_25 : decode cX1_takeProbes 25 = .ok (.iload 5, 2) := by decide +kernel
theorem dX1_takeProbes_27 : decode cX1_takeProbes 27 = .ok (.aaload, 1) := by decide +kernel
theorem dX1_takeProbes_28 : decode cX1_takeProbes 28 = .ok (.iload_n 1, 1) := by decide +kernel
theorem dX1_takeProbes_29 : decode cX1_takeProbes 29 = .ok (.iload_n 2, 1) := by decide +kernel
theorem dX1_takeProbes_30 : decode cX1_takeProbes 30 = .ok (.iload_n 3, 1) := by decide +kernel
theorem dX1_takeProbes_31 : decode cX1_takeProbes 31 = .ok (.invokevirtual 80, 3) := by decide +kernel
theorem dX1_takeProbes_34 : decode cX1_takeProbes 34 = .ok (.ifCond .eq 6, 3) := by decide +kernel
theorem dX1_takeProbes_37 : decode cX1_takeProbes 37 = .ok (.iinc 4 1, 3) := by decide +kernel
theorem dX1_takeProbes_40 : decode cX1_takeProbes 40 = .ok (.iinc 5 1, 3) := by decide +kernel
theorem dX1_takeProbes_43 : decode cX1_takeProbes 43 = .ok (.goto (-37), 3) := by decide +kernel
theorem dX1_takeProbes_46 : decode cX1_takeProbes 46 = .ok (.iload 4, 2) := by decide +kernel
theorem dX1_takeProbes_48 : decode cX1_takeProbes 48 = .ok (.ireturn, 1) := by decide +kernel
theorem dX1_reasonOf_0 : decode cX1_reasonOf 0 = .ok (.aload_n 1, 1) := by decide +kernel
theorem dX1_reasonOf_1 : decode cX1_reasonOf 1 = .ok (.invokevirtual 84, 3) := by decide +kernel
theorem dX1_reasonOf_4 : decode cX1_reasonOf 4 = .ok (.ifCond .ne 5, 3) := by decide +kernel
theorem dX1_reasonOf_7 : decode cX1_reasonOf 7 = .ok (.iconst 1, 1) := by decide +kernel
theorem dX1_reasonOf_8 : decode cX1_reasonOf 8 = .ok (.ireturn, 1) := by decide +kernel
theorem dX1_reasonOf_9 : decode cX1_reasonOf 9 = .ok (.aload_n 1, 1) := by decide +kernel
theorem dX1_reasonOf_10 : decode cX1_reasonOf 10 = .ok (.getfield 77, 3) := by decide +kernel
theorem dX1_reasonOf_13 : decode cX1_reasonOf 13 = .ok (.iconst 4, 1) := by decide +kernel
theorem dX1_reasonOf_14 : decode cX1_reasonOf 14 = .ok (.if_icmp .ne 5, 3) := by decide +kernel
theorem dX1_reasonOf_17 : decode cX1_reasonOf 17 = .ok (.iconst 2, 1) := by decide +kernel
theorem dX1_reasonOf_18 : decode cX1_reasonOf 18 = .ok (.ireturn, 1) := by decide +kernel
theorem dX1_reasonOf_19 : decode cX1_reasonOf 19 = .ok (.aload_n 1, 1) := by decide +kernel
theorem dX1_reasonOf_20 : decode cX1_reasonOf 20 = .ok (.getfield 77, 3) := by decide +kernel
theorem dX1_reasonOf_23 : decode cX1_reasonOf 23 = .ok (.iconst 2, 1) := by decide +kernel
theorem dX1_reasonOf_24 : decode cX1_reasonOf 24 = .ok (.if_icmp .ne 5, 3) := by decide +kernel
theorem dX1_reasonOf_27 : decode cX1_reasonOf 27 = .ok (.iconst 3, 1) := by decide +kernel
theorem dX1_reasonOf_28 : decode cX1_reasonOf 28 = .ok (.ireturn, 1) := by decide +kernel
theorem dX1_reasonOf_29 : decode cX1_reasonOf 29 = .ok (.aload_n 1, 1) := by decide +kernel
theorem dX1_reasonOf_30 : decode cX1_reasonOf 30 = .ok (.aload_n 0, 1) := by decide +kernel
theorem dX1_reasonOf_31 : decode cX1_reasonOf 31 = .ok (.getfield 48, 3) := by decide +kernel
theorem dX1_reasonOf_34 : decode cX1_reasonOf 34 = .ok (.invokevirtual 88, 3) := by decide +kernel
theorem dX1_reasonOf_37 : decode cX1_reasonOf 37 = .ok (.ifCond .eq 5, 3) := by decide +kernel
theorem dX1_reasonOf_40 : decode cX1_reasonOf 40 = .ok (.iconst 4, 1) := by decide +kernel
theorem dX1_reasonOf_41 : decode cX1_reasonOf 41 = .ok (.ireturn, 1) := by decide +kernel
theorem dX1_reasonOf_42 : decode cX1_reasonOf 42 = .ok (.aload_n 0, 1) := by decide +kernel
theorem dX1_reasonOf_43 : decode cX1_reasonOf 43 = .ok (.getfield 9, 3) := by decide +kernel
theorem dX1_reasonOf_46 : decode cX1_reasonOf 46 = .ok (.ifCond .ne 16, 3) := by decide +kernel
theorem dX1_reasonOf_49 : decode cX1_reasonOf 49 = .ok (.aload_n 1, 1) := by decide +kernel
theorem dX1_reasonOf_50 : decode cX1_reasonOf 50 = .ok (.aload_n 0, 1) := by decide +kernel
theorem dX1_reasonOf_51 : decode cX1_reasonOf 51 = .ok (.invokevirtual 91, 3) := by decide +kernel
theorem dX1_reasonOf_54 : decode cX1_reasonOf 54 = .ok (.invokevirtual 95, 3) := by decide +kernel
theorem dX1_reasonOf_57 : decode cX1_reasonOf 57 = .ok (.ifCond .eq 5, 3) := by decide +kernel
theorem dX1_reasonOf_60 : decode cX1_reasonOf 60 = .ok (.iconst 5, 1) := by decide +kernel
theorem dX1_reasonOf_61 : decode cX1_reasonOf 61 = .ok (.ireturn, 1) := by decide +kernel
theorem dX1_reasonOf_62 : decode cX1_reasonOf 62 = .ok (.aload_n 1, 1) := by decide +kernel
theorem dX1_reasonOf_63 : decode cX1_reasonOf 63 = .ok (.invokevirtual 98, 3) := by decide +kernel
theorem dX1_reasonOf_66 : decode cX1_reasonOf 66 = .ok (.ifCond .eq 24, 3) := by decide +kernel
theorem dX1_reasonOf_69 : decode cX1_reasonOf 69 = .ok (.aload_n 0, 1) := by decide +kernel
theorem dX1_reasonOf_70 : decode cX1_reasonOf 70 = .ok (.getfield 27, 3) := by decide +kernel
theorem dX1_reasonOf_73 : decode cX1_reasonOf 73 = .ok (.aload_n 0, 1) := by decide +kernel
theorem dX1_reasonOf_74 : decode cX1_reasonOf 74 = .ok (.getfield 48, 3) := by decide +kernel
theorem dX1_reasonOf_77 : decode cX1_reasonOf 77 = .ok (.sipush 168, 3) := by decide +kernel
theorem dX1_reasonOf_80 : decode cX1_reasonOf 80 = .ok (.irem, 1) := by decide +kernel
theorem dX1_reasonOf_81 : decode cX1_reasonOf 81 = .ok (.invokevirtual 101, 3) := by decide +kernel
theorem dX1_reasonOf_84 : decode cX1_reasonOf 84 = .ok (.ifCond .eq 6, 3) := by decide +kernel
theorem dX1_reasonOf_87 : decode cX1_reasonOf 87 = .ok (.bipush 6, 2) := by decide +kernel
theorem dX1_reasonOf_89 : decode cX1_reasonOf 89 = .ok (.ireturn, 1) := by decide +kernel
theorem dX1_reasonOf_90 : decode cX1_reasonOf 90 = .ok (.aload_n 1, 1) := by decide +kernel
theorem dX1_reasonOf_91 : decode cX1_reasonOf 91 = .ok (.getfield 104, 3) := by decide +kernel
theorem dX1_reasonOf_94 : decode cX1_reasonOf 94 = .ok (.ifCond .le 7, 3) := by decide +kernel
theorem dX1_reasonOf_97 : decode cX1_reasonOf 97 = .ok (.iconst 0, 1) := by decide +kernel
theorem dX1_reasonOf_98 : decode cX1_reasonOf 98 = .ok (.goto 8, 3) := by decide +kernel
theorem dX1_reasonOf_101 : decode cX1_reasonOf 101 = .ok (.aload_n 0, 1) := by decide +kernel
theorem dX1_reasonOf_102 : decode cX1_reasonOf 102 = .ok (.aload_n 1, 1) := by decide +kernel
theorem dX1_reasonOf_103 : decode cX1_reasonOf 103 = .ok (.invokevirtual 107, 3) := by decide +kernel
theorem dX1_reasonOf_106 : decode cX1_reasonOf 106 = .ok (.ireturn, 1) := by decide +kernel
theorem dX1_reasonBeforeFirstStage_0 : decode cX1_reasonBeforeFirstStage 0 = .ok (.aload_n 0, 1) := by decide +kernel
theorem dX1_reasonBeforeFirstStage_1 : decode cX1_reasonBeforeFirstStage 1 = .ok (.aload_n 1, 1) := by decide +kernel
theorem dX1_reasonBeforeFirstStage_2 : decode cX1_reasonBeforeFirstStage 2 = .ok (.getfield 111, 3) := by decide +kernel
theorem dX1_reasonBeforeFirstStage_5 : decode cX1_reasonBeforeFirstStage 5 = .ok (.invokevirtual 114, 3) := by decide +kernel
theorem dX1_reasonBeforeFirstStage_8 : decode cX1_reasonBeforeFirstStage 8 = .ok (.ifCond .eq 6, 3) := by decide +kernel
theorem dX1_reasonBeforeFirstStage_11 : decode cX1_reasonBeforeFirstStage 11 = .ok (.bipush 7, 2) := by decide +kernel
theorem dX1_reasonBeforeFirstStage_13 : decode cX1_reasonBeforeFirstStage 13 = .ok (.ireturn, 1) := by decide +kernel
theorem dX1_reasonBeforeFirstStage_14 : decode cX1_reasonBeforeFirstStage 14 = .ok (.aload_n 1, 1) := by decide +kernel
theorem dX1_reasonBeforeFirstStage_15 : decode cX1_reasonBeforeFirstStage 15 = .ok (.getfield 117, 3) := by decide +kernel
theorem dX1_reasonBeforeFirstStage_18 : decode cX1_reasonBeforeFirstStage 18 = .ok (.ifCond .eq 16, 3) := by decide +kernel
theorem dX1_reasonBeforeFirstStage_21 : decode cX1_reasonBeforeFirstStage 21 = .ok (.aload_n 0, 1) := by decide +kernel
theorem dX1_reasonBeforeFirstStage_22 : decode cX1_reasonBeforeFirstStage 22 = .ok (.aload_n 1, 1) := by decide +kernel
theorem dX1_reasonBeforeFirstStage_23 : decode cX1_reasonBeforeFirstStage 23 = .ok (.invokevirtual 120, 3) := by decide +kernel
theorem dX1_reasonBeforeFirstStage_26 : decode cX1_reasonBeforeFirstStage 26 = .ok (.ifCond .eq 8, 3) := by decide +kernel
theorem dX1_reasonBeforeFirstStage_29 : decode cX1_reasonBeforeFirstStage 29 = .ok (.bipush 8, 2) := by decide +kernel
theorem dX1_reasonBeforeFirstStage_31 : decode cX1_reasonBeforeFirstStage 31 = .ok (.goto 4, 3) := by decide +kernel
theorem dX1_reasonBeforeFirstStage_34 : decode cX1_reasonBeforeFirstStage 34 = .ok (.iconst 0, 1) := by decide +kernel
theorem dX1_reasonBeforeFirstStage_35 : decode cX1_reasonBeforeFirstStage 35 = .ok (.ireturn, 1) := by decide +kernel
theorem dX1_lacksDone_0 : decode cX1_lacksDone 0 = .ok (.iconst 0, 1) := by decide +kernel
theorem dX1_lacksDone_1 : decode cX1_lacksDone 1 = .ok (.istore_n 2, 1) := by decide +kernel
theorem dX1_lacksDone_2 : decode cX1_lacksDone 2 = .ok (.iload_n 2, 1) := by decide +kernel
theorem dX1_lacksDone_3 : decode cX1_lacksDone 3 = .ok (.aload_n 0, 1) := by decide +kernel
theorem dX1_lacksDone_4 : decode cX1_lacksDone 4 = .ok (.getfield 45, 3) := by decide +kernel
theorem dX1_lacksDone_7 : decode cX1_lacksDone 7 = .ok (.if_icmp .ge 37, 3) := by decide +kernel
theorem dX1_lacksDone_10 : decode cX1_lacksDone 10 = .ok (.iload_n 2, 1) := by decide +kernel
theorem dX1_lacksDone_11 : decode cX1_lacksDone 11 = .ok (.iconst 5, 1) := by decide +kernel
theorem dX1_lacksDone_12 : decode cX1_lacksDone 12 = .ok (.if_icmp .ge 32, 3) := by decide +kernel
theorem dX1_lacksDone_15 : decode cX1_lacksDone 15 = .ok (.iload_n 1, 1) := by decide +kernel
theorem dX1_lacksDone_16 : decode cX1_lacksDone 16 = .ok (.iload_n 2, 1) := by decide +kernel
theorem dX1_lacksDone_17 : decode cX1_lacksDone 17 = .ok (.ishr, 1) := by decide +kernel
theorem dX1_lacksDone_18 : decode cX1_lacksDone 18 = .ok (.iconst 1, 1) := by decide +kernel
theorem dX1_lacksDone_19 : decode cX1_lacksDone 19 = .ok (.iand, 1) := by decide +kernel
theorem dX1_lacksDone_20 : decode cX1_lacksDone 20 = .ok (.ifCond .eq 18, 3) := by decide +kernel
theorem dX1_lacksDone_23 : decode cX1_lacksDone 23 = .ok (.aload_n 0, 1) := by decide +kernel
theorem dX1_lacksDone_24 : decode cX1_lacksDone 24 = .ok (.getfield 17, 3) := by decide +kernel
theorem dX1_lacksDone_27 : decode cX1_lacksDone 27 = .ok (.iload_n 2, 1) := by decide +kernel
theorem dX1_lacksDone_28 : decode cX1_lacksDone 28 = .ok (.aaload, 1) := by decide +kernel
theorem dX1_lacksDone_29 : decode cX1_lacksDone 29 = .ok (.getfield 77, 3) := by decide +kernel
theorem dX1_lacksDone_32 : decode cX1_lacksDone 32 = .ok (.iconst 3, 1) := by decide +kernel
theorem dX1_lacksDone_33 : decode cX1_lacksDone 33 = .ok (.if_icmp .eq 5, 3) := by decide +kernel
theorem dX1_lacksDone_36 : decode cX1_lacksDone 36 = .ok (.iconst 1, 1) := by decide +kernel
theorem dX1_lacksDone_37 : decode cX1_lacksDone 37 = .ok (.ireturn, 1) := by decide +kernel
theorem dX1_lacksDone_38 : decode cX1_lacksDone 38 = .ok (.iinc 2 1, 3) := by decide +kernel
theorem dX1_lacksDone_41 : decode cX1_lacksDone 41 = .ok (.goto (-39), 3) := by decide +kernel
theorem dX1_lacksDone_44 : decode cX1_lacksDone 44 = .ok (.iconst 0, 1) := by decide +kernel
theorem dX1_lacksDone_45 : decode cX1_lacksDone 45 = .ok (.ireturn, 1) := by decide +kernel
theorem dX1_meetsOtherRisk_0 : decode cX1_meetsOtherRisk 0 = .ok (.iconst 0, 1) := by decide +kernel
theorem dX1_meetsOtherRisk_1 : decode cX1_meetsOtherRisk 1 = .ok (.istore_n 2, 1) := by decide +kernel
theorem dX1_meetsOtherRisk_2 : decode cX1_meetsOtherRisk 2 = .ok (.iload_n 2, 1) := by decide +kernel
theorem dX1_meetsOtherRisk_3 : decode cX1_meetsOtherRisk 3 = .ok (.aload_n 0, 1) := by decide +kernel
theorem dX1_meetsOtherRisk_4 : decode cX1_meetsOtherRisk 4 = .ok (.getfield 45, 3) := by decide +kernel
theorem dX1_meetsOtherRisk_7 : decode cX1_meetsOtherRisk 7 = .ok (.if_icmp .ge 49, 3) := by decide +kernel
theorem dX1_meetsOtherRisk_10 : decode cX1_meetsOtherRisk 10 = .ok (.iload_n 2, 1) := by decide +kernel
theorem dX1_meetsOtherRisk_11 : decode cX1_meetsOtherRisk 11 = .ok (.iconst 5, 1) := by decide +kernel
theorem dX1_meetsOtherRisk_12 : decode cX1_meetsOtherRisk 12 = .ok (.if_icmp .ge 44, 3) := by decide +kernel
theorem dX1_meetsOtherRisk_15 : decode cX1_meetsOtherRisk 15 = .ok (.aload_n 0, 1) := by decide +kernel
theorem dX1_meetsOtherRisk_16 : decode cX1_meetsOtherRisk 16 = .ok (.getfield 17, 3) := by decide +kernel
theorem dX1_meetsOtherRisk_19 : decode cX1_meetsOtherRisk 19 = .ok (.iload_n 2, 1) := by decide +kernel
theorem dX1_meetsOtherRisk_20 : decode cX1_meetsOtherRisk 20 = .ok (.aaload, 1) := by decide +kernel
theorem dX1_meetsOtherRisk_21 : decode cX1_meetsOtherRisk 21 = .ok (.astore_n 3, 1) := by decide +kernel
theorem dX1_meetsOtherRisk_22 : decode cX1_meetsOtherRisk 22 = .ok (.aload_n 3, 1) := by decide +kernel
theorem dX1_meetsOtherRisk_23 : decode cX1_meetsOtherRisk 23 = .ok (.aload_n 1, 1) := by decide +kernel
theorem dX1_meetsOtherRisk_24 : decode cX1_meetsOtherRisk 24 = .ok (.if_acmp .eq 26, 3) := by decide +kernel
theorem dX1_meetsOtherRisk_27 : decode cX1_meetsOtherRisk 27 = .ok (.aload_n 3, 1) := by decide +kernel
theorem dX1_meetsOtherRisk_28 : decode cX1_meetsOtherRisk 28 = .ok (.getfield 117, 3) := by decide +kernel
theorem dX1_meetsOtherRisk_31 : decode cX1_meetsOtherRisk 31 = .ok (.ifCond .eq 19, 3) := by decide +kernel
theorem dX1_meetsOtherRisk_34 : decode cX1_meetsOtherRisk 34 = .ok (.aload_n 3, 1) := by decide +kernel
theorem dX1_meetsOtherRisk_35 : decode cX1_meetsOtherRisk 35 = .ok (.invokevirtual 84, 3) := by decide +kernel
theorem dX1_meetsOtherRisk_38 : decode cX1_meetsOtherRisk 38 = .ok (.ifCond .eq 12, 3) := by decide +kernel
theorem dX1_meetsOtherRisk_41 : decode cX1_meetsOtherRisk 41 = .ok (.aload_n 3, 1) := by decide +kernel
theorem dX1_meetsOtherRisk_42 : decode cX1_meetsOtherRisk 42 = .ok (.getfield 104, 3) := by decide +kernel
theorem dX1_meetsOtherRisk_45 : decode cX1_meetsOtherRisk 45 = .ok (.ifCond .le 5, 3) := by decide +kernel
theorem dX1_meetsOtherRisk_48 : decode cX1_meetsOtherRisk 48 = .ok (.iconst 1, 1) := by decide +kernel
theorem dX1_meetsOtherRisk_49 : decode cX1_meetsOtherRisk 49 = .ok (.ireturn, 1) := by decide +kernel
theorem dX1_meetsOtherRisk_50 : decode cX1_meetsOtherRisk 50 = .ok (.iinc 2 1, 3) := by decide +kernel
theorem dX1_meetsOtherRisk_53 : decode cX1_meetsOtherRisk 53 = .ok (.goto (-51), 3) := by decide +kernel
theorem dX1_meetsOtherRisk_56 : decode cX1_meetsOtherRisk 56 = .ok (.iconst 0, 1) := by decide +kernel
theorem dX1_meetsOtherRisk_57 : decode cX1_meetsOtherRisk 57 = .ok (.ireturn, 1) := by decide +kernel
theorem dX1_become_0 : decode cX1_become 0 = .ok (.aload_n 1, 1) := by decide +kernel
theorem dX1_become_1 : decode cX1_become 1 = .ok (.iload_n 2, 1) := by decide +kernel
theorem dX1_become_2 : decode cX1_become 2 = .ok (.putfield 77, 3) := by decide +kernel
theorem dX1_become_5 : decode cX1_become 5 = .ok (.aload_n 0, 1) := by decide +kernel
theorem dX1_become_6 : decode cX1_become 6 = .ok (.getfield 34, 3) := by decide +kernel
theorem dX1_become_9 : decode cX1_become 9 = .ok (.aload_n 0, 1) := by decide +kernel
theorem dX1_become_10 : decode cX1_become 10 = .ok (.getfield 48, 3) := by decide +kernel
theorem dX1_become_13 : decode cX1_become 13 = .ok (.aload_n 1, 1) := by decide +kernel
theorem dX1_become_14 : decode cX1_become 14 = .ok (.getfield 124, 3) := by decide +kernel
theorem dX1_become_17 : decode cX1_become 17 = .ok (.iload_n 3, 1) := by decide +kernel
theorem dX1_become_18 : decode cX1_become 18 = .ok (.bipush (-15), 2) := by decide +kernel
theorem dX1_become_20 : decode cX1_become 20 = .ok (.invokevirtual 127, 3) := by decide +kernel
theorem dX1_become_23 : decode cX1_become 23 = .ok (.return_, 1) := by decide +kernel
theorem dX1_passHour_0 : decode cX1_passHour 0 = .ok (.iconst 0, 1) := by decide +kernel
theorem dX1_passHour_1 : decode cX1_passHour 1 = .ok (.istore_n 1, 1) := by decide +kernel
theorem dX1_passHour_2 : decode cX1_passHour 2 = .ok (.iload_n 1, 1) := by decide +kernel
theorem dX1_passHour_3 : decode cX1_passHour 3 = .ok (.aload_n 0, 1) := by decide +kernel
theorem dX1_passHour_4 : decode cX1_passHour 4 = .ok (.getfield 45, 3) := by decide +kernel
theorem dX1_passHour_7 : decode cX1_passHour 7 = .ok (.if_icmp .ge 24, 3) := by decide +kernel
theorem dX1_passHour_10 : decode cX1_passHour 10 = .ok (.iload_n 1, 1) := by decide +kernel
theorem dX1_passHour_11 : decode cX1_passHour 11 = .ok (.iconst 5, 1) := by decide +kernel
theorem dX1_passHour_12 : decode cX1_passHour 12 = .ok (.if_icmp .ge 19, 3) := by decide +kernel
theorem dX1_passHour_15 : decode cX1_passHour 15 = .ok (.aload_n 0, 1) := by decide +kernel
theorem dX1_passHour_16 : decode cX1_passHour 16 = .ok (.aload_n 0, 1) := by decide +kernel
theorem dX1_passHour_17 : decode cX1_passHour 17 = .ok (.getfield 17, 3) := by decide +kernel
theorem dX1_passHour_20 : decode cX1_passHour 20 = .ok (.iload_n 1, 1) := by decide +kernel
theorem dX1_passHour_21 : decode cX1_passHour 21 = .ok (.aaload, 1) := by decide +kernel
theorem dX1_passHour_22 : decode cX1_passHour 22 = .ok (.invokevirtual 131, 3) := by decide +kernel
theorem dX1_passHour_25 : decode cX1_passHour 25 = .ok (.iinc 1 1, 3) := by decide +kernel
theorem dX1_passHour_28 : decode cX1_passHour 28 = .ok (.goto (-26), 3) := by decide +kernel
theorem dX1_passHour_31 : decode cX1_passHour 31 = .ok (.aload_n 0, 1) := by decide +kernel
theorem dX1_passHour_32 : decode cX1_passHour 32 = .ok (.dup, 1) := by decide +kernel
theorem dX1_passHour_33 : decode cX1_passHour 33 = .ok (.getfield 48, 3) := by decide +kernel
theorem dX1_passHour_36 : decode cX1_passHour 36 = .ok (.iconst 1, 1) := by decide +kernel
theorem dX1_passHour_37 : decode cX1_passHour 37 = .ok (.iadd, 1) := by decide +kernel
theorem dX1_passHour_38 : decode cX1_passHour 38 = .ok (.putfield 48, 3) := by decide +kernel
theorem dX1_passHour_41 : decode cX1_passHour 41 = .ok (.return_, 1) := by decide +kernel
theorem dX1_moveInHour_0 : decode cX1_moveInHour 0 = .ok (.aload_n 0, 1) := by decide +kernel
theorem dX1_moveInHour_1 : decode cX1_moveInHour 1 = .ok (.aload_n 1, 1) := by decide +kernel
theorem dX1_moveInHour_2 : decode cX1_moveInHour 2 = .ok (.invokevirtual 134, 3) := by decide +kernel
theorem dX1_moveInHour_5 : decode cX1_moveInHour 5 = .ok (.ifCond .eq 13, 3) := by decide +kernel
theorem dX1_moveInHour_8 : decode cX1_moveInHour 8 = .ok (.aload_n 0, 1) := by decide +kernel
theorem dX1_moveInHour_9 : decode cX1_moveInHour 9 = .ok (.aload_n 1, 1) := by decide +kernel
theorem dX1_moveInHour_10 : decode cX1_moveInHour 10 = .ok (.iconst 4, 1) := by decide +kernel
theorem dX1_moveInHour_11 : decode cX1_moveInHour 11 = .ok (.iconst 3, 1) := by decide +kernel
theorem dX1_moveInHour_12 : decode cX1_moveInHour 12 = .ok (.invokevirtual 137, 3) := by decide +kernel
theorem dX1_moveInHour_15 : decode cX1_moveInHour 15 = .ok (.goto 40, 3) := by decide +kernel
theorem dX1_moveInHour_18 : decode cX1_moveInHour 18 = .ok (.aload_n 1, 1) := by decide +kernel
theorem dX1_moveInHour_19 : decode cX1_moveInHour 19 = .ok (.getfield 77, 3) := by decide +kernel
theorem dX1_moveInHour_22 : decode cX1_moveInHour 22 = .ok (.iconst 4, 1) := by decide +kernel
theorem dX1_moveInHour_23 : decode cX1_moveInHour 23 = .ok (.if_icmp .ne 11, 3) := by decide +kernel
theorem dX1_moveInHour_26 : decode cX1_moveInHour 26 = .ok (.aload_n 0, 1) := by decide +kernel
theorem dX1_moveInHour_27 : decode cX1_moveInHour 27 = .ok (.aload_n 1, 1) := by decide +kernel
theorem dX1_moveInHour_28 : decode cX1_moveInHour 28 = .ok (.invokevirtual 141, 3) := by decide +kernel
theorem dX1_moveInHour_31 : decode cX1_moveInHour 31 = .ok (.goto 24, 3) := by decide +kernel
theorem dX1_moveInHour_34 : decode cX1_moveInHour 34 = .ok (.aload_n 1, 1) := by decide +kernel
theorem dX1_moveInHour_35 : decode cX1_moveInHour 35 = .ok (.getfield 77, 3) := by decide +kernel
theorem dX1_moveInHour_38 : decode cX1_moveInHour 38 = .ok (.iconst 1, 1) := by decide +kernel
theorem dX1_moveInHour_39 : decode cX1_moveInHour 39 = .ok (.if_icmp .ne 16, 3) := by decide +kernel
theorem dX1_moveInHour_42 : decode cX1_moveInHour 42 = .ok (.aload_n 0, 1) := by decide +kernel
theorem dX1_moveInHour_43 : decode cX1_moveInHour 43 = .ok (.aload_n 1, 1) := by decide +kernel
theorem dX1_moveInHour_44 : decode cX1_moveInHour 44 = .ok (.invokevirtual 144, 3) := by decide +kernel
theorem dX1_moveInHour_47 : decode cX1_moveInHour 47 = .ok (.ifCond .ne 8, 3) := by decide +kernel
theorem dX1_moveInHour_50 : decode cX1_moveInHour 50 = .ok (.aload_n 0, 1) := by decide +kernel
theorem dX1_moveInHour_51 : decode cX1_moveInHour 51 = .ok (.aload_n 1, 1) := by decide +kernel
theorem dX1_moveInHour_52 : decode cX1_moveInHour 52 = .ok (.invokevirtual 147, 3) := by decide +kernel
theorem dX1_moveInHour_55 : decode cX1_moveInHour 55 = .ok (.return_, 1) := by decide +kernel
theorem dX1_hasBadChance_0 : decode cX1_hasBadChance 0 = .ok (.aload_n 0, 1) := by decide +kernel
theorem dX1_hasBadChance_1 : decode cX1_hasBadChance 1 = .ok (.getfield 9, 3) := by decide +kernel
theorem dX1_hasBadChance_4 : decode cX1_hasBadChance 4 = .ok (.ifCond .ne 35, 3) := by decide +kernel
theorem dX1_hasBadChance_7 : decode cX1_hasBadChance 7 = .ok (.aload_n 1, 1) := by decide +kernel
theorem dX1_hasBadChance_8 : decode cX1_hasBadChance 8 = .ok (.invokevirtual 150, 3) := by decide +kernel
theorem dX1_hasBadChance_11 : decode cX1_hasBadChance 11 = .ok (.ifCond .eq 28, 3) := by decide +kernel
theorem dX1_hasBadChance_14 : decode cX1_hasBadChance 14 = .ok (.aload_n 1, 1) := by decide +kernel
theorem dX1_hasBadChance_15 : decode cX1_hasBadChance 15 = .ok (.getfield 104, 3) := by decide +kernel
theorem dX1_hasBadChance_18 : decode cX1_hasBadChance 18 = .ok (.ifCond .le 21, 3) := by decide +kernel
theorem dX1_hasBadChance_21 : decode cX1_hasBadChance 21 = .ok (.aload_n 1, 1) := by decide +kernel
theorem dX1_hasBadChance_22 : decode cX1_hasBadChance 22 = .ok (.getfield 153, 3) := by decide +kernel
theorem dX1_hasBadChance_25 : decode cX1_hasBadChance 25 = .ok (.aload_n 0, 1) := by decide +kernel
theorem dX1_hasBadChance_26 : decode cX1_hasBadChance 26 = .ok (.getfield 42, 3) := by decide +kernel
theorem dX1_hasBadChance_29 : decode cX1_hasBadChance 29 = .ok (.invokevirtual 157, 3) := by decide +kernel
theorem dX1_hasBadChance_32 : decode cX1_hasBadChance 32 = .ok (.ifCond .eq 7, 3) := by decide +kernel
theorem dX1_hasBadChance_35 : decode cX1_hasBadChance 35 = .ok (.iconst 1, 1) := by decide +kernel
theorem dX1_hasBadChance_36 : decode cX1_hasBadChance 36 = .ok (.goto 4, 3) := by decide +kernel
theorem dX1_hasBadChance_39 : decode cX1_hasBadChance 39 = .ok (.iconst 0, 1) := by decide +kernel
theorem dX1_hasBadChance_40 : decode cX1_hasBadChance 40 = .ok (.ireturn, 1) := by decide +kernel
theorem dX1_turnStage_0 : decode cX1_turnStage 0 = .ok (.aload_n 1, 1) := by decide +kernel
theorem dX1_turnStage_1 : decode cX1_turnStage 1 = .ok (.getfield 104, 3) := by decide +kernel
theorem dX1_turnStage_4 : decode cX1_turnStage 4 = .ok (.ifCond .le 33, 3) := by decide +kernel
theorem dX1_turnStage_7 : decode cX1_turnStage 7 = .ok (.aload_n 1, 1) := by decide +kernel
theorem dX1_turnStage_8 : decode cX1_turnStage 8 = .ok (.dup, 1) := by decide +kernel
theorem dX1_turnStage_9 : decode cX1_turnStage 9 = .ok (.getfield 104, 3) := by decide +kernel
theorem dX1_turnStage_12 : decode cX1_turnStage 12 = .ok (.iconst 1, 1) := by decide +kernel
theorem dX1_turnStage_13 : decode cX1_turnStage 13 = .ok (.isub, 1) := by decide +kernel
theorem dX1_turnStage_14 : decode cX1_turnStage 14 = .ok (.putfield 104, 3) := by decide +kernel
theorem dX1_turnStage_17 : decode cX1_turnStage 17 = .ok (.aload_n 0, 1) := by decide +kernel
theorem dX1_turnStage_18 : decode cX1_turnStage 18 = .ok (.getfield 34, 3) := by decide +kernel
theorem dX1_turnStage_21 : decode cX1_turnStage 21 = .ok (.aload_n 0, 1) := by decide +kernel
theorem dX1_turnStage_22 : decode cX1_turnStage 22 = .ok (.getfield 48, 3) := by decide +kernel
theorem dX1_turnStage_25 : decode cX1_turnStage 25 = .ok (.aload_n 1, 1) := by decide +kernel
theorem dX1_turnStage_26 : decode cX1_turnStage 26 = .ok (.getfield 124, 3) := by decide +kernel
theorem dX1_turnStage_29 : decode cX1_turnStage 29 = .ok (.iconst 4, 1) := by decide +kernel
theorem dX1_turnStage_30 : decode cX1_turnStage 30 = .ok (.aload_n 1, 1) := by decide +kernel
theorem dX1_turnStage_31 : decode cX1_turnStage 31 = .ok (.getfield 104, 3) := by decide +kernel
theorem dX1_turnStage_34 : decode cX1_turnStage 34 = .ok (.invokevirtual 127, 3) := by decide +kernel
theorem dX1_turnStage_37 : decode cX1_turnStage 37 = .ok (.aload_n 1, 1) := by decide +kernel
theorem dX1_turnStage_38 : decode cX1_turnStage 38 = .ok (.getfield 104, 3) := by decide +kernel
theorem dX1_turnStage_41 : decode cX1_turnStage 41 = .ok (.ifCond .ne 10, 3) := by decide +kernel
theorem dX1_turnStage_44 : decode cX1_turnStage 44 = .ok (.aload_n 0, 1) := by decide +kernel
theorem dX1_turnStage_45 : decode cX1_turnStage 45 = .ok (.aload_n 1, 1) := by decide +kernel
theorem dX1_turnStage_46 : decode cX1_turnStage 46 = .ok (.iconst 5, 1) := by decide +kernel
theorem dX1_turnStage_47 : decode cX1_turnStage 47 = .ok (.iconst 5, 1) := by decide +kernel
theorem dX1_turnStage_48 : decode cX1_turnStage 48 = .ok (.invokevirtual 137, 3) := by decide +kernel
theorem dX1_turnStage_51 : decode cX1_turnStage 51 = .ok (.return_, 1) := by decide +kernel
theorem dX1_goOn_0 : decode cX1_goOn 0 = .ok (.aload_n 1, 1) := by decide +kernel
theorem dX1_goOn_1 : decode cX1_goOn 1 = .ok (.invokevirtual 98, 3) := by decide +kernel
theorem dX1_goOn_4 : decode cX1_goOn 4 = .ok (.ifCond .eq 34, 3) := by decide +kernel
theorem dX1_goOn_7 : decode cX1_goOn 7 = .ok (.aload_n 0, 1) := by decide +kernel
theorem dX1_goOn_8 : decode cX1_goOn 8 = .ok (.getfield 34, 3) := by decide +kernel
theorem dX1_goOn_11 : decode cX1_goOn 11 = .ok (.aload_n 0, 1) := by decide +kernel
theorem dX1_goOn_12 : decode cX1_goOn 12 = .ok (.getfield 48, 3) := by decide +kernel
theorem dX1_goOn_15 : decode cX1_goOn 15 = .ok (.aload_n 1, 1) := by decide +kernel
theorem dX1_goOn_16 : decode cX1_goOn 16 = .ok (.getfield 124, 3) := by decide +kernel
theorem dX1_goOn_19 : decode cX1_goOn 19 = .ok (.iconst 1, 1) := by decide +kernel
theorem dX1_goOn_20 : decode cX1_goOn 20 = .ok (.aload_n 1, 1) := by decide +kernel
theorem dX1_goOn_21 : decode cX1_goOn 21 = .ok (.getfield 104, 3) := by decide +kernel
theorem dX1_goOn_24 : decode cX1_goOn 24 = .ok (.invokevirtual 127, 3) := by decide +kernel
theorem dX1_goOn_27 : decode cX1_goOn 27 = .ok (.aload_n 1, 1) := by decide +kernel
theorem dX1_goOn_28 : decode cX1_goOn 28 = .ok (.aload_n 0, 1) := by decide +kernel
theorem dX1_goOn_29 : decode cX1_goOn 29 = .ok (.getfield 48, 3) := by decide +kernel
theorem dX1_goOn_32 : decode cX1_goOn 32 = .ok (.invokevirtual 162, 3) := by decide +kernel
theorem dX1_goOn_35 : decode cX1_goOn 35 = .ok (.goto 10, 3) := by decide +kernel
theorem dX1_goOn_38 : decode cX1_goOn 38 = .ok (.aload_n 0, 1) := by decide +kernel
theorem dX1_goOn_39 : decode cX1_goOn 39 = .ok (.aload_n 1, 1) := by decide +kernel
theorem dX1_goOn_40 : decode cX1_goOn 40 = .ok (.iconst 3, 1) := by decide +kernel
theorem dX1_goOn_41 : decode cX1_goOn 41 = .ok (.iconst 2, 1) := by decide +kernel
theorem dX1_goOn_42 : decode cX1_goOn 42 = .ok (.invokevirtual 137, 3) := by decide +kernel
theorem dX1_goOn_45 : decode cX1_goOn 45 = .ok (.return_, 1) := by decide +kernel
theorem dX2_init_0 : decode cX2_init 0 = .ok (.aload_n 0, 1) := by decide +kernel
theorem dX2_init_1 : decode cX2_init 1 = .ok (.invokespecial 3, 3) := by decide +kernel
theorem dX2_init_4 : decode cX2_init 4 = .ok (.aload_n 0, 1) := by decide +kernel
theorem dX2_init_5 : decode cX2_init 5 = .ok (.iconst 3, 1) := by decide +kernel
theorem dX2_init_6 : decode cX2_init 6 = .ok (.newarray .int, 2) := by decide +kernel
theorem dX2_init_8 : decode cX2_init 8 = .ok (.putfield 9, 3) := by decide +kernel
theorem dX2_init_11 : decode cX2_init 11 = .ok (.aload_n 0, 1) := by decide +kernel
theorem dX2_init_12 : decode cX2_init 12 = .ok (.iconst 3, 1) := by decide +kernel
theorem dX2_init_13 : decode cX2_init 13 = .ok (.newarray .int, 2) := by decide +kernel
theorem dX2_init_15 : decode cX2_init 15 = .ok (.putfield 15, 3) := by decide +kernel
theorem dX2_init_18 : decode cX2_init 18 = .ok (.return_, 1) := by decide +kernel
theorem dX2_put_0 : decode cX2_put 0 = .ok (.aload_n 0, 1) := by decide +kernel
theorem dX2_put_1 : decode cX2_put 1 = .ok (.getfield 18, 3) := by decide +kernel
theorem dX2_put_4 : decode cX2_put 4 = .ok (.ifCond .lt 11, 3) := by decide +kernel
theorem dX2_put_7 : decode cX2_put 7 = .ok (.aload_n 0, 1) := by decide +kernel
theorem dX2_put_8 : decode cX2_put 8 = .ok (.getfield 18, 3) := by decide +kernel
theorem dX2_put_11 : decode cX2_put 11 = .ok (.iconst 3, 1) := by decide +kernel
theorem dX2_put_12 : decode cX2_put 12 = .ok (.if_icmp .lt 5, 3) := by decide +kernel
theorem dX2_put_15 : decode cX2_put 15 = .ok (.iconst 0, 1) := by decide +kernel
theorem dX2_put_16 : decode cX2_put 16 = .ok (.ireturn, 1) := by decide +kernel
theorem dX2_put_17 : decode cX2_put 17 = .ok (.aload_n 0, 1) := by decide +kernel
theorem dX2_put_18 : decode cX2_put 18 = .ok (.getfield 9, 3) := by decide +kernel
theorem dX2_put_21 : decode cX2_put 21 = .ok (.aload_n 0, 1) := by decide +kernel
theorem dX2_put_22 : decode cX2_put 22 = .ok (.getfield 18, 3) := by decide +kernel
theorem dX2_put_25 : decode cX2_put 25 = .ok (.iload_n 1, 1) := by decide +kernel
theorem dX2_put_26 : decode cX2_put 26 = .ok (.iastore, 1) := by decide +kernel
theorem dX2_put_27 : decode cX2_put 27 = .ok (.aload_n 0, 1) := by decide +kernel
theorem dX2_put_28 : decode cX2_put 28 = .ok (.getfield 15, 3) := by decide +kernel
theorem dX2_put_31 : decode cX2_put 31 = .ok (.aload_n 0, 1) := by decide +kernel
theorem dX2_put_32 : decode cX2_put 32 = .ok (.getfield 18, 3) := by decide +kernel
theorem dX2_put_35 : decode cX2_put 35 = .ok (.iload_n 2, 1) := by decide +kernel
theorem dX2_put_36 : decode cX2_put 36 = .ok (.iastore, 1) := by decide +kernel
theorem dX2_put_37 : decode cX2_put 37 = .ok (.aload_n 0, 1) := by decide +kernel
theorem dX2_put_38 : decode cX2_put 38 = .ok (.dup, 1) := by decide +kernel
theorem dX2_put_39 : decode cX2_put 39 = .ok (.getfield 18, 3) := by decide +kernel
theorem dX2_put_42 : decode cX2_put 42 = .ok (.iconst 1, 1) := by decide +kernel
theorem dX2_put_43 : decode cX2_put 43 = .ok (.iadd, 1) := by decide +kernel
theorem dX2_put_44 : decode cX2_put 44 = .ok (.putfield 18, 3) := by decide +kernel
theorem dX2_put_47 : decode cX2_put 47 = .ok (.iconst 1, 1) := by decide +kernel
theorem dX2_put_48 : decode cX2_put 48 = .ok (.ireturn, 1) := by decide +kernel
theorem dX2_covers_0 : decode cX2_covers 0 = .ok (.iconst 0, 1) := by decide +kernel
theorem dX2_covers_1 : decode cX2_covers 1 = .ok (.istore_n 2, 1) := by decide +kernel
theorem dX2_covers_2 : decode cX2_covers 2 = .ok (.iload_n 2, 1) := by decide +kernel
theorem dX2_covers_3 : decode cX2_covers 3 = .ok (.aload_n 0, 1) := by decide +kernel
theorem dX2_covers_4 : decode cX2_covers 4 = .ok (.getfield 18, 3) := by decide +kernel
theorem dX2_covers_7 : decode cX2_covers 7 = .ok (.if_icmp .ge 36, 3) := by decide +kernel
theorem dX2_covers_10 : decode cX2_covers 10 = .ok (.iload_n 2, 1) := by decide +kernel
theorem dX2_covers_11 : decode cX2_covers 11 = .ok (.iconst 3, 1) := by decide +kernel
theorem dX2_covers_12 : decode cX2_covers 12 = .ok (.if_icmp .ge 31, 3) := by decide +kernel
theorem dX2_covers_15 : decode cX2_covers 15 = .ok (.iload_n 1, 1) := by decide +kernel
theorem dX2_covers_16 : decode cX2_covers 16 = .ok (.aload_n 0, 1) := by decide +kernel
theorem dX2_covers_17 : decode cX2_covers 17 = .ok (.getfield 9, 3) := by decide +kernel
theorem dX2_covers_20 : decode cX2_covers 20 = .ok (.iload_n 2, 1) := by decide +kernel
theorem dX2_covers_21 : decode cX2_covers 21 = .ok (.iaload, 1) := by decide +kernel
theorem dX2_covers_22 : decode cX2_covers 22 = .ok (.if_icmp .lt 15, 3) := by decide +kernel
theorem dX2_covers_25 : decode cX2_covers 25 = .ok (.iload_n 1, 1) := by decide +kernel
theorem dX2_covers_26 : decode cX2_covers 26 = .ok (.aload_n 0, 1) := by decide +kernel
theorem dX2_covers_27 : decode cX2_covers 27 = .ok (.getfield 15, 3) := by decide +kernel
theorem dX2_covers_30 : decode cX2_covers 30 = .ok (.iload_n 2, 1) := by decide +kernel
theorem dX2_covers_31 : decode cX2_covers 31 = .ok (.iaload, 1) := by decide +kernel
theorem dX2_covers_32 : decode cX2_covers 32 = .ok (.if_icmp .ge 5, 3) := by decide +kernel
theorem dX2_covers_35 : decode cX2_covers 35 = .ok (.iconst 1, 1) := by decide +kernel
theorem dX2_covers_36 : decode cX2_covers 36 = .ok (.ireturn, 1) := by decide +kernel
theorem dX2_covers_37 : decode cX2_covers 37 = .ok (.iinc 2 1, 3) := by decide +kernel
theorem dX2_covers_40 : decode cX2_covers 40 = .ok (.goto (-38), 3) := by decide +kernel
theorem dX2_covers_43 : decode cX2_covers 43 = .ok (.iconst 0, 1) := by decide +kernel
theorem dX2_covers_44 : decode cX2_covers 44 = .ok (.ireturn, 1) := by decide +kernel
theorem dX2_copyFrom_0 : decode cX2_copyFrom 0 = .ok (.aload_n 0, 1) := by decide +kernel
theorem dX2_copyFrom_1 : decode cX2_copyFrom 1 = .ok (.aload_n 1, 1) := by decide +kernel
theorem dX2_copyFrom_2 : decode cX2_copyFrom 2 = .ok (.getfield 18, 3) := by decide +kernel
theorem dX2_copyFrom_5 : decode cX2_copyFrom 5 = .ok (.putfield 18, 3) := by decide +kernel
theorem dX2_copyFrom_8 : decode cX2_copyFrom 8 = .ok (.aload_n 1, 1) := by decide +kernel
theorem dX2_copyFrom_9 : decode cX2_copyFrom 9 = .ok (.getfield 9, 3) := by decide +kernel
theorem dX2_copyFrom_12 : decode cX2_copyFrom 12 = .ok (.iconst 0, 1) := by decide +kernel
theorem dX2_copyFrom_13 : decode cX2_copyFrom 13 = .ok (.aload_n 0, 1) := by decide +kernel
theorem dX2_copyFrom_14 : decode cX2_copyFrom 14 = .ok (.getfield 9, 3) := by decide +kernel
theorem dX2_copyFrom_17 : decode cX2_copyFrom 17 = .ok (.iconst 0, 1) := by decide +kernel
theorem dX2_copyFrom_18 : decode cX2_copyFrom 18 = .ok (.iconst 3, 1) := by decide +kernel
theorem dX2_copyFrom_19 : decode cX2_copyFrom 19 = .ok (.invokestatic 22, 3) := by decide +kernel
theorem dX2_copyFrom_22 : decode cX2_copyFrom 22 = .ok (.aload_n 1, 1) := by decide +kernel
theorem dX2_copyFrom_23 : decode cX2_copyFrom 23 = .ok (.getfield 15, 3) := by decide +kernel
theorem dX2_copyFrom_26 : decode cX2_copyFrom 26 = .ok (.iconst 0, 1) := by decide +kernel
theorem dX2_copyFrom_27 : decode cX2_copyFrom 27 = .ok (.aload_n 0, 1) := by decide +kernel
theorem dX2_copyFrom_28 : decode cX2_copyFrom 28 = .ok (.getfield 15, 3) := by decide +kernel
theorem dX2_copyFrom_31 : decode cX2_copyFrom 31 = .ok (.iconst 0, 1) := by decide +kernel
theorem dX2_copyFrom_32 : decode cX2_copyFrom 32 = .ok (.iconst 3, 1) := by decide +kernel
theorem dX2_copyFrom_33 : decode cX2_copyFrom 33 = .ok (.invokestatic 22, 3) := by decide +kernel
theorem dX2_copyFrom_36 : decode cX2_copyFrom 36 = .ok (.return_, 1) := by decide +kernel
theorem dX3_init_0 : decode cX3_init 0 = .ok (.aload_n 0, 1) := by decide +kernel
theorem dX3_init_1 : decode cX3_init 1 = .ok (.invokespecial 3, 3) := by decide +kernel
theorem dX3_init_4 : decode cX3_init 4 = .ok (.aload_n 0, 1) := by decide +kernel
theorem dX3_init_5 : decode cX3_init 5 = .ok (.bipush 80, 2) := by decide +kernel
theorem dX3_init_7 : decode cX3_init 7 = .ok (.newarray .int, 2) := by decide +kernel
theorem dX3_init_9 : decode cX3_init 9 = .ok (.putfield 9, 3) := by decide +kernel
theorem dX3_init_12 : decode cX3_init 12 = .ok (.return_, 1) := by decide +kernel
theorem dX3_empty_0 : decode cX3_empty 0 = .ok (.aload_n 0, 1) := by decide +kernel
theorem dX3_empty_1 : decode cX3_empty 1 = .ok (.iconst 0, 1) := by decide +kernel
theorem dX3_empty_2 : decode cX3_empty 2 = .ok (.putfield 15, 3) := by decide +kernel
theorem dX3_empty_5 : decode cX3_empty 5 = .ok (.aload_n 0, 1) := by decide +kernel
theorem dX3_empty_6 : decode cX3_empty 6 = .ok (.iconst 0, 1) := by decide +kernel
theorem dX3_empty_7 : decode cX3_empty 7 = .ok (.putfield 19, 3) := by decide +kernel
theorem dX3_empty_10 : decode cX3_empty 10 = .ok (.return_, 1) := by decide +kernel
theorem dX3_put_0 : decode cX3_put 0 = .ok (.aload_n 0, 1) := by decide +kernel
theorem dX3_put_1 : decode cX3_put 1 = .ok (.getfield 19, 3) := by decide +kernel
theorem dX3_put_4 : decode cX3_put 4 = .ok (.bipush 20, 2) := by decide +kernel
theorem dX3_put_6 : decode cX3_put 6 = .ok (.if_icmp .lt 22, 3) := by decide +kernel
theorem dX3_put_9 : decode cX3_put 9 = .ok (.aload_n 0, 1) := by decide +kernel
theorem dX3_put_10 : decode cX3_put 10 = .ok (.aload_n 0, 1) := by decide +kernel
theorem dX3_put_11 : decode cX3_put 11 = .ok (.getfield 15, 3) := by decide +kernel
theorem dX3_put_14 : decode cX3_put 14 = .ok (.iconst 1, 1) := by decide +kernel
theorem dX3_put_15 : decode cX3_put 15 = .ok (.iadd, 1) := by decide +kernel
theorem dX3_put_16 : decode cX3_put 16 = .ok (.bipush 20, 2) := by decide +kernel
theorem dX3_put_18 : decode cX3_put 18 = .ok (.irem, 1) := by decide +kernel
theorem dX3_put_19 : decode cX3_put 19 = .ok (.putfield 15, 3) := by decide +kernel
theorem dX3_put_22 : decode cX3_put 22 = .ok (.aload_n 0, 1) := by decide +kernel
theorem dX3_put_23 : decode cX3_put 23 = .ok (.bipush 19, 2) := by decide +kernel
theorem dX3_put_25 : decode cX3_put 25 = .ok (.putfield 19, 3) := by decide +kernel
theorem dX3_put_28 : decode cX3_put 28 = .ok (.aload_n 0, 1) := by decide +kernel
theorem dX3_put_29 : decode cX3_put 29 = .ok (.aload_n 0, 1) := by decide +kernel
theorem dX3_put_30 : decode cX3_put 30 = .ok (.getfield 19, 3) := by decide +kernel
theorem dX3_put_33 : decode cX3_put 33 = .ok (.iconst 0, 1) := by decide +kernel
theorem dX3_put_34 : decode cX3_put 34 = .ok (.invokevirtual 22, 3) := by decide +kernel
theorem dX3_put_37 : decode cX3_put 37 = .ok (.istore 5, 2) := by decide +kernel
theorem dX3_put_39 : decode cX3_put 39 = .ok (.aload_n 0, 1) := by decide +kernel
theorem dX3_put_40 : decode cX3_put 40 = .ok (.dup, 1) := by decide +kernel
theorem dX3_put_41 : decode cX3_put 41 = .ok (.getfield 19, 3) := by decide +kernel
theorem dX3_put_44 : decode cX3_put 44 = .ok (.iconst 1, 1) := by decide +kernel
theorem dX3_put_45 : decode cX3_put 45 = .ok (.iadd, 1) := by decide +kernel
theorem dX3_put_46 : decode cX3_put 46 = .ok (.putfield 19, 3) := by decide +kernel
theorem dX3_put_49 : decode cX3_put 49 = .ok (.aload_n 0, 1) := by decide +kernel
theorem dX3_put_50 : decode cX3_put 50 = .ok (.dup, 1) := by decide +kernel
theorem dX3_put_51 : decode cX3_put 51 = .ok (.getfield 26, 3) := by decide +kernel
theorem dX3_put_54 : decode cX3_put 54 = .ok (.iconst 1, 1) := by decide +kernel
theorem dX3_put_55 : decode cX3_put 55 = .ok (.iadd, 1) := by decide +kernel
theorem dX3_put_56 : decode cX3_put 56 = .ok (.putfield 26, 3) := by decide +kernel
theorem dX3_put_59 : decode cX3_put 59 = .ok (.iload 5, 2) := by decide +kernel
theorem dX3_put_61 : decode cX3_put 61 = .ok (.iconst 0, 1) := by decide +kernel
theorem dX3_put_62 : decode cX3_put 62 = .ok (.aload_n 0, 1) := by decide +kernel
theorem dX3_put_63 : decode cX3_put 63 = .ok (.getfield 9, 3) := by decide +kernel
theorem dX3_put_66 : decode cX3_put 66 = .ok (.arraylength, 1) := by decide +kernel
theorem dX3_put_67 : decode cX3_put 67 = .ok (.iconst 4, 1) := by decide +kernel
theorem dX3_put_68 : decode cX3_put 68 = .ok (.isub, 1) := by decide +kernel
theorem dX3_put_69 : decode cX3_put 69 = .ok (.invokestatic 29, 3) := by decide +kernel
theorem dX3_put_72 : decode cX3_put 72 = .ok (.ifCond .eq 44, 3) := by decide +kernel
theorem dX3_put_75 : decode cX3_put 75 = .ok (.aload_n 0, 1) := by decide +kernel
theorem dX3_put_76 : decode cX3_put 76 = .ok (.getfield 9, 3) := by decide +kernel
theorem dX3_put_79 : decode cX3_put 79 = .ok (.iload 5, 2) := by decide +kernel
theorem dX3_put_81 : decode cX3_put 81 = .ok (.iconst 0, 1) := by decide +kernel
theorem dX3_put_82 : decode cX3_put 82 = .ok (.iadd, 1) := by decide +kernel
theorem dX3_put_83 : decode cX3_put 83 = .ok (.iload_n 1, 1) := by decide +kernel
theorem dX3_put_84 : decode cX3_put 84 = .ok (.iastore, 1) := by decide +kernel
theorem dX3_put_85 : decode cX3_put 85 = .ok (.aload_n 0, 1) := by decide +kernel
theorem dX3_put_86 : decode cX3_put 86 = .ok (.getfield 9, 3) := by decide +kernel
theorem dX3_put_89 : decode cX3_put 89 = .ok (.iload 5, 2) := by decide +kernel
theorem dX3_put_91 : decode cX3_put 91 = .ok (.iconst 1, 1) := by decide +kernel
theorem dX3_put_92 : decode cX3_put 92 = .ok (.iadd, 1) := by decide +kernel
theorem dX3_put_93 : decode cX3_put 93 = .ok (.iload_n 2, 1) := by decide +kernel
theorem dX3_put_94 : decode cX3_put 94 = .ok (.iastore, 1) := by decide +kernel
theorem dX3_put_95 : decode cX3_put 95 = .ok (.aload_n 0, 1) := by decide +kernel
theorem dX3_put_96 : decode cX3_put 96 = .ok (.getfield 9, 3) := by decide +kernel
theorem dX3_put_99 : decode cX3_put 99 = .ok (.iload 5, 2) := by decide +kernel
theorem dX3_put_101 : decode cX3_put 101 = .ok (.iconst 2, 1) := by decide +kernel
theorem dX3_put_102 : decode cX3_put 102 = .ok (.iadd, 1) := by decide +kernel
theorem dX3_put_103 : decode cX3_put 103 = .ok (.iload_n 3, 1) := by decide +kernel
theorem dX3_put_104 : decode cX3_put 104 = .ok (.iastore, 1) := by decide +kernel
theorem dX3_put_105 : decode cX3_put 105 = .ok (.aload_n 0, 1) := by decide +kernel
theorem dX3_put_106 : decode cX3_put 106 = .ok (.getfield 9, 3) := by decide +kernel
theorem dX3_put_109 : decode cX3_put 109 = .ok (.iload 5, 2) := by decide +kernel
theorem dX3_put_111 : decode cX3_put 111 = .ok (.iconst 3, 1) := by decide +kernel
theorem dX3_put_112 : decode cX3_put 112 = .ok (.iadd, 1) := by decide +kernel
theorem dX3_put_113 : decode cX3_put 113 = .ok (.iload 4, 2) := by decide +kernel
theorem dX3_put_115 : decode cX3_put 115 = .ok (.iastore, 1) := by decide +kernel
theorem dX3_put_116 : decode cX3_put 116 = .ok (.return_, 1) := by decide +kernel
theorem dX3_number_0 : decode cX3_number 0 = .ok (.aload_n 0, 1) := by decide +kernel
theorem dX3_number_1 : decode cX3_number 1 = .ok (.iload_n 1, 1) := by decide +kernel
theorem dX3_number_2 : decode cX3_number 2 = .ok (.iload_n 2, 1) := by decide +kernel
theorem dX3_number_3 : decode cX3_number 3 = .ok (.invokevirtual 22, 3) := by decide +kernel
theorem dX3_number_6 : decode cX3_number 6 = .ok (.istore_n 3, 1) := by decide +kernel
theorem dX3_number_7 : decode cX3_number 7 = .ok (.iload_n 3, 1) := by decide +kernel
theorem dX3_number_8 : decode cX3_number 8 = .ok (.iconst 0, 1) := by decide +kernel
theorem dX3_number_9 : decode cX3_number 9 = .ok (.aload_n 0, 1) := by decide +kernel
theorem dX3_number_10 : decode cX3_number 10 = .ok (.getfield 9, 3) := by decide +kernel
theorem dX3_number_13 : decode cX3_number 13 = .ok (.arraylength, 1) := by decide +kernel
theorem dX3_number_14 : decode cX3_number 14 = .ok (.iconst 1, 1) := by decide +kernel
theorem dX3_number_15 : decode cX3_number 15 = .ok (.isub, 1) := by decide +kernel
theorem dX3_number_16 : decode cX3_number 16 = .ok (.invokestatic 29, 3) := by decide +kernel
theorem dX3_number_19 : decode cX3_number 19 = .ok (.ifCond .eq 12, 3) := by decide +kernel
theorem dX3_number_22 : decode cX3_number 22 = .ok (.aload_n 0, 1) := by decide +kernel
theorem dX3_number_23 : decode cX3_number 23 = .ok (.getfield 9, 3) := by decide +kernel
theorem dX3_number_26 : decode cX3_number 26 = .ok (.iload_n 3, 1) := by decide +kernel
theorem dX3_number_27 : decode cX3_number 27 = .ok (.iaload, 1) := by decide +kernel
theorem dX3_number_28 : decode cX3_number 28 = .ok (.goto 4, 3) := by decide +kernel
theorem dX3_number_31 : decode cX3_number 31 = .ok (.iconst 0, 1) := by decide +kernel
theorem dX3_number_32 : decode cX3_number 32 = .ok (.ireturn, 1) := by decide +kernel
theorem dX3_placeOf_0 : decode cX3_placeOf 0 = .ok (.aload_n 0, 1) := by decide +kernel
theorem dX3_placeOf_1 : decode cX3_placeOf 1 = .ok (.getfield 15, 3) := by decide +kernel
theorem dX3_placeOf_4 : decode cX3_placeOf 4 = .ok (.iload_n 1, 1) := by decide +kernel
theorem dX3_placeOf_5 : decode cX3_placeOf 5 = .ok (.iadd, 1) := by decide +kernel
theorem dX3_placeOf_6 : decode cX3_placeOf 6 = .ok (.bipush 20, 2) := by decide +kernel
theorem dX3_placeOf_8 : decode cX3_placeOf 8 = .ok (.irem, 1) := by decide +kernel
theorem dX3_placeOf_9 : decode cX3_placeOf 9 = .ok (.iconst 4, 1) := by decide +kernel
theorem dX3_placeOf_10 : decode cX3_placeOf 10 = .ok (.imul, 1) := by decide +kernel
theorem dX3_placeOf_11 : decode cX3_placeOf 11 = .ok (.iload_n 2, 1) := by decide +kernel
theorem dX3_placeOf_12 : decode cX3_placeOf 12 = .ok (.iadd, 1) := by decide +kernel
theorem dX3_placeOf_13 : decode cX3_placeOf 13 = .ok (.ireturn, 1) := by decide +kernel
theorem dX3_countOf_0 : decode cX3_countOf 0 = .ok (.iconst 0, 1) := by decide +kernel
theorem dX3_countOf_1 : decode cX3_countOf 1 = .ok (.istore_n 3, 1) := by decide +kernel
theorem dX3_countOf_2 : decode cX3_countOf 2 = .ok (.iconst 0, 1) := by decide +kernel
theorem dX3_countOf_3 : decode cX3_countOf 3 = .ok (.istore 4, 2) := by decide +kernel
theorem dX3_countOf_5 : decode cX3_countOf 5 = .ok (.iload 4, 2) := by decide +kernel
theorem dX3_countOf_7 : decode cX3_countOf 7 = .ok (.aload_n 0, 1) := by decide +kernel
theorem dX3_countOf_8 : decode cX3_countOf 8 = .ok (.getfield 19, 3) := by decide +kernel
theorem dX3_countOf_11 : decode cX3_countOf 11 = .ok (.if_icmp .ge 58, 3) := by decide +kernel
theorem dX3_countOf_14 : decode cX3_countOf 14 = .ok (.iload 4, 2) := by decide +kernel
theorem dX3_countOf_16 : decode cX3_countOf 16 = .ok (.bipush 20, 2) := by decide +kernel
theorem dX3_countOf_18 : decode cX3_countOf 18 = .ok (.if_icmp .ge 51, 3) := by decide +kernel
theorem dX3_countOf_21 : decode cX3_countOf 21 = .ok (.iload_n 2, 1) := by decide +kernel
theorem dX3_countOf_22 : decode cX3_countOf 22 = .ok (.iconst (-1), 1) := by decide +kernel
theorem dX3_countOf_23 : decode cX3_countOf 23 = .ok (.if_icmp .eq 14, 3) := by decide +kernel
theorem dX3_countOf_26 : decode cX3_countOf 26 = .ok (.aload_n 0, 1) := by decide +kernel
theorem dX3_countOf_27 : decode cX3_countOf 27 = .ok (.iload 4, 2) := by decide +kernel
theorem dX3_countOf_29 : decode cX3_countOf 29 = .ok (.iconst 1, 1) := by decide +kernel
theorem dX3_countOf_30 : decode cX3_countOf 30 = .ok (.invokevirtual 33, 3) := by decide +kernel
theorem dX3_countOf_33 : decode cX3_countOf 33 = .ok (.iload_n 2, 1) := by decide +kernel
theorem dX3_countOf_34 : decode cX3_countOf 34 = .ok (.if_icmp .ne 7, 3) := by decide +kernel
theorem dX3_countOf_37 : decode cX3_countOf 37 = .ok (.iconst 1, 1) := by decide +kernel
theorem dX3_countOf_38 : decode cX3_countOf 38 = .ok (.goto 4, 3) := by decide +kernel
theorem dX3_countOf_41 : decode cX3_countOf 41 = .ok (.iconst 0, 1) := by decide +kernel
theorem dX3_countOf_42 : decode cX3_countOf 42 = .ok (.istore 5, 2) := by decide +kernel
theorem dX3_countOf_44 : decode cX3_countOf 44 = .ok (.iload 5, 2) := by decide +kernel
theorem dX3_countOf_46 : decode cX3_countOf 46 = .ok (.ifCond .eq 17, 3) := by decide +kernel
theorem dX3_countOf_49 : decode cX3_countOf 49 = .ok (.aload_n 0, 1) := by decide +kernel
theorem dX3_countOf_50 : decode cX3_countOf 50 = .ok (.iload 4, 2) := by decide +kernel
theorem dX3_countOf_52 : decode cX3_countOf 52 = .ok (.iconst 2, 1) := by decide +kernel
theorem dX3_countOf_53 : decode cX3_countOf 53 = .ok (.invokevirtual 33, 3) := by decide +kernel
theorem dX3_countOf_56 : decode cX3_countOf 56 = .ok (.iload_n 1, 1) := by decide +kernel
theorem dX3_countOf_57 : decode cX3_countOf 57 = .ok (.if_icmp .ne 6, 3) := by decide +kernel
theorem dX3_countOf_60 : decode cX3_countOf 60 = .ok (.iinc 3 1, 3) := by decide +kernel
theorem dX3_countOf_63 : decode cX3_countOf 63 = .ok (.iinc 4 1, 3) := by decide +kernel
theorem dX3_countOf_66 : decode cX3_countOf 66 = .ok (.goto (-61), 3) := by decide +kernel
theorem dX3_countOf_69 : decode cX3_countOf 69 = .ok (.iload_n 3, 1) := by decide +kernel
theorem dX3_countOf_70 : decode cX3_countOf 70 = .ok (.ireturn, 1) := by decide +kernel
theorem dX3_copyFrom_0 : decode cX3_copyFrom 0 = .ok (.aload_n 0, 1) := by decide +kernel
theorem dX3_copyFrom_1 : decode cX3_copyFrom 1 = .ok (.aload_n 1, 1) := by decide +kernel
theorem dX3_copyFrom_2 : decode cX3_copyFrom 2 = .ok (.getfield 15, 3) := by decide +kernel
theorem dX3_copyFrom_5 : decode cX3_copyFrom 5 = .ok (.putfield 15, 3) := by decide +kernel
theorem dX3_copyFrom_8 : decode cX3_copyFrom 8 = .ok (.aload_n 0, 1) := by decide +kernel
theorem dX3_copyFrom_9 : decode cX3_copyFrom 9 = .ok (.aload_n 1, 1) := by decide +kernel
theorem dX3_copyFrom_10 : decode cX3_copyFrom 10 = .ok (.getfield 19, 3) := by decide +kernel
theorem dX3_copyFrom_13 : decode cX3_copyFrom 13 = .ok (.putfield 19, 3) := by decide +kernel
theorem dX3_copyFrom_16 : decode cX3_copyFrom 16 = .ok (.aload_n 1, 1) := by decide +kernel
theorem dX3_copyFrom_17 : decode cX3_copyFrom 17 = .ok (.getfield 9, 3) := by decide +kernel
theorem dX3_copyFrom_20 : decode cX3_copyFrom 20 = .ok (.iconst 0, 1) := by decide +kernel
theorem dX3_copyFrom_21 : decode cX3_copyFrom 21 = .ok (.aload_n 0, 1) := by decide +kernel
theorem dX3_copyFrom_22 : decode cX3_copyFrom 22 = .ok (.getfield 9, 3) := by decide +kernel
theorem dX3_copyFrom_25 : decode cX3_copyFrom 25 = .ok (.iconst 0, 1) := by decide +kernel
theorem dX3_copyFrom_26 : decode cX3_copyFrom 26 = .ok (.bipush 80, 2) := by decide +kernel
theorem dX3_copyFrom_28 : decode cX3_copyFrom 28 = .ok (.invokestatic 36, 3) := by decide +kernel
theorem dX3_copyFrom_31 : decode cX3_copyFrom 31 = .ok (.return_, 1) := by decide +kernel
theorem dX4_init_0 : decode cX4_init 0 = .ok (.aload_n 0, 1) := by decide +kernel
theorem dX4_init_1 : decode cX4_init 1 = .ok (.invokespecial 3, 3) := by decide +kernel
theorem dX4_init_4 : decode cX4_init 4 = .ok (.aload_n 0, 1) := by decide +kernel
theorem dX4_init_5 : decode cX4_init 5 = .ok (.bipush 18, 2) := by decide +kernel
theorem dX4_init_7 : decode cX4_init 7 = .ok (.newarray .int, 2) := by decide +kernel
theorem dX4_init_9 : decode cX4_init 9 = .ok (.putfield 9, 3) := by decide +kernel
theorem dX4_init_12 : decode cX4_init 12 = .ok (.return_, 1) := by decide +kernel
theorem dX4_put_0 : decode cX4_put 0 = .ok (.aload_n 0, 1) := by decide +kernel
theorem dX4_put_1 : decode cX4_put 1 = .ok (.getfield 15, 3) := by decide +kernel
theorem dX4_put_4 : decode cX4_put 4 = .ok (.ifCond .lt 12, 3) := by decide +kernel
theorem dX4_put_7 : decode cX4_put 7 = .ok (.aload_n 0, 1) := by decide +kernel
theorem dX4_put_8 : decode cX4_put 8 = .ok (.getfield 15, 3) := by decide +kernel
theorem dX4_put_11 : decode cX4_put 11 = .ok (.bipush 6, 2) := by decide +kernel
theorem dX4_put_13 : decode cX4_put 13 = .ok (.if_icmp .lt 5, 3) := by decide +kernel
theorem dX4_put_16 : decode cX4_put 16 = .ok (.iconst 0, 1) := by decide +kernel
theorem dX4_put_17 : decode cX4_put 17 = .ok (.ireturn, 1) := by decide +kernel
theorem dX4_put_18 : decode cX4_put 18 = .ok (.aload_n 0, 1) := by decide +kernel
theorem dX4_put_19 : decode cX4_put 19 = .ok (.getfield 15, 3) := by decide +kernel
theorem dX4_put_22 : decode cX4_put 22 = .ok (.iconst 3, 1) := by decide +kernel
theorem dX4_put_23 : decode cX4_put 23 = .ok (.imul, 1) := by decide +kernel
theorem dX4_put_24 : decode cX4_put 24 = .ok (.istore 4, 2) := by decide +kernel
theorem dX4_put_26 : decode cX4_put 26 = .ok (.aload_n 0, 1) := by decide +kernel
theorem dX4_put_27 : decode cX4_put 27 = .ok (.getfield 9, 3) := by decide +kernel
theorem dX4_put_30 : decode cX4_put 30 = .ok (.iload 4, 2) := by decide +kernel
theorem dX4_put_32 : decode cX4_put 32 = .ok (.iconst 0, 1) := by decide +kernel
theorem dX4_put_33 : decode cX4_put 33 = .ok (.iadd, 1) := by decide +kernel
theorem dX4_put_34 : decode cX4_put 34 = .ok (.iload_n 1, 1) := by decide +kernel
theorem dX4_put_35 : decode cX4_put 35 = .ok (.iastore, 1) := by decide +kernel
theorem dX4_put_36 : decode cX4_put 36 = .ok (.aload_n 0, 1) := by decide +kernel
theorem dX4_put_37 : decode cX4_put 37 = .ok (.getfield 9, 3) := by decide +kernel
theorem dX4_put_40 : decode cX4_put 40 = .ok (.iload 4, 2) := by decide +kernel
theorem dX4_put_42 : decode cX4_put 42 = .ok (.iconst 1, 1) := by decide +kernel
theorem dX4_put_43 : decode cX4_put 43 = .ok (.iadd, 1) := by decide +kernel
theorem dX4_put_44 : decode cX4_put 44 = .ok (.iload_n 2, 1) := by decide +kernel
theorem dX4_put_45 : decode cX4_put 45 = .ok (.iastore, 1) := by decide +kernel
theorem dX4_put_46 : decode cX4_put 46 = .ok (.aload_n 0, 1) := by decide +kernel
theorem dX4_put_47 : decode cX4_put 47 = .ok (.getfield 9, 3) := by decide +kernel
theorem dX4_put_50 : decode cX4_put 50 = .ok (.iload 4, 2) := by decide +kernel
theorem dX4_put_52 : decode cX4_put 52 = .ok (.iconst 2, 1) := by decide +kernel
theorem dX4_put_53 : decode cX4_put 53 = .ok (.iadd, 1) := by decide +kernel
theorem dX4_put_54 : decode cX4_put 54 = .ok (.iload_n 3, 1) := by decide +kernel
theorem dX4_put_55 : decode cX4_put 55 = .ok (.iastore, 1) := by decide +kernel
theorem dX4_put_56 : decode cX4_put 56 = .ok (.aload_n 0, 1) := by decide +kernel
theorem dX4_put_57 : decode cX4_put 57 = .ok (.dup, 1) := by decide +kernel
theorem dX4_put_58 : decode cX4_put 58 = .ok (.getfield 15, 3) := by decide +kernel
theorem dX4_put_61 : decode cX4_put 61 = .ok (.iconst 1, 1) := by decide +kernel
theorem dX4_put_62 : decode cX4_put 62 = .ok (.iadd, 1) := by decide +kernel
theorem dX4_put_63 : decode cX4_put 63 = .ok (.putfield 15, 3) := by decide +kernel
theorem dX4_put_66 : decode cX4_put 66 = .ok (.iconst 1, 1) := by decide +kernel
theorem dX4_put_67 : decode cX4_put 67 = .ok (.ireturn, 1) := by decide +kernel
theorem dX4_number_0 : decode cX4_number 0 = .ok (.iload_n 1, 1) := by decide +kernel
theorem dX4_number_1 : decode cX4_number 1 = .ok (.iconst 0, 1) := by decide +kernel
theorem dX4_number_2 : decode cX4_number 2 = .ok (.aload_n 0, 1) := by decide +kernel
theorem dX4_number_3 : decode cX4_number 3 = .ok (.getfield 15, 3) := by decide +kernel
theorem dX4_number_6 : decode cX4_number 6 = .ok (.iconst 1, 1) := by decide +kernel
theorem dX4_number_7 : decode cX4_number 7 = .ok (.isub, 1) := by decide +kernel
theorem dX4_number_8 : decode cX4_number 8 = .ok (.invokestatic 19, 3) := by decide +kernel
theorem dX4_number_11 : decode cX4_number 11 = .ok (.ifCond .eq 16, 3) := by decide +kernel
theorem dX4_number_14 : decode cX4_number 14 = .ok (.iload_n 2, 1) := by decide +kernel
theorem dX4_number_15 : decode cX4_number 15 = .ok (.iconst 0, 1) := by decide +kernel
theorem dX4_number_16 : decode cX4_number 16 = .ok (.iconst 2, 1) := by decide +kernel
theorem dX4_number_17 : decode cX4_number 17 = .ok (.invokestatic 19, 3) := by decide +kernel
theorem dX4_number_20 : decode cX4_number 20 = .ok (.ifCond .eq 7, 3) := by decide +kernel
theorem dX4_number_23 : decode cX4_number 23 = .ok (.iconst 1, 1) := by decide +kernel
theorem dX4_number_24 : decode cX4_number 24 = .ok (.goto 4, 3) := by decide +kernel
theorem dX4_number_27 : decode cX4_number 27 = .ok (.iconst 0, 1) := by decide +kernel
theorem dX4_number_28 : decode cX4_number 28 = .ok (.istore_n 3, 1) := by decide +kernel
theorem dX4_number_29 : decode cX4_number 29 = .ok (.iload_n 1, 1) := by decide +kernel
theorem dX4_number_30 : decode cX4_number 30 = .ok (.iconst 3, 1) := by decide +kernel
theorem dX4_number_31 : decode cX4_number 31 = .ok (.imul, 1) := by decide +kernel
theorem dX4_number_32 : decode cX4_number 32 = .ok (.iload_n 2, 1) := by decide +kernel
theorem dX4_number_33 : decode cX4_number 33 = .ok (.iadd, 1) := by decide +kernel
theorem dX4_number_34 : decode cX4_number 34 = .ok (.istore 4, 2) := by decide +kernel
theorem dX4_number_36 : decode cX4_number 36 = .ok (.iload_n 3, 1) := by decide +kernel
theorem dX4_number_37 : decode cX4_number 37 = .ok (.ifCond .eq 23, 3) := by decide +kernel
theorem dX4_number_40 : decode cX4_number 40 = .ok (.iload 4, 2) := by decide +kernel
theorem dX4_number_42 : decode cX4_number 42 = .ok (.aload_n 0, 1) := by decide +kernel
theorem dX4_number_43 : decode cX4_number 43 = .ok (.getfield 9, 3) := by decide +kernel
theorem dX4_number_46 : decode cX4_number 46 = .ok (.arraylength, 1) := by decide +kernel
theorem dX4_number_47 : decode cX4_number 47 = .ok (.if_icmp .ge 13, 3) := by decide +kernel
theorem dX4_number_50 : decode cX4_number 50 = .ok (.aload_n 0, 1) := by decide +kernel
theorem dX4_number_51 : decode cX4_number 51 = .ok (.getfield 9, 3) := by decide +kernel
theorem dX4_number_54 : decode cX4_number 54 = .ok (.iload 4, 2) := by decide +kernel
theorem dX4_number_56 : decode cX4_number 56 = .ok (.iaload, 1) := by decide +kernel
theorem dX4_number_57 : decode cX4_number 57 = .ok (.goto 4, 3) := by decide +kernel
theorem dX4_number_60 : decode cX4_number 60 = .ok (.iconst 0, 1) := by decide +kernel
theorem dX4_number_61 : decode cX4_number 61 = .ok (.ireturn, 1) := by decide +kernel
theorem dX4_cellsOfFirst_0 : decode cX4_cellsOfFirst 0 = .ok (.iconst 0, 1) := by decide +kernel
theorem dX4_cellsOfFirst_1 : decode cX4_cellsOfFirst 1 = .ok (.istore_n 2, 1) := by decide +kernel
theorem dX4_cellsOfFirst_2 : decode cX4_cellsOfFirst 2 = .ok (.iconst 0, 1) := by decide +kernel
theorem dX4_cellsOfFirst_3 : decode cX4_cellsOfFirst 3 = .ok (.istore_n 3, 1) := by decide +kernel
theorem dX4_cellsOfFirst_4 : decode cX4_cellsOfFirst 4 = .ok (.iload_n 3, 1) := by decide +kernel
theorem dX4_cellsOfFirst_5 : decode cX4_cellsOfFirst 5 = .ok (.iload_n 1, 1) := by decide +kernel
theorem dX4_cellsOfFirst_6 : decode cX4_cellsOfFirst 6 = .ok (.if_icmp .ge 36, 3) := by decide +kernel
theorem dX4_cellsOfFirst_9 : decode cX4_cellsOfFirst 9 = .ok (.iload_n 3, 1) := by decide +kernel
theorem dX4_cellsOfFirst_10 : decode cX4_cellsOfFirst 10 = .ok (.aload_n 0, 1) := by decide +kernel
theorem dX4_cellsOfFirst_11 : decode cX4_cellsOfFirst 11 = .ok (.getfield 15, 3) := by decide +kernel
theorem dX4_cellsOfFirst_14 : decode cX4_cellsOfFirst 14 = .ok (.if_icmp .ge 28, 3) := by decide +kernel
theorem dX4_cellsOfFirst_17 : decode cX4_cellsOfFirst 17 = .ok (.iload_n 3, 1) := by decide +kernel
theorem dX4_cellsOfFirst_18 : decode cX4_cellsOfFirst 18 = .ok (.bipush 6, 2) := by decide +kernel
theorem dX4_cellsOfFirst_20 : decode cX4_cellsOfFirst 20 = .ok (.if_icmp .ge 22, 3) := by decide +kernel
theorem dX4_cellsOfFirst_23 : decode cX4_cellsOfFirst 23 = .ok (.iload_n 2, 1) := by decide +kernel
theorem dX4_cellsOfFirst_24 : decode cX4_cellsOfFirst 24 = .ok (.aload_n 0, 1) := by decide +kernel
theorem dX4_cellsOfFirst_25 : decode cX4_cellsOfFirst 25 = .ok (.getfield 9, 3) := by decide +kernel
theorem dX4_cellsOfFirst_28 : decode cX4_cellsOfFirst 28 = .ok (.iload_n 3, 1) := by decide +kernel
theorem dX4_cellsOfFirst_29 : decode cX4_cellsOfFirst 29 = .ok (.iconst 3, 1) := by decide +kernel
theorem dX4_cellsOfFirst_30 : decode cX4_cellsOfFirst 30 = .ok (.imul, 1) := by decide +kernel
theorem dX4_cellsOfFirst_31 : decode cX4_cellsOfFirst 31 = .ok (.iconst 0, 1) := by decide +kernel
theorem dX4_cellsOfFirst_32 : decode cX4_cellsOfFirst 32 = .ok (.iadd, 1) := by decide +kernel
theorem dX4_cellsOfFirst_33 : decode cX4_cellsOfFirst 33 = .ok (.iaload, 1) := by decide +kernel
theorem dX4_cellsOfFirst_34 : decode cX4_cellsOfFirst 34 = .ok (.ior, 1) := by decide +kernel
theorem dX4_cellsOfFirst_35 : decode cX4_cellsOfFirst 35 = .ok (.istore_n 2, 1) := by decide +kernel
theorem dX4_cellsOfFirst_36 : decode cX4_cellsOfFirst 36 = .ok (.iinc 3 1, 3) := by decide +kernel
theorem dX4_cellsOfFirst_39 : decode cX4_cellsOfFirst 39 = .ok (.goto (-35), 3) := by decide +kernel
theorem dX4_cellsOfFirst_42 : decode cX4_cellsOfFirst 42 = .ok (.iload_n 2, 1) := by decide +kernel
theorem dX4_cellsOfFirst_43 : decode cX4_cellsOfFirst 43 = .ok (.ireturn, 1) := by decide +kernel
theorem dX4_copyFrom_0 : decode cX4_copyFrom 0 = .ok (.aload_n 0, 1) := by decide +kernel
theorem dX4_copyFrom_1 : decode cX4_copyFrom 1 = .ok (.aload_n 1, 1) := by decide +kernel
theorem dX4_copyFrom_2 : decode cX4_copyFrom 2 = .ok (.getfield 15, 3) := by decide +kernel
theorem dX4_copyFrom_5 : decode cX4_copyFrom 5 = .ok (.putfield 15, 3) := by decide +kernel
theorem dX4_copyFrom_8 : decode cX4_copyFrom 8 = .ok (.aload_n 1, 1) := by decide +kernel
theorem dX4_copyFrom_9 : decode cX4_copyFrom 9 = .ok (.getfield 9, 3) := by decide +kernel
theorem dX4_copyFrom_12 : decode cX4_copyFrom 12 = .ok (.iconst 0, 1) := by decide +kernel
theorem dX4_copyFrom_13 : decode cX4_copyFrom 13 = .ok (.aload_n 0, 1) := by decide +kernel
theorem dX4_copyFrom_14 : decode cX4_copyFrom 14 = .ok (.getfield 9, 3) := by decide +kernel
theorem dX4_copyFrom_17 : decode cX4_copyFrom 17 = .ok (.iconst 0, 1) := by decide +kernel
theorem dX4_copyFrom_18 : decode cX4_copyFrom 18 = .ok (.bipush 18, 2) := by decide +kernel
theorem dX4_copyFrom_20 : decode cX4_copyFrom 20 = .ok (.invokestatic 23, 3) := by decide +kernel
theorem dX4_copyFrom_23 : decode cX4_copyFrom 23 = .ok (.return_, 1) := by decide +kernel
theorem dX5_init_0 : decode cX5_init 0 = .ok (.aload_n 0, 1) := by decide +kernel
theorem dX5_init_1 : decode cX5_init 1 = .ok (.invokespecial 3, 3) := by decide +kernel
theorem dX5_init_4 : decode cX5_init 4 = .ok (.aload_n 0, 1) := by decide +kernel
theorem dX5_init_5 : decode cX5_init 5 = .ok (.bipush 60, 2) := by decide +kernel
theorem dX5_init_7 : decode cX5_init 7 = .ok (.newarray .byte, 2) := by decide +kernel
theorem dX5_init_9 : decode cX5_init 9 = .ok (.putfield 9, 3) := by decide +kernel
theorem dX5_init_12 : decode cX5_init 12 = .ok (.aload_n 0, 1) := by decide +kernel
theorem dX5_init_13 : decode cX5_init 13 = .ok (.new 15, 3) := by decide +kernel
theorem dX5_init_16 : decode cX5_init 16 = .ok (.dup, 1) := by decide +kernel
theorem dX5_init_17 : decode cX5_init 17 = .ok (.invokespecial 17, 3) := by decide +kernel
theorem dX5_init_20 : decode cX5_init 20 = .ok (.putfield 18, 3) := by decide +kernel
theorem dX5_init_23 : decode cX5_init 23 = .ok (.return_, 1) := by decide +kernel
theorem dX5_put_0 : decode cX5_put 0 = .ok (.aload_n 0, 1) := by decide +kernel
theorem dX5_put_1 : decode cX5_put 1 = .ok (.getfield 22, 3) := by decide +kernel
theorem dX5_put_4 : decode cX5_put 4 = .ok (.ifCond .lt 12, 3) := by decide +kernel
theorem dX5_put_7 : decode cX5_put 7 = .ok (.aload_n 0, 1) := by decide +kernel
theorem dX5_put_8 : decode cX5_put 8 = .ok (.getfield 22, 3) := by decide +kernel
theorem dX5_put_11 : decode cX5_put 11 = .ok (.bipush 60, 2) := by decide +kernel
theorem dX5_put_13 : decode cX5_put 13 = .ok (.if_icmp .lt 5, 3) := by decide +kernel
theorem dX5_put_16 : decode cX5_put 16 = .ok (.iconst 0, 1) := by decide +kernel
theorem dX5_put_17 : decode cX5_put 17 = .ok (.ireturn, 1) := by decide +kernel
theorem dX5_put_18 : decode cX5_put 18 = .ok (.aload_n 0, 1) := by decide +kernel
theorem dX5_put_19 : decode cX5_put 19 = .ok (.getfield 9, 3) := by decide +kernel
theorem dX5_put_22 : decode cX5_put 22 = .ok (.aload_n 0, 1) := by decide +kernel
theorem dX5_put_23 : decode cX5_put 23 = .ok (.getfield 22, 3) := by decide +kernel
theorem dX5_put_26 : decode cX5_put 26 = .ok (.iload_n 1, 1) := by decide +kernel
theorem dX5_put_27 : decode cX5_put 27 = .ok (.i2b, 1) := by decide +kernel
theorem dX5_put_28 : decode cX5_put 28 = .ok (.bastore, 1) := by decide +kernel
theorem dX5_put_29 : decode cX5_put 29 = .ok (.aload_n 0, 1) := by decide +kernel
theorem dX5_put_30 : decode cX5_put 30 = .ok (.dup, 1) := by decide +kernel
theorem dX5_put_31 : decode cX5_put 31 = .ok (.getfield 22, 3) := by decide +kernel
theorem dX5_put_34 : decode cX5_put 34 = .ok (.iconst 1, 1) := by decide +kernel
theorem dX5_put_35 : decode cX5_put 35 = .ok (.iadd, 1) := by decide +kernel
theorem dX5_put_36 : decode cX5_put 36 = .ok (.putfield 22, 3) := by decide +kernel
theorem dX5_put_39 : decode cX5_put 39 = .ok (.iconst 1, 1) := by decide +kernel
theorem dX5_put_40 : decode cX5_put 40 = .ok (.ireturn, 1) := by decide +kernel
theorem dX5_parse_0 : decode cX5_parse 0 = .ok (.aload_n 0, 1) := by decide +kernel
theorem dX5_parse_1 : decode cX5_parse 1 = .ok (.iconst 0, 1) := by decide +kernel
theorem dX5_parse_2 : decode cX5_parse 2 = .ok (.putfield 26, 3) := by decide +kernel
theorem dX5_parse_5 : decode cX5_parse 5 = .ok (.aload_n 0, 1) := by decide +kernel
theorem dX5_parse_6 : decode cX5_parse 6 = .ok (.getfield 18, 3) := by decide +kernel
theorem dX5_parse_9 : decode cX5_parse 9 = .ok (.iconst 0, 1) := by decide +kernel
theorem dX5_parse_10 : decode cX5_parse 10 = .ok (.putfield 29, 3) := by decide +kernel
theorem dX5_parse_13 : decode cX5_parse 13 = .ok (.iconst 0, 1) := by decide +kernel
theorem dX5_parse_14 : decode cX5_parse 14 = .ok (.istore_n 2, 1) := by decide +kernel
theorem dX5_parse_15 : decode cX5_parse 15 = .ok (.iload_n 2, 1) := by decide +kernel
theorem dX5_parse_16 : decode cX5_parse 16 = .ok (.bipush 6, 2) := by decide +kernel
theorem dX5_parse_18 : decode cX5_parse 18 = .ok (.if_icmp .ge 30, 3) := by decide +kernel
theorem dX5_parse_21 : decode cX5_parse 21 = .ok (.aload_n 0, 1) := by decide +kernel
theorem dX5_parse_22 : decode cX5_parse 22 = .ok (.getfield 26, 3) := by decide +kernel
theorem dX5_parse_25 : decode cX5_parse 25 = .ok (.aload_n 0, 1) := by decide +kernel
theorem dX5_parse_26 : decode cX5_parse 26 = .ok (.getfield 22, 3) := by decide +kernel
theorem dX5_parse_29 : decode cX5_parse 29 = .ok (.if_icmp .ge 19, 3) := by decide +kernel
theorem dX5_parse_32 : decode cX5_parse 32 = .ok (.aload_n 0, 1) := by decide +kernel
theorem dX5_parse_33 : decode cX5_parse 33 = .ok (.iload_n 1, 1) := by decide +kernel
theorem dX5_parse_34 : decode cX5_parse 34 = .ok (.invokevirtual 32, 3) := by decide +kernel
theorem dX5_parse_37 : decode cX5_parse 37 = .ok (.ifCond .ne 5, 3) := by decide +kernel
theorem dX5_parse_40 : decode cX5_parse 40 = .ok (.iconst 0, 1) := by decide +kernel
theorem dX5_parse_41 : decode cX5_parse 41 = .ok (.ireturn, 1) := by decide +kernel
theorem dX5_parse_42 : decode cX5_parse 42 = .ok (.iinc 2 1, 3) := by decide +kernel
theorem dX5_parse_45 : decode cX5_parse 45 = .ok (.goto (-30), 3) := by decide +kernel
theorem dX5_parse_48 : decode cX5_parse 48 = .ok (.aload_n 0, 1) := by decide +kernel
theorem dX5_parse_49 : decode cX5_parse 49 = .ok (.getfield 26, 3) := by decide +kernel
theorem dX5_parse_52 : decode cX5_parse 52 = .ok (.aload_n 0, 1) := by decide +kernel
theorem dX5_parse_53 : decode cX5_parse 53 = .ok (.getfield 22, 3) := by decide +kernel
theorem dX5_parse_56 : decode cX5_parse 56 = .ok (.if_icmp .lt 7, 3) := by decide +kernel
theorem dX5_parse_59 : decode cX5_parse 59 = .ok (.iconst 1, 1) := by decide +kernel
theorem dX5_parse_60 : decode cX5_parse 60 = .ok (.goto 4, 3) := by decide +kernel
theorem dX5_parse_63 : decode cX5_parse 63 = .ok (.iconst 0, 1) := by decide +kernel
theorem dX5_parse_64 : decode cX5_parse 64 = .ok (.ireturn, 1) := by decide +kernel
theorem dX5_parseStage_0 : decode cX5_parseStage 0 = .ok (.aload_n 0, 1) := by decide +kernel
theorem dX5_parseStage_1 : decode cX5_parseStage 1 = .ok (.iload_n 1, 1) := by decide +kernel
theorem dX5_parseStage_2 : decode cX5_parseStage 2 = .ok (.invokevirtual 36, 3) := by decide +kernel
theorem dX5_parseStage_5 : decode cX5_parseStage 5 = .ok (.istore_n 2, 1) := by decide +kernel
theorem dX5_parseStage_6 : decode cX5_parseStage 6 = .ok (.iload_n 2, 1) := by decide +kernel
theorem dX5_parseStage_7 : decode cX5_parseStage 7 = .ok (.ifCond .eq 12, 3) := by decide +kernel
theorem dX5_parseStage_10 : decode cX5_parseStage 10 = .ok (.aload_n 0, 1) := by decide +kernel
theorem dX5_parseStage_11 : decode cX5_parseStage 11 = .ok (.bipush 58, 2) := by decide +kernel
theorem dX5_parseStage_13 : decode cX5_parseStage 13 = .ok (.invokevirtual 40, 3) := by decide +kernel
theorem dX5_parseStage_16 : decode cX5_parseStage 16 = .ok (.ifCond .ne 5, 3) := by decide +kernel
theorem dX5_parseStage_19 : decode cX5_parseStage 19 = .ok (.iconst 0, 1) := by decide +kernel
theorem dX5_parseStage_20 : decode cX5_parseStage 20 = .ok (.ireturn, 1) := by decide +kernel
theorem dX5_parseStage_21 : decode cX5_parseStage 21 = .ok (.aload_n 0, 1) := by decide +kernel
theorem dX5_parseStage_22 : decode cX5_parseStage 22 = .ok (.bipush 48, 2) := by decide +kernel
theorem dX5_parseStage_24 : decode cX5_parseStage 24 = .ok (.invokevirtual 44, 3) := by decide +kernel
theorem dX5_parseStage_27 : decode cX5_parseStage 27 = .ok (.istore_n 3, 1) := by decide +kernel
theorem dX5_parseStage_28 : decode cX5_parseStage 28 = .ok (.iload_n 3, 1) := by decide +kernel
theorem dX5_parseStage_29 : decode cX5_parseStage 29 = .ok (.ifCond .lt 12, 3) := by decide +kernel
theorem dX5_parseStage_32 : decode cX5_parseStage 32 = .ok (.aload_n 0, 1) := by decide +kernel
theorem dX5_parseStage_33 : decode cX5_parseStage 33 = .ok (.bipush 47, 2) := by decide +kernel
theorem dX5_parseStage_35 : decode cX5_parseStage 35 = .ok (.invokevirtual 40, 3) := by decide +kernel
theorem dX5_parseStage_38 : decode cX5_parseStage 38 = .ok (.ifCond .ne 5, 3) := by decide +kernel
theorem dX5_parseStage_41 : decode cX5_parseStage 41 = .ok (.iconst 0, 1) := by decide +kernel
theorem dX5_parseStage_42 : decode cX5_parseStage 42 = .ok (.ireturn, 1) := by decide +kernel
theorem dX5_parseStage_43 : decode cX5_parseStage 43 = .ok (.aload_n 0, 1) := by decide +kernel
theorem dX5_parseStage_44 : decode cX5_parseStage 44 = .ok (.bipush 25, 2) := by decide +kernel
theorem dX5_parseStage_46 : decode cX5_parseStage 46 = .ok (.invokevirtual 44, 3) := by decide +kernel
theorem dX5_parseStage_49 : decode cX5_parseStage 49 = .ok (.istore 4, 2) := by decide +kernel
theorem dX5_parseStage_51 : decode cX5_parseStage 51 = .ok (.iload 4, 2) := by decide +kernel
theorem dX5_parseStage_53 : decode cX5_parseStage 53 = .ok (.ifCond .lt 12, 3) := by decide +kernel
theorem dX5_parseStage_56 : decode cX5_parseStage 56 = .ok (.aload_n 0, 1) := by decide +kernel
theorem dX5_parseStage_57 : decode cX5_parseStage 57 = .ok (.bipush 59, 2) := by decide +kernel
theorem dX5_parseStage_59 : decode cX5_parseStage 59 = .ok (.invokevirtual 40, 3) := by decide +kernel
theorem dX5_parseStage_62 : decode cX5_parseStage 62 = .ok (.ifCond .ne 5, 3) := by decide +kernel
theorem dX5_parseStage_65 : decode cX5_parseStage 65 = .ok (.iconst 0, 1) := by decide +kernel
theorem dX5_parseStage_66 : decode cX5_parseStage 66 = .ok (.ireturn, 1) := by decide +kernel
theorem dX5_parseStage_67 : decode cX5_parseStage 67 = .ok (.aload_n 0, 1) := by decide +kernel
theorem dX5_parseStage_68 : decode cX5_parseStage 68 = .ok (.getfield 18, 3) := by decide +kernel
theorem dX5_parseStage_71 : decode cX5_parseStage 71 = .ok (.iload_n 2, 1) := by decide +kernel
theorem dX5_parseStage_72 : decode cX5_parseStage 72 = .ok (.iload_n 3, 1) := by decide +kernel
theorem dX5_parseStage_73 : decode cX5_parseStage 73 = .ok (.iload 4, 2) := by decide +kernel
theorem dX5_parseStage_75 : decode cX5_parseStage 75 = .ok (.invokevirtual 47, 3) := by decide +kernel
theorem dX5_parseStage_78 : decode cX5_parseStage 78 = .ok (.ireturn, 1) := by decide +kernel
theorem dX5_parseCells_0 : decode cX5_parseCells 0 = .ok (.aload_n 0, 1) := by decide +kernel
theorem dX5_parseCells_1 : decode cX5_parseCells 1 = .ok (.getfield 18, 3) := by decide +kernel
theorem dX5_parseCells_4 : decode cX5_parseCells 4 = .ok (.bipush 6, 2) := by decide +kernel
theorem dX5_parseCells_6 : decode cX5_parseCells 6 = .ok (.invokevirtual 51, 3) := by decide +kernel
theorem dX5_parseCells_9 : decode cX5_parseCells 9 = .ok (.istore_n 2, 1) := by decide +kernel
theorem dX5_parseCells_10 : decode cX5_parseCells 10 = .ok (.iconst 0, 1) := by decide +kernel
theorem dX5_parseCells_11 : decode cX5_parseCells 11 = .ok (.istore_n 3, 1) := by decide +kernel
theorem dX5_parseCells_12 : decode cX5_parseCells 12 = .ok (.iconst 0, 1) := by decide +kernel
theorem dX5_parseCells_13 : decode cX5_parseCells 13 = .ok (.istore 4, 2) := by decide +kernel
theorem dX5_parseCells_15 : decode cX5_parseCells 15 = .ok (.iconst 0, 1) := by decide +kernel
theorem dX5_parseCells_16 : decode cX5_parseCells 16 = .ok (.istore 5, 2) := by decide +kernel
theorem dX5_parseCells_18 : decode cX5_parseCells 18 = .ok (.iload 5, 2) := by decide +kernel
theorem dX5_parseCells_20 : decode cX5_parseCells 20 = .ok (.bipush 8, 2) := by decide +kernel
theorem dX5_parseCells_22 : decode cX5_parseCells 22 = .ok (.if_icmp .ge 67, 3) := by decide +kernel
theorem dX5_parseCells_25 : decode cX5_parseCells 25 = .ok (.aload_n 0, 1) := by decide +kernel
theorem dX5_parseCells_26 : decode cX5_parseCells 26 = .ok (.aload_n 0, 1) := by decide +kernel
theorem dX5_parseCells_27 : decode cX5_parseCells 27 = .ok (.getfield 26, 3) := by decide +kernel
theorem dX5_parseCells_30 : decode cX5_parseCells 30 = .ok (.invokevirtual 54, 3) := by decide +kernel
theorem dX5_parseCells_33 : decode cX5_parseCells 33 = .ok (.istore 6, 2) := by decide +kernel
theorem dX5_parseCells_35 : decode cX5_parseCells 35 = .ok (.iload 6, 2) := by decide +kernel
theorem dX5_parseCells_37 : decode cX5_parseCells 37 = .ok (.iload 4, 2) := by decide +kernel
theorem dX5_parseCells_39 : decode cX5_parseCells 39 = .ok (.if_icmp .lt 50, 3) := by decide +kernel
theorem dX5_parseCells_42 : decode cX5_parseCells 42 = .ok (.iload 6, 2) := by decide +kernel
theorem dX5_parseCells_44 : decode cX5_parseCells 44 = .ok (.iload_n 1, 1) := by decide +kernel
theorem dX5_parseCells_45 : decode cX5_parseCells 45 = .ok (.if_icmp .ge 44, 3) := by decide +kernel
theorem dX5_parseCells_48 : decode cX5_parseCells 48 = .ok (.iload_n 2, 1) := by decide +kernel
theorem dX5_parseCells_49 : decode cX5_parseCells 49 = .ok (.iload 6, 2) := by decide +kernel
theorem dX5_parseCells_51 : decode cX5_parseCells 51 = .ok (.ishr, 1) := by decide +kernel
theorem dX5_parseCells_52 : decode cX5_parseCells 52 = .ok (.iconst 1, 1) := by decide +kernel
theorem dX5_parseCells_53 : decode cX5_parseCells 53 = .ok (.iand, 1) := by decide +kernel
theorem dX5_parseCells_54 : decode cX5_parseCells 54 = .ok (.ifCond .eq 6, 3) := by decide +kernel
theorem dX5_parseCells_57 : decode cX5_parseCells 57 = .ok (.goto 32, 3) := by decide +kernel
theorem dX5_parseCells_60 : decode cX5_parseCells 60 = .ok (.iload_n 3, 1) := by decide +kernel
theorem dX5_parseCells_61 : decode cX5_parseCells 61 = .ok (.iconst 1, 1) := by decide +kernel
theorem dX5_parseCells_62 : decode cX5_parseCells 62 = .ok (.iload 6, 2) := by decide +kernel
theorem dX5_parseCells_64 : decode cX5_parseCells 64 = .ok (.ishl, 1) := by decide +kernel
theorem dX5_parseCells_65 : decode cX5_parseCells 65 = .ok (.ior, 1) := by decide +kernel
theorem dX5_parseCells_66 : decode cX5_parseCells 66 = .ok (.istore_n 3, 1) := by decide +kernel
theorem dX5_parseCells_67 : decode cX5_parseCells 67 = .ok (.iload 6, 2) := by decide +kernel
theorem dX5_parseCells_69 : decode cX5_parseCells 69 = .ok (.iconst 1, 1) := by decide +kernel
theorem dX5_parseCells_70 : decode cX5_parseCells 70 = .ok (.iadd, 1) := by decide +kernel
theorem dX5_parseCells_71 : decode cX5_parseCells 71 = .ok (.istore 4, 2) := by decide +kernel
theorem dX5_parseCells_73 : decode cX5_parseCells 73 = .ok (.aload_n 0, 1) := by decide +kernel
theorem dX5_parseCells_74 : decode cX5_parseCells 74 = .ok (.dup, 1) := by decide +kernel
theorem dX5_parseCells_75 : decode cX5_parseCells 75 = .ok (.getfield 26, 3) := by decide +kernel
theorem dX5_parseCells_78 : decode cX5_parseCells 78 = .ok (.iconst 1, 1) := by decide +kernel
theorem dX5_parseCells_79 : decode cX5_parseCells 79 = .ok (.iadd, 1) := by decide +kernel
theorem dX5_parseCells_80 : decode cX5_parseCells 80 = .ok (.putfield 26, 3) := by decide +kernel
theorem dX5_parseCells_83 : decode cX5_parseCells 83 = .ok (.iinc 5 1, 3) := by decide +kernel
theorem dX5_parseCells_86 : decode cX5_parseCells 86 = .ok (.goto (-68), 3) := by decide +kernel
theorem dX5_parseCells_89 : decode cX5_parseCells 89 = .ok (.iload_n 3, 1) := by decide +kernel
theorem dX5_parseCells_90 : decode cX5_parseCells 90 = .ok (.ireturn, 1) := by decide +kernel
theorem dX5_parseNumber_0 : decode cX5_parseNumber 0 = .ok (.aload_n 0, 1) := by decide +kernel
theorem dX5_parseNumber_1 : decode cX5_parseNumber 1 = .ok (.aload_n 0, 1) := by decide +kernel
theorem dX5_parseNumber_2 : decode cX5_parseNumber 2 = .ok (.getfield 26, 3) := by decide +kernel
theorem dX5_parseNumber_5 : decode cX5_parseNumber 5 = .ok (.invokevirtual 54, 3) := by decide +kernel
theorem dX5_parseNumber_8 : decode cX5_parseNumber 8 = .ok (.istore_n 2, 1) := by decide +kernel
theorem dX5_parseNumber_9 : decode cX5_parseNumber 9 = .ok (.iload_n 2, 1) := by decide +kernel
theorem dX5_parseNumber_10 : decode cX5_parseNumber 10 = .ok (.ifCond .ge 5, 3) := by decide +kernel
theorem dX5_parseNumber_13 : decode cX5_parseNumber 13 = .ok (.iconst (-1), 1) := by decide +kernel
theorem dX5_parseNumber_14 : decode cX5_parseNumber 14 = .ok (.ireturn, 1) := by decide +kernel
theorem dX5_parseNumber_15 : decode cX5_parseNumber 15 = .ok (.iload_n 2, 1) := by decide +kernel
theorem dX5_parseNumber_16 : decode cX5_parseNumber 16 = .ok (.ifCond .ne 7, 3) := by decide +kernel
theorem dX5_parseNumber_19 : decode cX5_parseNumber 19 = .ok (.iconst (-1), 1) := by decide +kernel
theorem dX5_parseNumber_20 : decode cX5_parseNumber 20 = .ok (.goto 13, 3) := by decide +kernel
theorem dX5_parseNumber_23 : decode cX5_parseNumber 23 = .ok (.aload_n 0, 1) := by decide +kernel
theorem dX5_parseNumber_24 : decode cX5_parseNumber 24 = .ok (.aload_n 0, 1) := by decide +kernel
theorem dX5_parseNumber_25 : decode cX5_parseNumber 25 = .ok (.getfield 26, 3) := by decide +kernel
theorem dX5_parseNumber_28 : decode cX5_parseNumber 28 = .ok (.iconst 1, 1) := by decide +kernel
theorem dX5_parseNumber_29 : decode cX5_parseNumber 29 = .ok (.iadd, 1) := by decide +kernel
theorem dX5_parseNumber_30 : decode cX5_parseNumber 30 = .ok (.invokevirtual 54, 3) := by decide +kernel
theorem dX5_parseNumber_33 : decode cX5_parseNumber 33 = .ok (.istore_n 3, 1) := by decide +kernel
theorem dX5_parseNumber_34 : decode cX5_parseNumber 34 = .ok (.iload_n 3, 1) := by decide +kernel
theorem dX5_parseNumber_35 : decode cX5_parseNumber 35 = .ok (.ifCond .ge 7, 3) := by decide +kernel
theorem dX5_parseNumber_38 : decode cX5_parseNumber 38 = .ok (.iconst 1, 1) := by decide +kernel
theorem dX5_parseNumber_39 : decode cX5_parseNumber 39 = .ok (.goto 4, 3) := by decide +kernel
theorem dX5_parseNumber_42 : decode cX5_parseNumber 42 = .ok (.iconst 2, 1) := by decide +kernel
theorem dX5_parseNumber_43 : decode cX5_parseNumber 43 = .ok (.istore 4, 2) := by decide +kernel
theorem dX5_parseNumber_45 : decode cX5_parseNumber 45 = .ok (.iload_n 3, 1) := by decide +kernel
theorem dX5_parseNumber_46 : decode cX5_parseNumber 46 = .ok (.ifCond .lt 10, 3) := by decide +kernel
theorem dX5_parseNumber_49 : decode cX5_parseNumber 49 = .ok (.bipush 10, 2) := by decide +kernel
theorem dX5_parseNumber_51 : decode cX5_parseNumber 51 = .ok (.iload_n 2, 1) := by decide +kernel
theorem dX5_parseNumber_52 : decode cX5_parseNumber 52 = .ok (.imul, 1) := by decide +kernel
theorem dX5_parseNumber_53 : decode cX5_parseNumber 53 = .ok (.iload_n 3, 1) := by decide +kernel
theorem dX5_parseNumber_54 : decode cX5_parseNumber 54 = .ok (.iadd, 1) := by decide +kernel
theorem dX5_parseNumber_55 : decode cX5_parseNumber 55 = .ok (.istore_n 2, 1) := by decide +kernel
theorem dX5_parseNumber_56 : decode cX5_parseNumber 56 = .ok (.iload_n 2, 1) := by decide +kernel
theorem dX5_parseNumber_57 : decode cX5_parseNumber 57 = .ok (.iload_n 1, 1) := by decide +kernel
theorem dX5_parseNumber_58 : decode cX5_parseNumber 58 = .ok (.if_icmp .le 5, 3) := by decide +kernel
theorem dX5_parseNumber_61 : decode cX5_parseNumber 61 = .ok (.iconst (-1), 1) := by decide +kernel
theorem dX5_parseNumber_62 : decode cX5_parseNumber 62 = .ok (.ireturn, 1) := by decide +kernel
theorem dX5_parseNumber_63 : decode cX5_parseNumber 63 = .ok (.aload_n 0, 1) := by decide +kernel
theorem dX5_parseNumber_64 : decode cX5_parseNumber 64 = .ok (.dup, 1) := by decide +kernel
theorem dX5_parseNumber_65 : decode cX5_parseNumber 65 = .ok (.getfield 26, 3) := by decide +kernel
theorem dX5_parseNumber_68 : decode cX5_parseNumber 68 = .ok (.iload 4, 2) := by decide +kernel
theorem dX5_parseNumber_70 : decode cX5_parseNumber 70 = .ok (.iadd, 1) := by decide +kernel
theorem dX5_parseNumber_71 : decode cX5_parseNumber 71 = .ok (.putfield 26, 3) := by decide +kernel
theorem dX5_parseNumber_74 : decode cX5_parseNumber 74 = .ok (.iload_n 2, 1) := by decide +kernel
theorem dX5_parseNumber_75 : decode cX5_parseNumber 75 = .ok (.ireturn, 1) := by decide +kernel
theorem dX5_skip_0 : decode cX5_skip 0 = .ok (.aload_n 0, 1) := by decide +kernel
theorem dX5_skip_1 : decode cX5_skip 1 = .ok (.aload_n 0, 1) := by decide +kernel
theorem dX5_skip_2 : decode cX5_skip 2 = .ok (.getfield 26, 3) := by decide +kernel
theorem dX5_skip_5 : decode cX5_skip 5 = .ok (.invokevirtual 57, 3) := by decide +kernel
theorem dX5_skip_8 : decode cX5_skip 8 = .ok (.iload_n 1, 1) := by decide +kernel
theorem dX5_skip_9 : decode cX5_skip 9 = .ok (.if_icmp .eq 5, 3) := by decide +kernel
theorem dX5_skip_12 : decode cX5_skip 12 = .ok (.iconst 0, 1) := by decide +kernel
theorem dX5_skip_13 : decode cX5_skip 13 = .ok (.ireturn, 1) := by decide +kernel
theorem dX5_skip_14 : decode cX5_skip 14 = .ok (.aload_n 0, 1) := by decide +kernel
theorem dX5_skip_15 : decode cX5_skip 15 = .ok (.dup, 1) := by decide +kernel
theorem dX5_skip_16 : decode cX5_skip 16 = .ok (.getfield 26, 3) := by decide +kernel
theorem dX5_skip_19 : decode cX5_skip 19 = .ok (.iconst 1, 1) := by decide +kernel
theorem dX5_skip_20 : decode cX5_skip 20 = .ok (.iadd, 1) := by decide +kernel
theorem dX5_skip_21 : decode cX5_skip 21 = .ok (.putfield 26, 3) := by decide +kernel
theorem dX5_skip_24 : decode cX5_skip 24 = .ok (.iconst 1, 1) := by decide +kernel
theorem dX5_skip_25 : decode cX5_skip 25 = .ok (.ireturn, 1) := by decide +kernel
theorem dX5_digitAt_0 : decode cX5_digitAt 0 = .ok (.aload_n 0, 1) := by decide +kernel
theorem dX5_digitAt_1 : decode cX5_digitAt 1 = .ok (.iload_n 1, 1) := by decide +kernel
theorem dX5_digitAt_2 : decode cX5_digitAt 2 = .ok (.invokevirtual 57, 3) := by decide +kernel
theorem dX5_digitAt_5 : decode cX5_digitAt 5 = .ok (.bipush 48, 2) := by decide +kernel
theorem dX5_digitAt_7 : decode cX5_digitAt 7 = .ok (.isub, 1) := by decide +kernel
theorem dX5_digitAt_8 : decode cX5_digitAt 8 = .ok (.istore_n 2, 1) := by decide +kernel
theorem dX5_digitAt_9 : decode cX5_digitAt 9 = .ok (.iload_n 2, 1) := by decide +kernel
theorem dX5_digitAt_10 : decode cX5_digitAt 10 = .ok (.iconst 0, 1) := by decide +kernel
theorem dX5_digitAt_11 : decode cX5_digitAt 11 = .ok (.bipush 9, 2) := by decide +kernel
theorem dX5_digitAt_13 : decode cX5_digitAt 13 = .ok (.invokestatic 60, 3) := by decide +kernel
theorem dX5_digitAt_16 : decode cX5_digitAt 16 = .ok (.ifCond .eq 7, 3) := by decide +kernel
theorem dX5_digitAt_19 : decode cX5_digitAt 19 = .ok (.iload_n 2, 1) := by decide +kernel
theorem dX5_digitAt_20 : decode cX5_digitAt 20 = .ok (.goto 4, 3) := by decide +kernel
theorem dX5_digitAt_23 : decode cX5_digitAt 23 = .ok (.iconst (-1), 1) := by decide +kernel
theorem dX5_digitAt_24 : decode cX5_digitAt 24 = .ok (.ireturn, 1) := by decide +kernel
theorem dX5_letterAt_0 : decode cX5_letterAt 0 = .ok (.iload_n 1, 1) := by decide +kernel
theorem dX5_letterAt_1 : decode cX5_letterAt 1 = .ok (.iconst 0, 1) := by decide +kernel
theorem dX5_letterAt_2 : decode cX5_letterAt 2 = .ok (.aload_n 0, 1) := by decide +kernel
theorem dX5_letterAt_3 : decode cX5_letterAt 3 = .ok (.getfield 22, 3) := by decide +kernel
theorem dX5_letterAt_6 : decode cX5_letterAt 6 = .ok (.iconst 1, 1) := by decide +kernel
theorem dX5_letterAt_7 : decode cX5_letterAt 7 = .ok (.isub, 1) := by decide +kernel
theorem dX5_letterAt_8 : decode cX5_letterAt 8 = .ok (.invokestatic 60, 3) := by decide +kernel
theorem dX5_letterAt_11 : decode cX5_letterAt 11 = .ok (.ifCond .eq 18, 3) := by decide +kernel
theorem dX5_letterAt_14 : decode cX5_letterAt 14 = .ok (.iload_n 1, 1) := by decide +kernel
theorem dX5_letterAt_15 : decode cX5_letterAt 15 = .ok (.bipush 60, 2) := by decide +kernel
theorem dX5_letterAt_17 : decode cX5_letterAt 17 = .ok (.if_icmp .ge 12, 3) := by decide +kernel
theorem dX5_letterAt_20 : decode cX5_letterAt 20 = .ok (.aload_n 0, 1) := by decide +kernel
theorem dX5_letterAt_21 : decode cX5_letterAt 21 = .ok (.getfield 9, 3) := by decide +kernel
theorem dX5_letterAt_24 : decode cX5_letterAt 24 = .ok (.iload_n 1, 1) := by decide +kernel
theorem dX5_letterAt_25 : decode cX5_letterAt 25 = .ok (.baload, 1) := by decide +kernel
theorem dX5_letterAt_26 : decode cX5_letterAt 26 = .ok (.goto 4, 3) := by decide +kernel
theorem dX5_letterAt_29 : decode cX5_letterAt 29 = .ok (.iconst (-1), 1) := by decide +kernel
theorem dX5_letterAt_30 : decode cX5_letterAt 30 = .ok (.ireturn, 1) := by decide +kernel
theorem dX6_init_0 : decode cX6_init 0 = .ok (.aload_n 0, 1) := by decide +kernel
theorem dX6_init_1 : decode cX6_init 1 = .ok (.invokespecial 3, 3) := by decide +kernel
theorem dX6_init_4 : decode cX6_init 4 = .ok (.aload_n 0, 1) := by decide +kernel
theorem dX6_init_5 : decode cX6_init 5 = .ok (.lconst 1, 1) := by decide +kernel
theorem dX6_init_6 : decode cX6_init 6 = .ok (.putfield 9, 3) := by decide +kernel
theorem dX6_init_9 : decode cX6_init 9 = .ok (.aload_n 0, 1) := by decide +kernel
theorem dX6_init_10 : decode cX6_init 10 = .ok (.lconst 1, 1) := by decide +kernel
theorem dX6_init_11 : decode cX6_init 11 = .ok (.putfield 15, 3) := by decide +kernel
theorem dX6_init_14 : decode cX6_init 14 = .ok (.return_, 1) := by decide +kernel
theorem dX6_empty_0 : decode cX6_empty 0 = .ok (.aload_n 0, 1) := by decide +kernel
theorem dX6_empty_1 : decode cX6_empty 1 = .ok (.iconst 0, 1) := by decide +kernel
theorem dX6_empty_2 : decode cX6_empty 2 = .ok (.putfield 18, 3) := by decide +kernel
theorem dX6_empty_5 : decode cX6_empty 5 = .ok (.aload_n 0, 1) := by decide +kernel
theorem dX6_empty_6 : decode cX6_empty 6 = .ok (.iconst 0, 1) := by decide +kernel
theorem dX6_empty_7 : decode cX6_empty 7 = .ok (.putfield 22, 3) := by decide +kernel
theorem dX6_empty_10 : decode cX6_empty 10 = .ok (.aload_n 0, 1) := by decide +kernel
theorem dX6_empty_11 : decode cX6_empty 11 = .ok (.iconst 0, 1) := by decide +kernel
theorem dX6_empty_12 : decode cX6_empty 12 = .ok (.putfield 25, 3) := by decide +kernel
theorem dX6_empty_15 : decode cX6_empty 15 = .ok (.aload_n 0, 1) := by decide +kernel
theorem dX6_empty_16 : decode cX6_empty 16 = .ok (.iconst 0, 1) := by decide +kernel
theorem dX6_empty_17 : decode cX6_empty 17 = .ok (.putfield 28, 3) := by decide +kernel
theorem dX6_empty_20 : decode cX6_empty 20 = .ok (.aload_n 0, 1) := by decide +kernel
theorem dX6_empty_21 : decode cX6_empty 21 = .ok (.lconst 1, 1) := by decide +kernel
theorem dX6_empty_22 : decode cX6_empty 22 = .ok (.putfield 9, 3) := by decide +kernel
theorem dX6_empty_25 : decode cX6_empty 25 = .ok (.aload_n 0, 1) := by decide +kernel
theorem dX6_empty_26 : decode cX6_empty 26 = .ok (.lconst 1, 1) := by decide +kernel
theorem dX6_empty_27 : decode cX6_empty 27 = .ok (.putfield 15, 3) := by decide +kernel
theorem dX6_empty_30 : decode cX6_empty 30 = .ok (.return_, 1) := by decide +kernel
theorem dX6_copyFrom_0 : decode cX6_copyFrom 0 = .ok (.aload_n 0, 1) := by decide +kernel
theorem dX6_copyFrom_1 : decode cX6_copyFrom 1 = .ok (.aload_n 1, 1) := by decide +kernel
theorem dX6_copyFrom_2 : decode cX6_copyFrom 2 = .ok (.getfield 18, 3) := by decide +kernel
theorem dX6_copyFrom_5 : decode cX6_copyFrom 5 = .ok (.putfield 18, 3) := by decide +kernel
theorem dX6_copyFrom_8 : decode cX6_copyFrom 8 = .ok (.aload_n 0, 1) := by decide +kernel
theorem dX6_copyFrom_9 : decode cX6_copyFrom 9 = .ok (.aload_n 1, 1) := by decide +kernel
theorem dX6_copyFrom_10 : decode cX6_copyFrom 10 = .ok (.getfield 22, 3) := by decide +kernel
theorem dX6_copyFrom_13 : decode cX6_copyFrom 13 = .ok (.putfield 22, 3) := by decide +kernel
theorem dX6_copyFrom_16 : decode cX6_copyFrom 16 = .ok (.aload_n 0, 1) := by decide +kernel
theorem dX6_copyFrom_17 : decode cX6_copyFrom 17 = .ok (.aload_n 1, 1) := by decide +kernel
theorem dX6_copyFrom_18 : decode cX6_copyFrom 18 = .ok (.getfield 25, 3) := by decide +kernel
theorem dX6_copyFrom_21 : decode cX6_copyFrom 21 = .ok (.putfield 25, 3) := by decide +kernel
theorem dX6_copyFrom_24 : decode cX6_copyFrom 24 = .ok (.aload_n 0, 1) := by decide +kernel
theorem dX6_copyFrom_25 : decode cX6_copyFrom 25 = .ok (.aload_n 1, 1) := by decide +kernel
theorem dX6_copyFrom_26 : decode cX6_copyFrom 26 = .ok (.getfield 28, 3) := by decide +kernel
theorem dX6_copyFrom_29 : decode cX6_copyFrom 29 = .ok (.putfield 28, 3) := by decide +kernel
theorem dX6_copyFrom_32 : decode cX6_copyFrom 32 = .ok (.aload_n 0, 1) := by decide +kernel
theorem dX6_copyFrom_33 : decode cX6_copyFrom 33 = .ok (.aload_n 1, 1) := by decide +kernel
theorem dX6_copyFrom_34 : decode cX6_copyFrom 34 = .ok (.getfield 9, 3) := by decide +kernel
theorem dX6_copyFrom_37 : decode cX6_copyFrom 37 = .ok (.putfield 9, 3) := by decide +kernel
theorem dX6_copyFrom_40 : decode cX6_copyFrom 40 = .ok (.aload_n 0, 1) := by decide +kernel
theorem dX6_copyFrom_41 : decode cX6_copyFrom 41 = .ok (.aload_n 1, 1) := by decide +kernel
theorem dX6_copyFrom_42 : decode cX6_copyFrom 42 = .ok (.getfield 15, 3) := by decide +kernel
theorem dX6_copyFrom_45 : decode cX6_copyFrom 45 = .ok (.putfield 15, 3) := by decide +kernel
theorem dX6_copyFrom_48 : decode cX6_copyFrom 48 = .ok (.return_, 1) := by decide +kernel
theorem dX6_treated_0 : decode cX6_treated 0 = .ok (.aload_n 0, 1) := by decide +kernel
theorem dX6_treated_1 : decode cX6_treated 1 = .ok (.getfield 18, 3) := by decide +kernel
theorem dX6_treated_4 : decode cX6_treated 4 = .ok (.aload_n 0, 1) := by decide +kernel
theorem dX6_treated_5 : decode cX6_treated 5 = .ok (.getfield 22, 3) := by decide +kernel
theorem dX6_treated_8 : decode cX6_treated 8 = .ok (.iadd, 1) := by decide +kernel
theorem dX6_treated_9 : decode cX6_treated 9 = .ok (.ireturn, 1) := by decide +kernel
theorem dX6_control_0 : decode cX6_control 0 = .ok (.aload_n 0, 1) := by decide +kernel
theorem dX6_control_1 : decode cX6_control 1 = .ok (.getfield 25, 3) := by decide +kernel
theorem dX6_control_4 : decode cX6_control 4 = .ok (.aload_n 0, 1) := by decide +kernel
theorem dX6_control_5 : decode cX6_control 5 = .ok (.getfield 28, 3) := by decide +kernel
theorem dX6_control_8 : decode cX6_control 8 = .ok (.iadd, 1) := by decide +kernel
theorem dX6_control_9 : decode cX6_control 9 = .ok (.ireturn, 1) := by decide +kernel
theorem dX6_takesTreated_0 : decode cX6_takesTreated 0 = .ok (.aload_n 0, 1) := by decide +kernel
theorem dX6_takesTreated_1 : decode cX6_takesTreated 1 = .ok (.invokevirtual 31, 3) := by decide +kernel
theorem dX6_takesTreated_4 : decode cX6_takesTreated 4 = .ok (.iload_n 1, 1) := by decide +kernel
theorem dX6_takesTreated_5 : decode cX6_takesTreated 5 = .ok (.iadd, 1) := by decide +kernel
theorem dX6_takesTreated_6 : decode cX6_takesTreated 6 = .ok (.iload_n 2, 1) := by decide +kernel
theorem dX6_takesTreated_7 : decode cX6_takesTreated 7 = .ok (.iadd, 1) := by decide +kernel
theorem dX6_takesTreated_8 : decode cX6_takesTreated 8 = .ok (.bipush 25, 2) := by decide +kernel
theorem dX6_takesTreated_10 : decode cX6_takesTreated 10 = .ok (.if_icmp .le 5, 3) := by decide +kernel
theorem dX6_takesTreated_13 : decode cX6_takesTreated 13 = .ok (.iconst 0, 1) := by decide +kernel
theorem dX6_takesTreated_14 : decode cX6_takesTreated 14 = .ok (.ireturn, 1) := by decide +kernel
theorem dX6_takesTreated_15 : decode cX6_takesTreated 15 = .ok (.aload_n 0, 1) := by decide +kernel
theorem dX6_takesTreated_16 : decode cX6_takesTreated 16 = .ok (.dup, 1) := by decide +kernel
theorem dX6_takesTreated_17 : decode cX6_takesTreated 17 = .ok (.getfield 18, 3) := by decide +kernel
theorem dX6_takesTreated_20 : decode cX6_takesTreated 20 = .ok (.iload_n 1, 1) := by decide +kernel
theorem dX6_takesTreated_21 : decode cX6_takesTreated 21 = .ok (.iadd, 1) := by decide +kernel
theorem dX6_takesTreated_22 : decode cX6_takesTreated 22 = .ok (.putfield 18, 3) := by decide +kernel
theorem dX6_takesTreated_25 : decode cX6_takesTreated 25 = .ok (.aload_n 0, 1) := by decide +kernel
theorem dX6_takesTreated_26 : decode cX6_takesTreated 26 = .ok (.dup, 1) := by decide +kernel
theorem dX6_takesTreated_27 : decode cX6_takesTreated 27 = .ok (.getfield 22, 3) := by decide +kernel
theorem dX6_takesTreated_30 : decode cX6_takesTreated 30 = .ok (.iload_n 2, 1) := by decide +kernel
theorem dX6_takesTreated_31 : decode cX6_takesTreated 31 = .ok (.iadd, 1) := by decide +kernel
theorem dX6_takesTreated_32 : decode cX6_takesTreated 32 = .ok (.putfield 22, 3) := by decide +kernel
theorem dX6_takesTreated_35 : decode cX6_takesTreated 35 = .ok (.aload_n 0, 1) := by decide +kernel
theorem dX6_takesTreated_36 : decode cX6_takesTreated 36 = .ok (.invokevirtual 35, 3) := by decide +kernel
theorem dX6_takesTreated_39 : decode cX6_takesTreated 39 = .ok (.iconst 1, 1) := by decide +kernel
theorem dX6_takesTreated_40 : decode cX6_takesTreated 40 = .ok (.ireturn, 1) := by decide +kernel
theorem dX6_takesControl_0 : decode cX6_takesControl 0 = .ok (.aload_n 0, 1) := by decide +kernel
theorem dX6_takesControl_1 : decode cX6_takesControl 1 = .ok (.invokevirtual 38, 3) := by decide +kernel
theorem dX6_takesControl_4 : decode cX6_takesControl 4 = .ok (.iload_n 1, 1) := by decide +kernel
theorem dX6_takesControl_5 : decode cX6_takesControl 5 = .ok (.iadd, 1) := by decide +kernel
theorem dX6_takesControl_6 : decode cX6_takesControl 6 = .ok (.iload_n 2, 1) := by decide +kernel
theorem dX6_takesControl_7 : decode cX6_takesControl 7 = .ok (.iadd, 1) := by decide +kernel
theorem dX6_takesControl_8 : decode cX6_takesControl 8 = .ok (.bipush 25, 2) := by decide +kernel
theorem dX6_takesControl_10 : decode cX6_takesControl 10 = .ok (.if_icmp .le 5, 3) := by decide +kernel
theorem dX6_takesControl_13 : decode cX6_takesControl 13 = .ok (.iconst 0, 1) := by decide +kernel
theorem dX6_takesControl_14 : decode cX6_takesControl 14 = .ok (.ireturn, 1) := by decide +kernel
theorem dX6_takesControl_15 : decode cX6_takesControl 15 = .ok (.aload_n 0, 1) := by decide +kernel
theorem dX6_takesControl_16 : decode cX6_takesControl 16 = .ok (.dup, 1) := by decide +kernel
theorem dX6_takesControl_17 : decode cX6_takesControl 17 = .ok (.getfield 25, 3) := by decide +kernel
theorem dX6_takesControl_20 : decode cX6_takesControl 20 = .ok (.iload_n 1, 1) := by decide +kernel
theorem dX6_takesControl_21 : decode cX6_takesControl 21 = .ok (.iadd, 1) := by decide +kernel
theorem dX6_takesControl_22 : decode cX6_takesControl 22 = .ok (.putfield 25, 3) := by decide +kernel
theorem dX6_takesControl_25 : decode cX6_takesControl 25 = .ok (.aload_n 0, 1) := by decide +kernel
theorem dX6_takesControl_26 : decode cX6_takesControl 26 = .ok (.dup, 1) := by decide +kernel
theorem dX6_takesControl_27 : decode cX6_takesControl 27 = .ok (.getfield 28, 3) := by decide +kernel
theorem dX6_takesControl_30 : decode cX6_takesControl 30 = .ok (.iload_n 2, 1) := by decide +kernel
theorem dX6_takesControl_31 : decode cX6_takesControl 31 = .ok (.iadd, 1) := by decide +kernel
theorem dX6_takesControl_32 : decode cX6_takesControl 32 = .ok (.putfield 28, 3) := by decide +kernel
theorem dX6_takesControl_35 : decode cX6_takesControl 35 = .ok (.aload_n 0, 1) := by decide +kernel
theorem dX6_takesControl_36 : decode cX6_takesControl 36 = .ok (.invokevirtual 35, 3) := by decide +kernel
theorem dX6_takesControl_39 : decode cX6_takesControl 39 = .ok (.iconst 1, 1) := by decide +kernel
theorem dX6_takesControl_40 : decode cX6_takesControl 40 = .ok (.ireturn, 1) := by decide +kernel
theorem dX6_isAtMost_0 : decode cX6_isAtMost 0 = .ok (.aload_n 0, 1) := by decide +kernel
theorem dX6_isAtMost_1 : decode cX6_isAtMost 1 = .ok (.getfield 9, 3) := by decide +kernel
theorem dX6_isAtMost_4 : decode cX6_isAtMost 4 = .ok (.ldc2_w 41, 3) := by decide +kernel
theorem dX6_isAtMost_7 : decode cX6_isAtMost 7 = .ok (.lmul, 1) := by decide +kernel
theorem dX6_isAtMost_8 : decode cX6_isAtMost 8 = .ok (.iload_n 1, 1) := by decide +kernel
theorem dX6_isAtMost_9 : decode cX6_isAtMost 9 = .ok (.i2l, 1) := by decide +kernel
theorem dX6_isAtMost_10 : decode cX6_isAtMost 10 = .ok (.aload_n 0, 1) := by decide +kernel
theorem dX6_isAtMost_11 : decode cX6_isAtMost 11 = .ok (.getfield 15, 3) := by decide +kernel
theorem dX6_isAtMost_14 : decode cX6_isAtMost 14 = .ok (.lmul, 1) := by decide +kernel
theorem dX6_isAtMost_15 : decode cX6_isAtMost 15 = .ok (.lcmp, 1) := by decide +kernel
theorem dX6_isAtMost_16 : decode cX6_isAtMost 16 = .ok (.ifCond .gt 7, 3) := by decide +kernel
theorem dX6_isAtMost_19 : decode cX6_isAtMost 19 = .ok (.iconst 1, 1) := by decide +kernel
theorem dX6_isAtMost_20 : decode cX6_isAtMost 20 = .ok (.goto 4, 3) := by decide +kernel
theorem dX6_isAtMost_23 : decode cX6_isAtMost 23 = .ok (.iconst 0, 1) := by decide +kernel
theorem dX6_isAtMost_24 : decode cX6_isAtMost 24 = .ok (.ireturn, 1) := by decide +kernel
theorem dX6_computeChance_0 : decode cX6_computeChance 0 = .ok (.aload_n 0, 1) := by decide +kernel
theorem dX6_computeChance_1 : decode cX6_computeChance 1 = .ok (.invokevirtual 31, 3) := by decide +kernel
theorem dX6_computeChance_4 : decode cX6_computeChance 4 = .ok (.istore_n 1, 1) := by decide +kernel
theorem dX6_computeChance_5 : decode cX6_computeChance 5 = .ok (.aload_n 0, 1) := by decide +kernel
theorem dX6_computeChance_6 : decode cX6_computeChance 6 = .ok (.getfield 18, 3) := by decide +kernel
theorem dX6_computeChance_9 : decode cX6_computeChance 9 = .ok (.aload_n 0, 1) := by decide +kernel
theorem dX6_computeChance_10 : decode cX6_computeChance 10 = .ok (.getfield 25, 3) := by decide +kernel
theorem dX6_computeChance_13 : decode cX6_computeChance 13 = .ok (.iadd, 1) := by decide +kernel
theorem dX6_computeChance_14 : decode cX6_computeChance 14 = .ok (.istore_n 2, 1) := by decide +kernel
theorem dX6_computeChance_15 : decode cX6_computeChance 15 = .ok (.aload_n 0, 1) := by decide +kernel
theorem dX6_computeChance_16 : decode cX6_computeChance 16 = .ok (.getfield 22, 3) := by decide +kernel
theorem dX6_computeChance_19 : decode cX6_computeChance 19 = .ok (.aload_n 0, 1) := by decide +kernel
theorem dX6_computeChance_20 : decode cX6_computeChance 20 = .ok (.getfield 28, 3) := by decide +kernel
theorem dX6_computeChance_23 : decode cX6_computeChance 23 = .ok (.iadd, 1) := by decide +kernel
theorem dX6_computeChance_24 : decode cX6_computeChance 24 = .ok (.istore_n 3, 1) := by decide +kernel
theorem dX6_computeChance_25 : decode cX6_computeChance 25 = .ok (.lconst 0, 1) := by decide +kernel
theorem dX6_computeChance_26 : decode cX6_computeChance 26 = .ok (.lstore 4, 2) := by decide +kernel
theorem dX6_computeChance_28 : decode cX6_computeChance 28 = .ok (.aload_n 0, 1) := by decide +kernel
theorem dX6_computeChance_29 : decode cX6_computeChance 29 = .ok (.getfield 18, 3) := by decide +kernel
theorem dX6_computeChance_32 : decode cX6_computeChance 32 = .ok (.istore 6, 2) := by decide +kernel
theorem dX6_computeChance_34 : decode cX6_computeChance 34 = .ok (.iload 6, 2) := by decide +kernel
theorem dX6_computeChance_36 : decode cX6_computeChance 36 = .ok (.iload_n 1, 1) := by decide +kernel
theorem dX6_computeChance_37 : decode cX6_computeChance 37 = .ok (.if_icmp .gt 35, 3) := by decide +kernel
theorem dX6_computeChance_40 : decode cX6_computeChance 40 = .ok (.iload 6, 2) := by decide +kernel
theorem dX6_computeChance_42 : decode cX6_computeChance 42 = .ok (.iload_n 2, 1) := by decide +kernel
theorem dX6_computeChance_43 : decode cX6_computeChance 43 = .ok (.if_icmp .gt 29, 3) := by decide +kernel
theorem dX6_computeChance_46 : decode cX6_computeChance 46 = .ok (.lload 4, 2) := by decide +kernel
theorem dX6_computeChance_48 : decode cX6_computeChance 48 = .ok (.iload_n 2, 1) := by decide +kernel
theorem dX6_computeChance_49 : decode cX6_computeChance 49 = .ok (.iload 6, 2) := by decide +kernel
theorem dX6_computeChance_51 : decode cX6_computeChance 51 = .ok (.invokestatic 43, 3) := by decide +kernel
theorem dX6_computeChance_54 : decode cX6_computeChance 54 = .ok (.iload_n 3, 1) := by decide +kernel
theorem dX6_computeChance_55 : decode cX6_computeChance 55 = .ok (.iload_n 1, 1) := by decide +kernel
theorem dX6_computeChance_56 : decode cX6_computeChance 56 = .ok (.iload 6, 2) := by decide +kernel
theorem dX6_computeChance_58 : decode cX6_computeChance 58 = .ok (.isub, 1) := by decide +kernel
theorem dX6_computeChance_59 : decode cX6_computeChance 59 = .ok (.invokestatic 43, 3) := by decide +kernel
theorem dX6_computeChance_62 : decode cX6_computeChance 62 = .ok (.lmul, 1) := by decide +kernel
theorem dX6_computeChance_63 : decode cX6_computeChance 63 = .ok (.ladd, 1) := by decide +kernel
theorem dX6_computeChance_64 : decode cX6_computeChance 64 = .ok (.lstore 4, 2) := by decide +kernel
theorem dX6_computeChance_66 : decode cX6_computeChance 66 = .ok (.iinc 6 1, 3) := by decide +kernel
theorem dX6_computeChance_69 : decode cX6_computeChance 69 = .ok (.goto (-35), 3) := by decide +kernel
theorem dX6_computeChance_72 : decode cX6_computeChance 72 = .ok (.iload_n 2, 1) := by decide +kernel
theorem dX6_computeChance_73 : decode cX6_computeChance 73 = .ok (.iload_n 3, 1) := by decide +kernel
theorem dX6_computeChance_74 : decode cX6_computeChance 74 = .ok (.iadd, 1) := by decide +kernel
theorem dX6_computeChance_75 : decode cX6_computeChance 75 = .ok (.iload_n 1, 1) := by decide +kernel
theorem dX6_computeChance_76 : decode cX6_computeChance 76 = .ok (.invokestatic 43, 3) := by decide +kernel
theorem dX6_computeChance_79 : decode cX6_computeChance 79 = .ok (.lstore 6, 2) := by decide +kernel
theorem dX6_computeChance_81 : decode cX6_computeChance 81 = .ok (.lload 4, 2) := by decide +kernel
theorem dX6_computeChance_83 : decode cX6_computeChance 83 = .ok (.lload 6, 2) := by decide +kernel
theorem dX6_computeChance_85 : decode cX6_computeChance 85 = .ok (.invokestatic 47, 3) := by decide +kernel
theorem dX6_computeChance_88 : decode cX6_computeChance 88 = .ok (.lstore 8, 2) := by decide +kernel
theorem dX6_computeChance_90 : decode cX6_computeChance 90 = .ok (.aload_n 0, 1) := by decide +kernel
theorem dX6_computeChance_91 : decode cX6_computeChance 91 = .ok (.lload 4, 2) := by decide +kernel
theorem dX6_computeChance_93 : decode cX6_computeChance 93 = .ok (.lload 8, 2) := by decide +kernel
theorem dX6_computeChance_95 : decode cX6_computeChance 95 = .ok (.ldiv, 1) := by decide +kernel
theorem dX6_computeChance_96 : decode cX6_computeChance 96 = .ok (.putfield 9, 3) := by decide +kernel
theorem dX6_computeChance_99 : decode cX6_computeChance 99 = .ok (.aload_n 0, 1) := by decide +kernel
theorem dX6_computeChance_100 : decode cX6_computeChance 100 = .ok (.lload 6, 2) := by decide +kernel
theorem dX6_computeChance_102 : decode cX6_computeChance 102 = .ok (.lload 8, 2) := by decide +kernel
theorem dX6_computeChance_104 : decode cX6_computeChance 104 = .ok (.ldiv, 1) := by decide +kernel
theorem dX6_computeChance_105 : decode cX6_computeChance 105 = .ok (.putfield 15, 3) := by decide +kernel
theorem dX6_computeChance_108 : decode cX6_computeChance 108 = .ok (.return_, 1) := by decide +kernel
theorem dX6_setsOf_0 : decode cX6_setsOf 0 = .ok (.iload_n 1, 1) := by decide +kernel
theorem dX6_setsOf_1 : decode cX6_setsOf 1 = .ok (.iload_n 0, 1) := by decide +kernel
theorem dX6_setsOf_2 : decode cX6_setsOf 2 = .ok (.iload_n 1, 1) := by decide +kernel
theorem dX6_setsOf_3 : decode cX6_setsOf 3 = .ok (.isub, 1) := by decide +kernel
theorem dX6_setsOf_4 : decode cX6_setsOf 4 = .ok (.invokestatic 51, 3) := by decide +kernel
theorem dX6_setsOf_7 : decode cX6_setsOf 7 = .ok (.istore_n 2, 1) := by decide +kernel
theorem dX6_setsOf_8 : decode cX6_setsOf 8 = .ok (.iload_n 2, 1) := by decide +kernel
theorem dX6_setsOf_9 : decode cX6_setsOf 9 = .ok (.ifCond .ge 7, 3) := by decide +kernel
theorem dX6_setsOf_12 : decode cX6_setsOf 12 = .ok (.lconst 0, 1) := by decide +kernel
theorem dX6_setsOf_13 : decode cX6_setsOf 13 = .ok (.goto 4, 3) := by decide +kernel
theorem dX6_setsOf_16 : decode cX6_setsOf 16 = .ok (.lconst 1, 1) := by decide +kernel
theorem dX6_setsOf_17 : decode cX6_setsOf 17 = .ok (.lstore_n 3, 1) := by decide +kernel
theorem dX6_setsOf_18 : decode cX6_setsOf 18 = .ok (.iconst 1, 1) := by decide +kernel
theorem dX6_setsOf_19 : decode cX6_setsOf 19 = .ok (.istore 5, 2) := by decide +kernel
theorem dX6_setsOf_21 : decode cX6_setsOf 21 = .ok (.iload 5, 2) := by decide +kernel
theorem dX6_setsOf_23 : decode cX6_setsOf 23 = .ok (.iload_n 2, 1) := by decide +kernel
theorem dX6_setsOf_24 : decode cX6_setsOf 24 = .ok (.if_icmp .gt 23, 3) := by decide +kernel
theorem dX6_setsOf_27 : decode cX6_setsOf 27 = .ok (.lload_n 3, 1) := by decide +kernel
theorem dX6_setsOf_28 : decode cX6_setsOf 28 = .ok (.iload_n 0, 1) := by decide +kernel
theorem dX6_setsOf_29 : decode cX6_setsOf 29 = .ok (.iload_n 2, 1) := by decide +kernel
theorem dX6_setsOf_30 : decode cX6_setsOf 30 = .ok (.isub, 1) := by decide +kernel
theorem dX6_setsOf_31 : decode cX6_setsOf 31 = .ok (.iload 5, 2) := by decide +kernel
theorem dX6_setsOf_33 : decode cX6_setsOf 33 = .ok (.iadd, 1) := by decide +kernel
theorem dX6_setsOf_34 : decode cX6_setsOf 34 = .ok (.i2l, 1) := by decide +kernel
theorem dX6_setsOf_35 : decode cX6_setsOf 35 = .ok (.lmul, 1) := by decide +kernel
theorem dX6_setsOf_36 : decode cX6_setsOf 36 = .ok (.iload 5, 2) := by decide +kernel
theorem dX6_setsOf_38 : decode cX6_setsOf 38 = .ok (.i2l, 1) := by decide +kernel
theorem dX6_setsOf_39 : decode cX6_setsOf 39 = .ok (.ldiv, 1) := by decide +kernel
theorem dX6_setsOf_40 : decode cX6_setsOf 40 = .ok (.lstore_n 3, 1) := by decide +kernel
theorem dX6_setsOf_41 : decode cX6_setsOf 41 = .ok (.iinc 5 1, 3) := by decide +kernel
theorem dX6_setsOf_44 : decode cX6_setsOf 44 = .ok (.goto (-23), 3) := by decide +kernel
theorem dX6_setsOf_47 : decode cX6_setsOf 47 = .ok (.lload_n 3, 1) := by decide +kernel
theorem dX6_setsOf_48 : decode cX6_setsOf 48 = .ok (.lreturn, 1) := by decide +kernel
theorem dX6_commonDivisor_0 : decode cX6_commonDivisor 0 = .ok (.lload_n 0, 1) := by decide +kernel
theorem dX6_commonDivisor_1 : decode cX6_commonDivisor 1 = .ok (.lstore 4, 2) := by decide +kernel
theorem dX6_commonDivisor_3 : decode cX6_commonDivisor 3 = .ok (.lload_n 2, 1) := by decide +kernel
theorem dX6_commonDivisor_4 : decode cX6_commonDivisor 4 = .ok (.lstore 6, 2) := by decide +kernel
theorem dX6_commonDivisor_6 : decode cX6_commonDivisor 6 = .ok (.iconst 0, 1) := by decide +kernel
theorem dX6_commonDivisor_7 : decode cX6_commonDivisor 7 = .ok (.istore 8, 2) := by decide +kernel
theorem dX6_commonDivisor_9 : decode cX6_commonDivisor 9 = .ok (.iload 8, 2) := by decide +kernel
theorem dX6_commonDivisor_11 : decode cX6_commonDivisor 11 = .ok (.sipush 1000, 3) := by decide +kernel
theorem dX6_commonDivisor_14 : decode cX6_commonDivisor 14 = .ok (.if_icmp .ge 31, 3) := by decide +kernel
theorem dX6_commonDivisor_17 : decode cX6_commonDivisor 17 = .ok (.lload 6, 2) := by decide +kernel
theorem dX6_commonDivisor_19 : decode cX6_commonDivisor 19 = .ok (.lconst 0, 1) := by decide +kernel
theorem dX6_commonDivisor_20 : decode cX6_commonDivisor 20 = .ok (.lcmp, 1) := by decide +kernel
theorem dX6_commonDivisor_21 : decode cX6_commonDivisor 21 = .ok (.ifCond .eq 24, 3) := by decide +kernel
theorem dX6_commonDivisor_24 : decode cX6_commonDivisor 24 = .ok (.lload 4, 2) := by decide +kernel
theorem dX6_commonDivisor_26 : decode cX6_commonDivisor 26 = .ok (.lload 6, 2) := by decide +kernel
theorem dX6_commonDivisor_28 : decode cX6_commonDivisor 28 = .ok (.lrem, 1) := by decide +kernel
theorem dX6_commonDivisor_29 : decode cX6_commonDivisor 29 = .ok (.lstore 9, 2) := by decide +kernel
theorem dX6_commonDivisor_31 : decode cX6_commonDivisor 31 = .ok (.lload 6, 2) := by decide +kernel
theorem dX6_commonDivisor_33 : decode cX6_commonDivisor 33 = .ok (.lstore 4, 2) := by decide +kernel
theorem dX6_commonDivisor_35 : decode cX6_commonDivisor 35 = .ok (.lload 9, 2) := by decide +kernel
theorem dX6_commonDivisor_37 : decode cX6_commonDivisor 37 = .ok (.lstore 6, 2) := by decide +kernel
theorem dX6_commonDivisor_39 : decode cX6_commonDivisor 39 = .ok (.iinc 8 1, 3) := by decide +kernel
theorem dX6_commonDivisor_42 : decode cX6_commonDivisor 42 = .ok (.goto (-33), 3) := by decide +kernel
theorem dX6_commonDivisor_45 : decode cX6_commonDivisor 45 = .ok (.lload 4, 2) := by decide +kernel
theorem dX6_commonDivisor_47 : decode cX6_commonDivisor 47 = .ok (.lconst 1, 1) := by decide +kernel
theorem dX6_commonDivisor_48 : decode cX6_commonDivisor 48 = .ok (.invokestatic 57, 3) := by decide +kernel
theorem dX6_commonDivisor_51 : decode cX6_commonDivisor 51 = .ok (.lreturn, 1) := by decide +kernel
theorem dX7_init_0 : decode cX7_init 0 = .ok (.aload_n 0, 1) := by decide +kernel
theorem dX7_init_1 : decode cX7_init 1 = .ok (.invokespecial 1, 3) := by decide +kernel
theorem dX7_init_4 : decode cX7_init 4 = .ok (.aload_n 0, 1) := by decide +kernel
theorem dX7_init_5 : decode cX7_init 5 = .ok (.new 7, 3) := by decide +kernel
theorem dX7_init_8 : decode cX7_init 8 = .ok (.dup, 1) := by decide +kernel
theorem dX7_init_9 : decode cX7_init 9 = .ok (.iconst 0, 1) := by decide +kernel
theorem dX7_init_10 : decode cX7_init 10 = .ok (.invokespecial 9, 3) := by decide +kernel
theorem dX7_init_13 : decode cX7_init 13 = .ok (.putfield 12, 3) := by decide +kernel
theorem dX7_init_16 : decode cX7_init 16 = .ok (.aload_n 0, 1) := by decide +kernel
theorem dX7_init_17 : decode cX7_init 17 = .ok (.new 7, 3) := by decide +kernel
theorem dX7_init_20 : decode cX7_init 20 = .ok (.dup, 1) := by decide +kernel
theorem dX7_init_21 : decode cX7_init 21 = .ok (.iconst 1, 1) := by decide +kernel
theorem dX7_init_22 : decode cX7_init 22 = .ok (.invokespecial 9, 3) := by decide +kernel
theorem dX7_init_25 : decode cX7_init 25 = .ok (.putfield 18, 3) := by decide +kernel
theorem dX7_init_28 : decode cX7_init 28 = .ok (.aload_n 0, 1) := by decide +kernel
theorem dX7_init_29 : decode cX7_init 29 = .ok (.iconst 2, 1) := by decide +kernel
theorem dX7_init_30 : decode cX7_init 30 = .ok (.anewarray 7, 3) := by decide +kernel
theorem dX7_init_33 : decode cX7_init 33 = .ok (.putfield 21, 3) := by decide +kernel
theorem dX7_init_36 : decode cX7_init 36 = .ok (.aload_n 0, 1) := by decide +kernel
theorem dX7_init_37 : decode cX7_init 37 = .ok (.iconst 2, 1) := by decide +kernel
theorem dX7_init_38 : decode cX7_init 38 = .ok (.newarray .boolean, 2) := by decide +kernel
theorem dX7_init_40 : decode cX7_init 40 = .ok (.putfield 25, 3) := by decide +kernel
theorem dX7_init_43 : decode cX7_init 43 = .ok (.iconst 0, 1) := by decide +kernel
theorem dX7_init_44 : decode cX7_init 44 = .ok (.istore_n 1, 1) := by decide +kernel
theorem dX7_init_45 : decode cX7_init 45 = .ok (.iload_n 1, 1) := by decide +kernel
