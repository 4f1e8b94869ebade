section
-- ===== PART A: goes FIRST, ahead of the names: the tables' words, and 'selects' of the private methods out of them =====
/-- a private method of a class that the tables say can be made, by its rows of tables_1 -/
def lw_okq (q : MethodName × Nat) : Prop := (q.1.cls ≠ "java/lang/invoke/MethodHandle" ∧ q.1.cls ≠ "java/lang/invoke/VarHandle") ∧ Cond.instantiable q.1.cls q.2 ∈ tables_1 ∧ Cond.privateMethod q.1 ∈ tables_1 ∧ Cond.instanceMethod q.1 ∈ tables_1
theorem lw_p0 : lw_okq (⟨"StagedRollout$PlanText", "parseStage", "(I)Z"⟩, 4) := ⟨⟨by decide +kernel, by decide +kernel⟩, List.mem_of_getElem? (i := 191) (by decide +kernel), List.mem_of_getElem? (i := 343) (by decide +kernel), List.mem_of_getElem? (i := 344) (by decide +kernel)⟩
theorem lw_p1 : lw_okq (⟨"StagedRollout$PlanText", "parseCells", "(I)I"⟩, 4) := ⟨⟨by decide +kernel, by decide +kernel⟩, List.mem_of_getElem? (i := 191) (by decide +kernel), List.mem_of_getElem? (i := 347) (by decide +kernel), List.mem_of_getElem? (i := 348) (by decide +kernel)⟩
theorem lw_p2 : lw_okq (⟨"StagedRollout$PlanText", "digitAt", "(I)I"⟩, 4) := ⟨⟨by decide +kernel, by decide +kernel⟩, List.mem_of_getElem? (i := 191) (by decide +kernel), List.mem_of_getElem? (i := 352) (by decide +kernel), List.mem_of_getElem? (i := 353) (by decide +kernel)⟩
theorem lw_p3 : lw_okq (⟨"StagedRollout$PlanText", "letterAt", "(I)I"⟩, 4) := ⟨⟨by decide +kernel, by decide +kernel⟩, List.mem_of_getElem? (i := 191) (by decide +kernel), List.mem_of_getElem? (i := 356) (by decide +kernel), List.mem_of_getElem? (i := 357) (by decide +kernel)⟩
theorem lw_p4 : lw_okq (⟨"StagedRollout$PlanText", "skip", "(C)Z"⟩, 4) := ⟨⟨by decide +kernel, by decide +kernel⟩, List.mem_of_getElem? (i := 191) (by decide +kernel), List.mem_of_getElem? (i := 361) (by decide +kernel), List.mem_of_getElem? (i := 362) (by decide +kernel)⟩
theorem lw_p5 : lw_okq (⟨"StagedRollout$PlanText", "parseNumber", "(I)I"⟩, 4) := ⟨⟨by decide +kernel, by decide +kernel⟩, List.mem_of_getElem? (i := 191) (by decide +kernel), List.mem_of_getElem? (i := 365) (by decide +kernel), List.mem_of_getElem? (i := 366) (by decide +kernel)⟩
theorem lw_p6 : lw_okq (⟨"StagedRollout", "move", "(IIII)I"⟩, 5) := ⟨⟨by decide +kernel, by decide +kernel⟩, List.mem_of_getElem? (i := 14) (by decide +kernel), List.mem_of_getElem? (i := 389) (by decide +kernel), List.mem_of_getElem? (i := 390) (by decide +kernel)⟩
theorem lw_p7 : lw_okq (⟨"StagedRollout$Log", "placeOf", "(II)I"⟩, 4) := ⟨⟨by decide +kernel, by decide +kernel⟩, List.mem_of_getElem? (i := 138) (by decide +kernel), List.mem_of_getElem? (i := 401) (by decide +kernel), List.mem_of_getElem? (i := 402) (by decide +kernel)⟩
theorem lw_p8 : lw_okq (⟨"StagedRollout$Tally", "computeChance", "()V"⟩, 6) := ⟨⟨by decide +kernel, by decide +kernel⟩, List.mem_of_getElem? (i := 52) (by decide +kernel), List.mem_of_getElem? (i := 447) (by decide +kernel), List.mem_of_getElem? (i := 448) (by decide +kernel)⟩
theorem lw_p9 : lw_okq (⟨"StagedRollout$Fleet", "moveInHour", "(LStagedRollout$Change;)V"⟩, 8) := ⟨⟨by decide +kernel, by decide +kernel⟩, List.mem_of_getElem? (i := 22) (by decide +kernel), List.mem_of_getElem? (i := 479) (by decide +kernel), List.mem_of_getElem? (i := 480) (by decide +kernel)⟩
theorem lw_p10 : lw_okq (⟨"StagedRollout$Fleet", "hasBadChance", "(LStagedRollout$Change;)Z"⟩, 8) := ⟨⟨by decide +kernel, by decide +kernel⟩, List.mem_of_getElem? (i := 22) (by decide +kernel), List.mem_of_getElem? (i := 483) (by decide +kernel), List.mem_of_getElem? (i := 484) (by decide +kernel)⟩
theorem lw_p11 : lw_okq (⟨"StagedRollout$Fleet", "turnStage", "(LStagedRollout$Change;)V"⟩, 8) := ⟨⟨by decide +kernel, by decide +kernel⟩, List.mem_of_getElem? (i := 22) (by decide +kernel), List.mem_of_getElem? (i := 494) (by decide +kernel), List.mem_of_getElem? (i := 495) (by decide +kernel)⟩
theorem lw_p12 : lw_okq (⟨"StagedRollout$Fleet", "reasonBeforeFirstStage", "(LStagedRollout$Change;)I"⟩, 8) := ⟨⟨by decide +kernel, by decide +kernel⟩, List.mem_of_getElem? (i := 22) (by decide +kernel), List.mem_of_getElem? (i := 530) (by decide +kernel), List.mem_of_getElem? (i := 531) (by decide +kernel)⟩
theorem lw_p13 : lw_okq (⟨"StagedRollout$Fleet", "lacksDone", "(I)Z"⟩, 8) := ⟨⟨by decide +kernel, by decide +kernel⟩, List.mem_of_getElem? (i := 22) (by decide +kernel), List.mem_of_getElem? (i := 534) (by decide +kernel), List.mem_of_getElem? (i := 535) (by decide +kernel)⟩
theorem lw_p14 : lw_okq (⟨"StagedRollout$Fleet", "meetsOtherRisk", "(LStagedRollout$Change;)Z"⟩, 8) := ⟨⟨by decide +kernel, by decide +kernel⟩, List.mem_of_getElem? (i := 22) (by decide +kernel), List.mem_of_getElem? (i := 538) (by decide +kernel), List.mem_of_getElem? (i := 539) (by decide +kernel)⟩
theorem lw_p15 : lw_okq (⟨"StagedRollout$Fleet", "goOn", "(LStagedRollout$Change;)V"⟩, 8) := ⟨⟨by decide +kernel, by decide +kernel⟩, List.mem_of_getElem? (i := 22) (by decide +kernel), List.mem_of_getElem? (i := 542) (by decide +kernel), List.mem_of_getElem? (i := 543) (by decide +kernel)⟩
def lw_privs_1 : List (MethodName × Nat) := [(⟨"StagedRollout$PlanText", "parseStage", "(I)Z"⟩, 4), (⟨"StagedRollout$PlanText", "parseCells", "(I)I"⟩, 4), (⟨"StagedRollout$PlanText", "digitAt", "(I)I"⟩, 4), (⟨"StagedRollout$PlanText", "letterAt", "(I)I"⟩, 4), (⟨"StagedRollout$PlanText", "skip", "(C)Z"⟩, 4), (⟨"StagedRollout$PlanText", "parseNumber", "(I)I"⟩, 4), (⟨"StagedRollout", "move", "(IIII)I"⟩, 5), (⟨"StagedRollout$Log", "placeOf", "(II)I"⟩, 4), (⟨"StagedRollout$Tally", "computeChance", "()V"⟩, 6), (⟨"StagedRollout$Fleet", "moveInHour", "(LStagedRollout$Change;)V"⟩, 8), (⟨"StagedRollout$Fleet", "hasBadChance", "(LStagedRollout$Change;)Z"⟩, 8), (⟨"StagedRollout$Fleet", "turnStage", "(LStagedRollout$Change;)V"⟩, 8), (⟨"StagedRollout$Fleet", "reasonBeforeFirstStage", "(LStagedRollout$Change;)I"⟩, 8), (⟨"StagedRollout$Fleet", "lacksDone", "(I)Z"⟩, 8), (⟨"StagedRollout$Fleet", "meetsOtherRisk", "(LStagedRollout$Change;)Z"⟩, 8), (⟨"StagedRollout$Fleet", "goOn", "(LStagedRollout$Change;)V"⟩, 8)]
theorem lw_r1 : ∀ q ∈ lw_privs_1, lw_okq q := List.forall_mem_cons.mpr ⟨lw_p0, List.forall_mem_cons.mpr ⟨lw_p1, List.forall_mem_cons.mpr ⟨lw_p2, List.forall_mem_cons.mpr ⟨lw_p3, List.forall_mem_cons.mpr ⟨lw_p4, List.forall_mem_cons.mpr ⟨lw_p5, List.forall_mem_cons.mpr ⟨lw_p6, List.forall_mem_cons.mpr ⟨lw_p7, List.forall_mem_cons.mpr ⟨lw_p8, List.forall_mem_cons.mpr ⟨lw_p9, List.forall_mem_cons.mpr ⟨lw_p10, List.forall_mem_cons.mpr ⟨lw_p11, List.forall_mem_cons.mpr ⟨lw_p12, List.forall_mem_cons.mpr ⟨lw_p13, List.forall_mem_cons.mpr ⟨lw_p14, List.forall_mem_cons.mpr ⟨lw_p15, fun _ h => absurd h List.not_mem_nil⟩⟩⟩⟩⟩⟩⟩⟩⟩⟩⟩⟩⟩⟩⟩⟩
theorem lw_p16 : lw_okq (⟨"StagedRollout", "mixChange", "(JI)J"⟩, 5) := ⟨⟨by decide +kernel, by decide +kernel⟩, List.mem_of_getElem? (i := 14) (by decide +kernel), List.mem_of_getElem? (i := 654) (by decide +kernel), List.mem_of_getElem? (i := 655) (by decide +kernel)⟩
theorem lw_p17 : lw_okq (⟨"StagedRolloutModel", "puts", "(II)I"⟩, 15) := ⟨⟨by decide +kernel, by decide +kernel⟩, List.mem_of_getElem? (i := 661) (by decide +kernel), List.mem_of_getElem? (i := 725) (by decide +kernel), List.mem_of_getElem? (i := 726) (by decide +kernel)⟩
theorem lw_p18 : lw_okq (⟨"StagedRolloutModel", "isChange", "(I)Z"⟩, 15) := ⟨⟨by decide +kernel, by decide +kernel⟩, List.mem_of_getElem? (i := 661) (by decide +kernel), List.mem_of_getElem? (i := 748) (by decide +kernel), List.mem_of_getElem? (i := 749) (by decide +kernel)⟩
theorem lw_p19 : lw_okq (⟨"StagedRolloutModel", "cellsOf", "(II)I"⟩, 15) := ⟨⟨by decide +kernel, by decide +kernel⟩, List.mem_of_getElem? (i := 661) (by decide +kernel), List.mem_of_getElem? (i := 752) (by decide +kernel), List.mem_of_getElem? (i := 753) (by decide +kernel)⟩
theorem lw_p20 : lw_okq (⟨"StagedRolloutModel", "adds", "(IIII)V"⟩, 15) := ⟨⟨by decide +kernel, by decide +kernel⟩, List.mem_of_getElem? (i := 661) (by decide +kernel), List.mem_of_getElem? (i := 759) (by decide +kernel), List.mem_of_getElem? (i := 760) (by decide +kernel)⟩
theorem lw_p21 : lw_okq (⟨"StagedRolloutModel", "isText", "()Z"⟩, 15) := ⟨⟨by decide +kernel, by decide +kernel⟩, List.mem_of_getElem? (i := 661) (by decide +kernel), List.mem_of_getElem? (i := 790) (by decide +kernel), List.mem_of_getElem? (i := 791) (by decide +kernel)⟩
theorem lw_p22 : lw_okq (⟨"StagedRolloutModel", "isStage", "(I)Z"⟩, 15) := ⟨⟨by decide +kernel, by decide +kernel⟩, List.mem_of_getElem? (i := 661) (by decide +kernel), List.mem_of_getElem? (i := 794) (by decide +kernel), List.mem_of_getElem? (i := 795) (by decide +kernel)⟩
theorem lw_p23 : lw_okq (⟨"StagedRolloutModel", "cells", "(I)Z"⟩, 15) := ⟨⟨by decide +kernel, by decide +kernel⟩, List.mem_of_getElem? (i := 661) (by decide +kernel), List.mem_of_getElem? (i := 798) (by decide +kernel), List.mem_of_getElem? (i := 799) (by decide +kernel)⟩
theorem lw_p24 : lw_okq (⟨"StagedRolloutModel", "digit", "()I"⟩, 15) := ⟨⟨by decide +kernel, by decide +kernel⟩, List.mem_of_getElem? (i := 661) (by decide +kernel), List.mem_of_getElem? (i := 802) (by decide +kernel), List.mem_of_getElem? (i := 803) (by decide +kernel)⟩
theorem lw_p25 : lw_okq (⟨"StagedRolloutModel", "here", "()I"⟩, 15) := ⟨⟨by decide +kernel, by decide +kernel⟩, List.mem_of_getElem? (i := 661) (by decide +kernel), List.mem_of_getElem? (i := 806) (by decide +kernel), List.mem_of_getElem? (i := 807) (by decide +kernel)⟩
theorem lw_p26 : lw_okq (⟨"StagedRolloutModel", "isCell", "(I)Z"⟩, 15) := ⟨⟨by decide +kernel, by decide +kernel⟩, List.mem_of_getElem? (i := 661) (by decide +kernel), List.mem_of_getElem? (i := 810) (by decide +kernel), List.mem_of_getElem? (i := 811) (by decide +kernel)⟩
theorem lw_p27 : lw_okq (⟨"StagedRolloutModel", "takes", "(I)Z"⟩, 15) := ⟨⟨by decide +kernel, by decide +kernel⟩, List.mem_of_getElem? (i := 661) (by decide +kernel), List.mem_of_getElem? (i := 814) (by decide +kernel), List.mem_of_getElem? (i := 815) (by decide +kernel)⟩
theorem lw_p28 : lw_okq (⟨"StagedRolloutModel", "number", "(I)Z"⟩, 15) := ⟨⟨by decide +kernel, by decide +kernel⟩, List.mem_of_getElem? (i := 661) (by decide +kernel), List.mem_of_getElem? (i := 818) (by decide +kernel), List.mem_of_getElem? (i := 819) (by decide +kernel)⟩
theorem lw_p29 : lw_okq (⟨"StagedRolloutModel", "becomes", "(III)I"⟩, 15) := ⟨⟨by decide +kernel, by decide +kernel⟩, List.mem_of_getElem? (i := 661) (by decide +kernel), List.mem_of_getElem? (i := 834) (by decide +kernel), List.mem_of_getElem? (i := 835) (by decide +kernel)⟩
theorem lw_p30 : lw_okq (⟨"StagedRolloutModel", "notes", "(III)V"⟩, 15) := ⟨⟨by decide +kernel, by decide +kernel⟩, List.mem_of_getElem? (i := 661) (by decide +kernel), List.mem_of_getElem? (i := 838) (by decide +kernel), List.mem_of_getElem? (i := 839) (by decide +kernel)⟩
theorem lw_p31 : lw_okq (⟨"StagedRolloutModel", "reached", "(I)I"⟩, 15) := ⟨⟨by decide +kernel, by decide +kernel⟩, List.mem_of_getElem? (i := 661) (by decide +kernel), List.mem_of_getElem? (i := 854) (by decide +kernel), List.mem_of_getElem? (i := 855) (by decide +kernel)⟩
def lw_privs_2 : List (MethodName × Nat) := [(⟨"StagedRollout", "mixChange", "(JI)J"⟩, 5), (⟨"StagedRolloutModel", "puts", "(II)I"⟩, 15), (⟨"StagedRolloutModel", "isChange", "(I)Z"⟩, 15), (⟨"StagedRolloutModel", "cellsOf", "(II)I"⟩, 15), (⟨"StagedRolloutModel", "adds", "(IIII)V"⟩, 15), (⟨"StagedRolloutModel", "isText", "()Z"⟩, 15), (⟨"StagedRolloutModel", "isStage", "(I)Z"⟩, 15), (⟨"StagedRolloutModel", "cells", "(I)Z"⟩, 15), (⟨"StagedRolloutModel", "digit", "()I"⟩, 15), (⟨"StagedRolloutModel", "here", "()I"⟩, 15), (⟨"StagedRolloutModel", "isCell", "(I)Z"⟩, 15), (⟨"StagedRolloutModel", "takes", "(I)Z"⟩, 15), (⟨"StagedRolloutModel", "number", "(I)Z"⟩, 15), (⟨"StagedRolloutModel", "becomes", "(III)I"⟩, 15), (⟨"StagedRolloutModel", "notes", "(III)V"⟩, 15), (⟨"StagedRolloutModel", "reached", "(I)I"⟩, 15)]
theorem lw_r2 : ∀ q ∈ lw_privs_2, lw_okq q := List.forall_mem_cons.mpr ⟨lw_p16, List.forall_mem_cons.mpr ⟨lw_p17, List.forall_mem_cons.mpr ⟨lw_p18, List.forall_mem_cons.mpr ⟨lw_p19, List.forall_mem_cons.mpr ⟨lw_p20, List.forall_mem_cons.mpr ⟨lw_p21, List.forall_mem_cons.mpr ⟨lw_p22, List.forall_mem_cons.mpr ⟨lw_p23, List.forall_mem_cons.mpr ⟨lw_p24, List.forall_mem_cons.mpr ⟨lw_p25, List.forall_mem_cons.mpr ⟨lw_p26, List.forall_mem_cons.mpr ⟨lw_p27, List.forall_mem_cons.mpr ⟨lw_p28, List.forall_mem_cons.mpr ⟨lw_p29, List.forall_mem_cons.mpr ⟨lw_p30, List.forall_mem_cons.mpr ⟨lw_p31, fun _ h => absurd h List.not_mem_nil⟩⟩⟩⟩⟩⟩⟩⟩⟩⟩⟩⟩⟩⟩⟩⟩
theorem lw_p32 : lw_okq (⟨"StagedRolloutModel", "isOut", "(I)Z"⟩, 15) := ⟨⟨by decide +kernel, by decide +kernel⟩, List.mem_of_getElem? (i := 661) (by decide +kernel), List.mem_of_getElem? (i := 858) (by decide +kernel), List.mem_of_getElem? (i := 859) (by decide +kernel)⟩
theorem lw_p33 : lw_okq (⟨"StagedRolloutModel", "passes", "()V"⟩, 15) := ⟨⟨by decide +kernel, by decide +kernel⟩, List.mem_of_getElem? (i := 661) (by decide +kernel), List.mem_of_getElem? (i := 866) (by decide +kernel), List.mem_of_getElem? (i := 867) (by decide +kernel)⟩
theorem lw_p34 : lw_okq (⟨"StagedRolloutModel", "isBad", "(I)Z"⟩, 15) := ⟨⟨by decide +kernel, by decide +kernel⟩, List.mem_of_getElem? (i := 661) (by decide +kernel), List.mem_of_getElem? (i := 870) (by decide +kernel), List.mem_of_getElem? (i := 871) (by decide +kernel)⟩
theorem lw_p35 : lw_okq (⟨"StagedRolloutModel", "findChance", "(I)V"⟩, 15) := ⟨⟨by decide +kernel, by decide +kernel⟩, List.mem_of_getElem? (i := 661) (by decide +kernel), List.mem_of_getElem? (i := 874) (by decide +kernel), List.mem_of_getElem? (i := 875) (by decide +kernel)⟩
theorem lw_p36 : lw_okq (⟨"StagedRolloutModel", "sets", "(II)J"⟩, 15) := ⟨⟨by decide +kernel, by decide +kernel⟩, List.mem_of_getElem? (i := 661) (by decide +kernel), List.mem_of_getElem? (i := 878) (by decide +kernel), List.mem_of_getElem? (i := 879) (by decide +kernel)⟩
theorem lw_p37 : lw_okq (⟨"StagedRolloutModel", "turnsOn", "(I)V"⟩, 15) := ⟨⟨by decide +kernel, by decide +kernel⟩, List.mem_of_getElem? (i := 661) (by decide +kernel), List.mem_of_getElem? (i := 883) (by decide +kernel), List.mem_of_getElem? (i := 884) (by decide +kernel)⟩
theorem lw_p38 : lw_okq (⟨"StagedRolloutModel", "reason", "(I)I"⟩, 15) := ⟨⟨by decide +kernel, by decide +kernel⟩, List.mem_of_getElem? (i := 661) (by decide +kernel), List.mem_of_getElem? (i := 887) (by decide +kernel), List.mem_of_getElem? (i := 888) (by decide +kernel)⟩
theorem lw_p39 : lw_okq (⟨"StagedRolloutModel", "hoursSince", "(I)I"⟩, 15) := ⟨⟨by decide +kernel, by decide +kernel⟩, List.mem_of_getElem? (i := 661) (by decide +kernel), List.mem_of_getElem? (i := 891) (by decide +kernel), List.mem_of_getElem? (i := 892) (by decide +kernel)⟩
theorem lw_p40 : lw_okq (⟨"StagedRolloutModel", "lacks", "(I)Z"⟩, 15) := ⟨⟨by decide +kernel, by decide +kernel⟩, List.mem_of_getElem? (i := 661) (by decide +kernel), List.mem_of_getElem? (i := 895) (by decide +kernel), List.mem_of_getElem? (i := 896) (by decide +kernel)⟩
theorem lw_p41 : lw_okq (⟨"StagedRolloutModel", "isFrozenHour", "(I)Z"⟩, 15) := ⟨⟨by decide +kernel, by decide +kernel⟩, List.mem_of_getElem? (i := 661) (by decide +kernel), List.mem_of_getElem? (i := 899) (by decide +kernel), List.mem_of_getElem? (i := 900) (by decide +kernel)⟩
theorem lw_p42 : lw_okq (⟨"StagedRolloutModel", "areAllDone", "(I)Z"⟩, 15) := ⟨⟨by decide +kernel, by decide +kernel⟩, List.mem_of_getElem? (i := 661) (by decide +kernel), List.mem_of_getElem? (i := 903) (by decide +kernel), List.mem_of_getElem? (i := 904) (by decide +kernel)⟩
theorem lw_p43 : lw_okq (⟨"StagedRolloutModel", "isOtherRisk", "(I)Z"⟩, 15) := ⟨⟨by decide +kernel, by decide +kernel⟩, List.mem_of_getElem? (i := 661) (by decide +kernel), List.mem_of_getElem? (i := 907) (by decide +kernel), List.mem_of_getElem? (i := 908) (by decide +kernel)⟩
theorem lw_p44 : lw_okq (⟨"StagedRolloutModel", "goesOn", "(I)V"⟩, 15) := ⟨⟨by decide +kernel, by decide +kernel⟩, List.mem_of_getElem? (i := 661) (by decide +kernel), List.mem_of_getElem? (i := 911) (by decide +kernel), List.mem_of_getElem? (i := 912) (by decide +kernel)⟩
theorem lw_p45 : lw_okq (⟨"StagedRolloutModel", "tells", "(II)I"⟩, 15) := ⟨⟨by decide +kernel, by decide +kernel⟩, List.mem_of_getElem? (i := 661) (by decide +kernel), List.mem_of_getElem? (i := 923) (by decide +kernel), List.mem_of_getElem? (i := 924) (by decide +kernel)⟩
theorem lw_p46 : lw_okq (⟨"StagedRolloutModel", "having", "(I)I"⟩, 15) := ⟨⟨by decide +kernel, by decide +kernel⟩, List.mem_of_getElem? (i := 661) (by decide +kernel), List.mem_of_getElem? (i := 943) (by decide +kernel), List.mem_of_getElem? (i := 944) (by decide +kernel)⟩
theorem lw_p47 : lw_okq (⟨"StagedRolloutModel", "isOver", "(I)Z"⟩, 15) := ⟨⟨by decide +kernel, by decide +kernel⟩, List.mem_of_getElem? (i := 661) (by decide +kernel), List.mem_of_getElem? (i := 955) (by decide +kernel), List.mem_of_getElem? (i := 956) (by decide +kernel)⟩
def lw_privs_3 : List (MethodName × Nat) := [(⟨"StagedRolloutModel", "isOut", "(I)Z"⟩, 15), (⟨"StagedRolloutModel", "passes", "()V"⟩, 15), (⟨"StagedRolloutModel", "isBad", "(I)Z"⟩, 15), (⟨"StagedRolloutModel", "findChance", "(I)V"⟩, 15), (⟨"StagedRolloutModel", "sets", "(II)J"⟩, 15), (⟨"StagedRolloutModel", "turnsOn", "(I)V"⟩, 15), (⟨"StagedRolloutModel", "reason", "(I)I"⟩, 15), (⟨"StagedRolloutModel", "hoursSince", "(I)I"⟩, 15), (⟨"StagedRolloutModel", "lacks", "(I)Z"⟩, 15), (⟨"StagedRolloutModel", "isFrozenHour", "(I)Z"⟩, 15), (⟨"StagedRolloutModel", "areAllDone", "(I)Z"⟩, 15), (⟨"StagedRolloutModel", "isOtherRisk", "(I)Z"⟩, 15), (⟨"StagedRolloutModel", "goesOn", "(I)V"⟩, 15), (⟨"StagedRolloutModel", "tells", "(II)I"⟩, 15), (⟨"StagedRolloutModel", "having", "(I)I"⟩, 15), (⟨"StagedRolloutModel", "isOver", "(I)Z"⟩, 15)]
theorem lw_r3 : ∀ q ∈ lw_privs_3, lw_okq q := List.forall_mem_cons.mpr ⟨lw_p32, List.forall_mem_cons.mpr ⟨lw_p33, List.forall_mem_cons.mpr ⟨lw_p34, List.forall_mem_cons.mpr ⟨lw_p35, List.forall_mem_cons.mpr ⟨lw_p36, List.forall_mem_cons.mpr ⟨lw_p37, List.forall_mem_cons.mpr ⟨lw_p38, List.forall_mem_cons.mpr ⟨lw_p39, List.forall_mem_cons.mpr ⟨lw_p40, List.forall_mem_cons.mpr ⟨lw_p41, List.forall_mem_cons.mpr ⟨lw_p42, List.forall_mem_cons.mpr ⟨lw_p43, List.forall_mem_cons.mpr ⟨lw_p44, List.forall_mem_cons.mpr ⟨lw_p45, List.forall_mem_cons.mpr ⟨lw_p46, List.forall_mem_cons.mpr ⟨lw_p47, fun _ h => absurd h List.not_mem_nil⟩⟩⟩⟩⟩⟩⟩⟩⟩⟩⟩⟩⟩⟩⟩⟩
def lw_privs : List (MethodName × Nat) := lw_privs_1 ++ (lw_privs_2 ++ (lw_privs_3))
def lw_tbl : List Cond := k2_sels lw_privs ++ tables_1
theorem lw_privs_ok : ∀ q ∈ lw_privs, lw_okq q := by
  show ∀ q ∈ lw_privs_1 ++ (lw_privs_2 ++ (lw_privs_3)), lw_okq q
  exact List.forall_mem_append.mpr ⟨lw_r1, List.forall_mem_append.mpr ⟨lw_r2, lw_r3⟩⟩
end
section
def RX0 : String := "StagedRollout$Change"
def TX0 : u_T := fun k => match k with
  | 0 => ("StagedRollout$Change", "number", "I", true)
  | 1 => ("StagedRollout$Change", "plan", "LStagedRollout$Plan;", true)
  | 2 => ("StagedRollout$Change", "tally", "LStagedRollout$Tally;", true)
  | 3 => ("StagedRollout$Change", "begunAt", "[I", true)
  | 4 => ("StagedRollout$Change", "doneFirst", "I", false)
  | 5 => ("StagedRollout$Change", "state", "I", false)
  | 6 => ("StagedRollout$Change", "begun", "I", false)
  | _ => ("StagedRollout$Change", "isRisky", "Z", false)
def tyX0 : Nat → FieldType := fun k => match k with
  | 0 => .int
  | 1 => .object "StagedRollout$Plan"
  | 2 => .object "StagedRollout$Tally"
  | 3 => .array .int
  | 4 => .int
  | 5 => .int
  | 6 => .int
  | _ => .boolean
abbrev wsX00 : List Cond := u_ws RX0 TX0 8
theorem nmX0 : ∀ a, a < 8 → ∀ b, b < 8 → a ≠ b → (TX0 a).2.1 ≠ (TX0 b).2.1 := by decide +kernel
theorem tyX0_ok : ∀ k, k < 8 → parseFieldDescriptor (TX0 k).2.2.1 = some (tyX0 k) := by decide +kernel
abbrev cX0_init : ByteArray := prog_2_method_1_code
def yX0_init : MethodName := ⟨RX0, "<init>", "(I)V"⟩
abbrev cX0_makeNew : ByteArray := prog_2_method_2_code
def yX0_makeNew : MethodName := ⟨RX0, "makeNew", "(Z)V"⟩
abbrev cX0_copyFrom : ByteArray := prog_2_method_3_code
def yX0_copyFrom : MethodName := ⟨RX0, "copyFrom", "(LStagedRollout$Change;)V"⟩
abbrev cX0_isUnderWay : ByteArray := prog_2_method_4_code
def yX0_isUnderWay : MethodName := ⟨RX0, "isUnderWay", "()Z"⟩
abbrev cX0_isWatched : ByteArray := prog_2_method_5_code
def yX0_isWatched : MethodName := ⟨RX0, "isWatched", "()Z"⟩
abbrev cX0_hasFurtherStage : ByteArray := prog_2_method_6_code
def yX0_hasFurtherStage : MethodName := ⟨RX0, "hasFurtherStage", "()Z"⟩
abbrev cX0_isAt : ByteArray := prog_2_method_7_code
def yX0_isAt : MethodName := ⟨RX0, "isAt", "(I)Z"⟩
abbrev cX0_takesProbes : ByteArray := prog_2_method_8_code
def yX0_takesProbes : MethodName := ⟨RX0, "takesProbes", "(III)Z"⟩
abbrev cX0_hoursSinceLatest : ByteArray := prog_2_method_9_code
def yX0_hoursSinceLatest : MethodName := ⟨RX0, "hoursSinceLatest", "(I)I"⟩
abbrev cX0_waitsAt : ByteArray := prog_2_method_10_code
def yX0_waitsAt : MethodName := ⟨RX0, "waitsAt", "(I)Z"⟩
abbrev cX0_lacksSamples : ByteArray := prog_2_method_11_code
def yX0_lacksSamples : MethodName := ⟨RX0, "lacksSamples", "(I)Z"⟩
abbrev cX0_beginStage : ByteArray := prog_2_method_12_code
def yX0_beginStage : MethodName := ⟨RX0, "beginStage", "(I)V"⟩
def RX1 : String := "StagedRollout$Fleet"
def TX1 : u_T := fun k => match k with
  | 0 => ("StagedRollout$Fleet", "list", "[LStagedRollout$Change;", true)
  | 1 => ("StagedRollout$Fleet", "frozen", "LStagedRollout$FrozenHours;", true)
  | 2 => ("StagedRollout$Fleet", "log", "LStagedRollout$Log;", true)
  | 3 => ("StagedRollout$Fleet", "ignoresProbes", "Z", true)
  | 4 => ("StagedRollout$Fleet", "size", "I", false)
  | 5 => ("StagedRollout$Fleet", "cells", "I", false)
  | 6 => ("StagedRollout$Fleet", "hour", "I", false)
  | _ => ("StagedRollout$Fleet", "limit", "I", false)
def tyX1 : Nat → FieldType := fun k => match k with
  | 0 => .array (.object "StagedRollout$Change")
  | 1 => .object "StagedRollout$FrozenHours"
  | 2 => .object "StagedRollout$Log"
  | 3 => .boolean
  | 4 => .int
  | 5 => .int
  | 6 => .int
  | _ => .int
abbrev wsX10 : List Cond := u_ws RX1 TX1 8
theorem nmX1 : ∀ a, a < 8 → ∀ b, b < 8 → a ≠ b → (TX1 a).2.1 ≠ (TX1 b).2.1 := by decide +kernel
theorem tyX1_ok : ∀ k, k < 8 → parseFieldDescriptor (TX1 k).2.2.1 = some (tyX1 k) := by decide +kernel
abbrev cX1_init : ByteArray := prog_3_method_1_code
def yX1_init : MethodName := ⟨RX1, "<init>", "(Z)V"⟩
abbrev cX1_beginAnew : ByteArray := prog_3_method_2_code
def yX1_beginAnew : MethodName := ⟨RX1, "beginAnew", "(I)V"⟩
abbrev cX1_copyFrom : ByteArray := prog_3_method_3_code
def yX1_copyFrom : MethodName := ⟨RX1, "copyFrom", "(LStagedRollout$Fleet;)V"⟩
abbrev cX1_find : ByteArray := prog_3_method_4_code
def yX1_find : MethodName := ⟨RX1, "find", "(I)LStagedRollout$Change;"⟩
abbrev cX1_putChange : ByteArray := prog_3_method_5_code
def yX1_putChange : MethodName := ⟨RX1, "putChange", "(Z)Z"⟩
abbrev cX1_isCell : ByteArray := prog_3_method_6_code
def yX1_isCell : MethodName := ⟨RX1, "isCell", "(I)Z"⟩
abbrev cX1_allCells : ByteArray := prog_3_method_7_code
def yX1_allCells : MethodName := ⟨RX1, "allCells", "()I"⟩
abbrev cX1_changesOf : ByteArray := prog_3_method_8_code
def yX1_changesOf : MethodName := ⟨RX1, "changesOf", "(I)I"⟩
abbrev cX1_isOver : ByteArray := prog_3_method_9_code
def yX1_isOver : MethodName := ⟨RX1, "isOver", "(I)Z"⟩
abbrev cX1_takeProbes : ByteArray := prog_3_method_10_code
def yX1_takeProbes : MethodName := ⟨RX1, "takeProbes", "(III)I"⟩
abbrev cX1_reasonOf : ByteArray := prog_3_method_11_code
def yX1_reasonOf : MethodName := ⟨RX1, "reasonOf", "(LStagedRollout$Change;)I"⟩
abbrev cX1_reasonBeforeFirstStage : ByteArray := prog_3_method_12_code
def yX1_reasonBeforeFirstStage : MethodName := ⟨RX1, "reasonBeforeFirstStage", "(LStagedRollout$Change;)I"⟩
abbrev cX1_lacksDone : ByteArray := prog_3_method_13_code
def yX1_lacksDone : MethodName := ⟨RX1, "lacksDone", "(I)Z"⟩
abbrev cX1_meetsOtherRisk : ByteArray := prog_3_method_14_code
def yX1_meetsOtherRisk : MethodName := ⟨RX1, "meetsOtherRisk", "(LStagedRollout$Change;)Z"⟩
abbrev cX1_become : ByteArray := prog_3_method_15_code
def yX1_become : MethodName := ⟨RX1, "become", "(LStagedRollout$Change;II)V"⟩
abbrev cX1_passHour : ByteArray := prog_3_method_16_code
def yX1_passHour : MethodName := ⟨RX1, "passHour", "()V"⟩
abbrev cX1_moveInHour : ByteArray := prog_3_method_17_code
def yX1_moveInHour : MethodName := ⟨RX1, "moveInHour", "(LStagedRollout$Change;)V"⟩
abbrev cX1_hasBadChance : ByteArray := prog_3_method_18_code
def yX1_hasBadChance : MethodName := ⟨RX1, "hasBadChance", "(LStagedRollout$Change;)Z"⟩
abbrev cX1_turnStage : ByteArray := prog_3_method_19_code
def yX1_turnStage : MethodName := ⟨RX1, "turnStage", "(LStagedRollout$Change;)V"⟩
abbrev cX1_goOn : ByteArray := prog_3_method_20_code
def yX1_goOn : MethodName := ⟨RX1, "goOn", "(LStagedRollout$Change;)V"⟩
def RX2 : String := "StagedRollout$FrozenHours"
def TX2 : u_T := fun k => match k with
  | 0 => ("StagedRollout$FrozenHours", "from", "[I", true)
  | 1 => ("StagedRollout$FrozenHours", "to", "[I", true)
  | _ => ("StagedRollout$FrozenHours", "size", "I", false)
def tyX2 : Nat → FieldType := fun k => match k with
  | 0 => .array .int
  | 1 => .array .int
  | _ => .int
abbrev wsX20 : List Cond := u_ws RX2 TX2 3
theorem nmX2 : ∀ a, a < 3 → ∀ b, b < 3 → a ≠ b → (TX2 a).2.1 ≠ (TX2 b).2.1 := by decide +kernel
theorem tyX2_ok : ∀ k, k < 3 → parseFieldDescriptor (TX2 k).2.2.1 = some (tyX2 k) := by decide +kernel
abbrev cX2_init : ByteArray := prog_4_method_1_code
def yX2_init : MethodName := ⟨RX2, "<init>", "()V"⟩
abbrev cX2_put : ByteArray := prog_4_method_2_code
def yX2_put : MethodName := ⟨RX2, "put", "(II)Z"⟩
abbrev cX2_covers : ByteArray := prog_4_method_3_code
def yX2_covers : MethodName := ⟨RX2, "covers", "(I)Z"⟩
abbrev cX2_copyFrom : ByteArray := prog_4_method_4_code
def yX2_copyFrom : MethodName := ⟨RX2, "copyFrom", "(LStagedRollout$FrozenHours;)V"⟩
def RX3 : String := "StagedRollout$Log"
def TX3 : u_T := fun k => match k with
  | 0 => ("StagedRollout$Log", "numbers", "[I", true)
  | 1 => ("StagedRollout$Log", "oldest", "I", false)
  | 2 => ("StagedRollout$Log", "size", "I", false)
  | _ => ("StagedRollout$Log", "received", "I", false)
def tyX3 : Nat → FieldType := fun k => match k with
  | 0 => .array .int
  | 1 => .int
  | 2 => .int
  | _ => .int
abbrev wsX30 : List Cond := u_ws RX3 TX3 4
theorem nmX3 : ∀ a, a < 4 → ∀ b, b < 4 → a ≠ b → (TX3 a).2.1 ≠ (TX3 b).2.1 := by decide +kernel
theorem tyX3_ok : ∀ k, k < 4 → parseFieldDescriptor (TX3 k).2.2.1 = some (tyX3 k) := by decide +kernel
abbrev cX3_init : ByteArray := prog_5_method_1_code
def yX3_init : MethodName := ⟨RX3, "<init>", "()V"⟩
abbrev cX3_empty : ByteArray := prog_5_method_2_code
def yX3_empty : MethodName := ⟨RX3, "empty", "()V"⟩
abbrev cX3_put : ByteArray := prog_5_method_3_code
def yX3_put : MethodName := ⟨RX3, "put", "(IIII)V"⟩
abbrev cX3_number : ByteArray := prog_5_method_4_code
def yX3_number : MethodName := ⟨RX3, "number", "(II)I"⟩
abbrev cX3_placeOf : ByteArray := prog_5_method_5_code
def yX3_placeOf : MethodName := ⟨RX3, "placeOf", "(II)I"⟩
abbrev cX3_countOf : ByteArray := prog_5_method_6_code
def yX3_countOf : MethodName := ⟨RX3, "countOf", "(II)I"⟩
abbrev cX3_copyFrom : ByteArray := prog_5_method_7_code
def yX3_copyFrom : MethodName := ⟨RX3, "copyFrom", "(LStagedRollout$Log;)V"⟩
def RX4 : String := "StagedRollout$Plan"
def TX4 : u_T := fun k => match k with
  | 0 => ("StagedRollout$Plan", "numbers", "[I", true)
  | _ => ("StagedRollout$Plan", "size", "I", false)
def tyX4 : Nat → FieldType := fun k => match k with
  | 0 => .array .int
  | _ => .int
abbrev wsX40 : List Cond := u_ws RX4 TX4 2
theorem nmX4 : ∀ a, a < 2 → ∀ b, b < 2 → a ≠ b → (TX4 a).2.1 ≠ (TX4 b).2.1 := by decide +kernel
theorem tyX4_ok : ∀ k, k < 2 → parseFieldDescriptor (TX4 k).2.2.1 = some (tyX4 k) := by decide +kernel
abbrev cX4_init : ByteArray := prog_6_method_1_code
def yX4_init : MethodName := ⟨RX4, "<init>", "()V"⟩
abbrev cX4_put : ByteArray := prog_6_method_2_code
def yX4_put : MethodName := ⟨RX4, "put", "(III)Z"⟩
abbrev cX4_number : ByteArray := prog_6_method_3_code
def yX4_number : MethodName := ⟨RX4, "number", "(II)I"⟩
abbrev cX4_cellsOfFirst : ByteArray := prog_6_method_4_code
def yX4_cellsOfFirst : MethodName := ⟨RX4, "cellsOfFirst", "(I)I"⟩
abbrev cX4_copyFrom : ByteArray := prog_6_method_5_code
def yX4_copyFrom : MethodName := ⟨RX4, "copyFrom", "(LStagedRollout$Plan;)V"⟩
def RX5 : String := "StagedRollout$PlanText"
def TX5 : u_T := fun k => match k with
  | 0 => ("StagedRollout$PlanText", "letters", "[B", true)
  | 1 => ("StagedRollout$PlanText", "plan", "LStagedRollout$Plan;", true)
  | 2 => ("StagedRollout$PlanText", "length", "I", false)
  | _ => ("StagedRollout$PlanText", "at", "I", false)
def tyX5 : Nat → FieldType := fun k => match k with
  | 0 => .array .byte
  | 1 => .object "StagedRollout$Plan"
  | 2 => .int
  | _ => .int
abbrev wsX50 : List Cond := u_ws RX5 TX5 4
theorem nmX5 : ∀ a, a < 4 → ∀ b, b < 4 → a ≠ b → (TX5 a).2.1 ≠ (TX5 b).2.1 := by decide +kernel
theorem tyX5_ok : ∀ k, k < 4 → parseFieldDescriptor (TX5 k).2.2.1 = some (tyX5 k) := by decide +kernel
abbrev cX5_init : ByteArray := prog_7_method_1_code
def yX5_init : MethodName := ⟨RX5, "<init>", "()V"⟩
abbrev cX5_put : ByteArray := prog_7_method_2_code
def yX5_put : MethodName := ⟨RX5, "put", "(I)Z"⟩
abbrev cX5_parse : ByteArray := prog_7_method_3_code
def yX5_parse : MethodName := ⟨RX5, "parse", "(I)Z"⟩
abbrev cX5_parseStage : ByteArray := prog_7_method_4_code
def yX5_parseStage : MethodName := ⟨RX5, "parseStage", "(I)Z"⟩
abbrev cX5_parseCells : ByteArray := prog_7_method_5_code
def yX5_parseCells : MethodName := ⟨RX5, "parseCells", "(I)I"⟩
abbrev cX5_parseNumber : ByteArray := prog_7_method_6_code
def yX5_parseNumber : MethodName := ⟨RX5, "parseNumber", "(I)I"⟩
abbrev cX5_skip : ByteArray := prog_7_method_7_code
def yX5_skip : MethodName := ⟨RX5, "skip", "(C)Z"⟩
abbrev cX5_digitAt : ByteArray := prog_7_method_8_code
def yX5_digitAt : MethodName := ⟨RX5, "digitAt", "(I)I"⟩
abbrev cX5_letterAt : ByteArray := prog_7_method_9_code
def yX5_letterAt : MethodName := ⟨RX5, "letterAt", "(I)I"⟩
def RX6 : String := "StagedRollout$Tally"
def TX6 : u_T := fun k => match k with
  | 0 => ("StagedRollout$Tally", "badTreated", "I", false)
  | 1 => ("StagedRollout$Tally", "goodTreated", "I", false)
  | 2 => ("StagedRollout$Tally", "badControl", "I", false)
  | 3 => ("StagedRollout$Tally", "goodControl", "I", false)
  | 4 => ("StagedRollout$Tally", "numerator", "J", false)
  | _ => ("StagedRollout$Tally", "denominator", "J", false)
def tyX6 : Nat → FieldType := fun k => match k with
  | 0 => .int
  | 1 => .int
  | 2 => .int
  | 3 => .int
  | 4 => .long
  | _ => .long
abbrev wsX60 : List Cond := u_ws RX6 TX6 6
theorem nmX6 : ∀ a, a < 6 → ∀ b, b < 6 → a ≠ b → (TX6 a).2.1 ≠ (TX6 b).2.1 := by decide +kernel
theorem tyX6_ok : ∀ k, k < 6 → parseFieldDescriptor (TX6 k).2.2.1 = some (tyX6 k) := by decide +kernel
abbrev cX6_init : ByteArray := prog_8_method_1_code
def yX6_init : MethodName := ⟨RX6, "<init>", "()V"⟩
abbrev cX6_empty : ByteArray := prog_8_method_2_code
def yX6_empty : MethodName := ⟨RX6, "empty", "()V"⟩
abbrev cX6_copyFrom : ByteArray := prog_8_method_3_code
def yX6_copyFrom : MethodName := ⟨RX6, "copyFrom", "(LStagedRollout$Tally;)V"⟩
abbrev cX6_treated : ByteArray := prog_8_method_4_code
def yX6_treated : MethodName := ⟨RX6, "treated", "()I"⟩
abbrev cX6_control : ByteArray := prog_8_method_5_code
def yX6_control : MethodName := ⟨RX6, "control", "()I"⟩
abbrev cX6_takesTreated : ByteArray := prog_8_method_6_code
def yX6_takesTreated : MethodName := ⟨RX6, "takesTreated", "(II)Z"⟩
abbrev cX6_takesControl : ByteArray := prog_8_method_7_code
def yX6_takesControl : MethodName := ⟨RX6, "takesControl", "(II)Z"⟩
abbrev cX6_isAtMost : ByteArray := prog_8_method_8_code
def yX6_isAtMost : MethodName := ⟨RX6, "isAtMost", "(I)Z"⟩
abbrev cX6_computeChance : ByteArray := prog_8_method_9_code
def yX6_computeChance : MethodName := ⟨RX6, "computeChance", "()V"⟩
abbrev cX6_setsOf : ByteArray := prog_8_method_10_code
def yX6_setsOf : MethodName := ⟨RX6, "setsOf", "(II)J"⟩
abbrev cX6_commonDivisor : ByteArray := prog_8_method_11_code
def yX6_commonDivisor : MethodName := ⟨RX6, "commonDivisor", "(JJ)J"⟩
def RX7 : String := "StagedRollout"
def TX7 : u_T := fun k => match k with
  | 0 => ("StagedRollout", "fleet", "LStagedRollout$Fleet;", true)
  | 1 => ("StagedRollout", "trial", "LStagedRollout$Fleet;", true)
  | 2 => ("StagedRollout", "slots", "[LStagedRollout$Fleet;", true)
  | 3 => ("StagedRollout", "isKept", "[Z", true)
  | _ => ("StagedRollout", "text", "LStagedRollout$PlanText;", true)
def tyX7 : Nat → FieldType := fun k => match k with
  | 0 => .object "StagedRollout$Fleet"
  | 1 => .object "StagedRollout$Fleet"
  | 2 => .array (.object "StagedRollout$Fleet")
  | 3 => .array .boolean
  | _ => .object "StagedRollout$PlanText"
abbrev wsX70 : List Cond := u_ws RX7 TX7 5
theorem nmX7 : ∀ a, a < 5 → ∀ b, b < 5 → a ≠ b → (TX7 a).2.1 ≠ (TX7 b).2.1 := by decide +kernel
theorem tyX7_ok : ∀ k, k < 5 → parseFieldDescriptor (TX7 k).2.2.1 = some (tyX7 k) := by decide +kernel
abbrev cX7_init : ByteArray := prog_1_method_1_code
def yX7_init : MethodName := ⟨RX7, "<init>", "()V"⟩
abbrev cX7_begin : ByteArray := prog_1_method_2_code
def yX7_begin : MethodName := ⟨RX7, "begin", "(I)I"⟩
abbrev cX7_setLimit : ByteArray := prog_1_method_3_code
def yX7_setLimit : MethodName := ⟨RX7, "setLimit", "(I)I"⟩
abbrev cX7_freeze : ByteArray := prog_1_method_4_code
def yX7_freeze : MethodName := ⟨RX7, "freeze", "(II)I"⟩
abbrev cX7_thaw : ByteArray := prog_1_method_5_code
def yX7_thaw : MethodName := ⟨RX7, "thaw", "()I"⟩
abbrev cX7_addChange : ByteArray := prog_1_method_6_code
def yX7_addChange : MethodName := ⟨RX7, "addChange", "(Z)I"⟩
abbrev cX7_addStage : ByteArray := prog_1_method_7_code
def yX7_addStage : MethodName := ⟨RX7, "addStage", "(IIII)I"⟩
abbrev cX7_putAfter : ByteArray := prog_1_method_8_code
def yX7_putAfter : MethodName := ⟨RX7, "putAfter", "(II)I"⟩
abbrev cX7_changes : ByteArray := prog_1_method_9_code
def yX7_changes : MethodName := ⟨RX7, "changes", "()I"⟩
abbrev cX7_stage : ByteArray := prog_1_method_10_code
def yX7_stage : MethodName := ⟨RX7, "stage", "(III)I"⟩
abbrev cX7_append : ByteArray := prog_1_method_11_code
def yX7_append : MethodName := ⟨RX7, "append", "(I)I"⟩
abbrev cX7_clearText : ByteArray := prog_1_method_12_code
def yX7_clearText : MethodName := ⟨RX7, "clearText", "()I"⟩
abbrev cX7_faultPosition : ByteArray := prog_1_method_13_code
def yX7_faultPosition : MethodName := ⟨RX7, "faultPosition", "()I"⟩
abbrev cX7_read : ByteArray := prog_1_method_14_code
def yX7_read : MethodName := ⟨RX7, "read", "(I)I"⟩
abbrev cX7_start : ByteArray := prog_1_method_15_code
def yX7_start : MethodName := ⟨RX7, "start", "(I)I"⟩
abbrev cX7_hold : ByteArray := prog_1_method_16_code
def yX7_hold : MethodName := ⟨RX7, "hold", "(I)I"⟩
abbrev cX7_resume : ByteArray := prog_1_method_17_code
def yX7_resume : MethodName := ⟨RX7, "resume", "(I)I"⟩
abbrev cX7_turnBack : ByteArray := prog_1_method_18_code
def yX7_turnBack : MethodName := ⟨RX7, "turnBack", "(I)I"⟩
abbrev cX7_move : ByteArray := prog_1_method_19_code
def yX7_move : MethodName := ⟨RX7, "move", "(IIII)I"⟩
abbrev cX7_report : ByteArray := prog_1_method_20_code
def yX7_report : MethodName := ⟨RX7, "report", "(III)I"⟩
abbrev cX7_pass : ByteArray := prog_1_method_21_code
def yX7_pass : MethodName := ⟨RX7, "pass", "(I)I"⟩
abbrev cX7_time : ByteArray := prog_1_method_22_code
def yX7_time : MethodName := ⟨RX7, "time", "()I"⟩
abbrev cX7_change : ByteArray := prog_1_method_23_code
def yX7_change : MethodName := ⟨RX7, "change", "(II)I"⟩
abbrev cX7_probes : ByteArray := prog_1_method_24_code
def yX7_probes : MethodName := ⟨RX7, "probes", "(II)I"⟩
abbrev cX7_chance : ByteArray := prog_1_method_25_code
def yX7_chance : MethodName := ⟨RX7, "chance", "(IZ)J"⟩
abbrev cX7_has : ByteArray := prog_1_method_26_code
def yX7_has : MethodName := ⟨RX7, "has", "(I)I"⟩
abbrev cX7_isFrozen : ByteArray := prog_1_method_27_code
def yX7_isFrozen : MethodName := ⟨RX7, "isFrozen", "(I)I"⟩
abbrev cX7_forecast : ByteArray := prog_1_method_28_code
def yX7_forecast : MethodName := ⟨RX7, "forecast", "(I)I"⟩
abbrev cX7_entries : ByteArray := prog_1_method_29_code
def yX7_entries : MethodName := ⟨RX7, "entries", "()I"⟩
abbrev cX7_entry : ByteArray := prog_1_method_30_code
def yX7_entry : MethodName := ⟨RX7, "entry", "(II)I"⟩
abbrev cX7_count : ByteArray := prog_1_method_31_code
def yX7_count : MethodName := ⟨RX7, "count", "(II)I"⟩
abbrev cX7_save : ByteArray := prog_1_method_32_code
def yX7_save : MethodName := ⟨RX7, "save", "(I)I"⟩
abbrev cX7_restore : ByteArray := prog_1_method_33_code
def yX7_restore : MethodName := ⟨RX7, "restore", "(I)I"⟩
abbrev cX7_checksum : ByteArray := prog_1_method_34_code
def yX7_checksum : MethodName := ⟨RX7, "checksum", "()J"⟩
abbrev cX7_mixChange : ByteArray := prog_1_method_35_code
def yX7_mixChange : MethodName := ⟨RX7, "mixChange", "(JI)J"⟩
abbrev cX7_mix : ByteArray := prog_1_method_36_code
def yX7_mix : MethodName := ⟨RX7, "mix", "(JJ)J"⟩
abbrev cX7_isWithin : ByteArray := prog_1_method_37_code
def yX7_isWithin : MethodName := ⟨RX7, "isWithin", "(III)Z"⟩
def RX8 : String := "StagedRolloutModel"
def TX8 : u_T := fun k => match k with
  | 0 => ("StagedRolloutModel", "v", "[I", true)
  | 1 => ("StagedRolloutModel", "spare", "[I", true)
  | 2 => ("StagedRolloutModel", "kept", "[I", true)
  | 3 => ("StagedRolloutModel", "isKept", "[Z", true)
  | 4 => ("StagedRolloutModel", "text", "[I", true)
  | 5 => ("StagedRolloutModel", "length", "I", false)
  | 6 => ("StagedRolloutModel", "isForecast", "Z", false)
  | 7 => ("StagedRolloutModel", "noted", "I", false)
  | 8 => ("StagedRolloutModel", "place", "I", false)
  | 9 => ("StagedRolloutModel", "told", "[I", true)
  | 10 => ("StagedRolloutModel", "tellings", "I", false)
  | 11 => ("StagedRolloutModel", "number", "I", false)
  | 12 => ("StagedRolloutModel", "sets", "[J", true)
  | 13 => ("StagedRolloutModel", "above", "J", false)
  | _ => ("StagedRolloutModel", "below", "J", false)
def tyX8 : Nat → FieldType := fun k => match k with
  | 0 => .array .int
  | 1 => .array .int
  | 2 => .array .int
  | 3 => .array .boolean
  | 4 => .array .int
  | 5 => .int
  | 6 => .boolean
  | 7 => .int
  | 8 => .int
  | 9 => .array .int
  | 10 => .int
  | 11 => .int
  | 12 => .array .long
  | 13 => .long
  | _ => .long
abbrev wsX80 : List Cond := u_ws RX8 TX8 15
theorem nmX8 : ∀ a, a < 15 → ∀ b, b < 15 → a ≠ b → (TX8 a).2.1 ≠ (TX8 b).2.1 := by decide +kernel
theorem tyX8_ok : ∀ k, k < 15 → parseFieldDescriptor (TX8 k).2.2.1 = some (tyX8 k) := by decide +kernel
abbrev cX8_init : ByteArray := prog_10_method_1_code
def yX8_init : MethodName := ⟨RX8, "<init>", "()V"⟩
abbrev cX8_in : ByteArray := prog_10_method_3_code
def yX8_in : MethodName := ⟨RX8, "in", "(III)Z"⟩
abbrev cX8_at : ByteArray := prog_10_method_4_code
def yX8_at : MethodName := ⟨RX8, "at", "(II)I"⟩
abbrev cX8_stageAt : ByteArray := prog_10_method_5_code
def yX8_stageAt : MethodName := ⟨RX8, "stageAt", "(III)I"⟩
abbrev cX8_isChange : ByteArray := prog_10_method_6_code
def yX8_isChange : MethodName := ⟨RX8, "isChange", "(I)Z"⟩
abbrev cX8_isCell : ByteArray := prog_10_method_7_code
def yX8_isCell : MethodName := ⟨RX8, "isCell", "(I)Z"⟩
abbrev cX8_puts : ByteArray := prog_10_method_8_code
def yX8_puts : MethodName := ⟨RX8, "puts", "(II)I"⟩
abbrev cX8_begin : ByteArray := prog_10_method_9_code
def yX8_begin : MethodName := ⟨RX8, "begin", "(I)I"⟩
abbrev cX8_setLimit : ByteArray := prog_10_method_10_code
def yX8_setLimit : MethodName := ⟨RX8, "setLimit", "(I)I"⟩
abbrev cX8_freeze : ByteArray := prog_10_method_11_code
def yX8_freeze : MethodName := ⟨RX8, "freeze", "(II)I"⟩
abbrev cX8_thaw : ByteArray := prog_10_method_12_code
def yX8_thaw : MethodName := ⟨RX8, "thaw", "()I"⟩
abbrev cX8_addChange : ByteArray := prog_10_method_13_code
def yX8_addChange : MethodName := ⟨RX8, "addChange", "(Z)I"⟩
abbrev cX8_cellsOf : ByteArray := prog_10_method_14_code
def yX8_cellsOf : MethodName := ⟨RX8, "cellsOf", "(II)I"⟩
abbrev cX8_adds : ByteArray := prog_10_method_15_code
def yX8_adds : MethodName := ⟨RX8, "adds", "(IIII)V"⟩
abbrev cX8_addStage : ByteArray := prog_10_method_16_code
def yX8_addStage : MethodName := ⟨RX8, "addStage", "(IIII)I"⟩
abbrev cX8_size : ByteArray := prog_10_method_17_code
def yX8_size : MethodName := ⟨RX8, "size", "(I)I"⟩
abbrev cX8_putAfter : ByteArray := prog_10_method_18_code
def yX8_putAfter : MethodName := ⟨RX8, "putAfter", "(II)I"⟩
abbrev cX8_changes : ByteArray := prog_10_method_19_code
def yX8_changes : MethodName := ⟨RX8, "changes", "()I"⟩
abbrev cX8_stage : ByteArray := prog_10_method_20_code
def yX8_stage : MethodName := ⟨RX8, "stage", "(III)I"⟩
abbrev cX8_append : ByteArray := prog_10_method_21_code
def yX8_append : MethodName := ⟨RX8, "append", "(I)I"⟩
abbrev cX8_clearText : ByteArray := prog_10_method_22_code
def yX8_clearText : MethodName := ⟨RX8, "clearText", "()I"⟩
abbrev cX8_here : ByteArray := prog_10_method_23_code
def yX8_here : MethodName := ⟨RX8, "here", "()I"⟩
abbrev cX8_takes : ByteArray := prog_10_method_24_code
def yX8_takes : MethodName := ⟨RX8, "takes", "(I)Z"⟩
abbrev cX8_digit : ByteArray := prog_10_method_25_code
def yX8_digit : MethodName := ⟨RX8, "digit", "()I"⟩
abbrev cX8_number : ByteArray := prog_10_method_26_code
def yX8_number : MethodName := ⟨RX8, "number", "(I)Z"⟩
abbrev cX8_cells : ByteArray := prog_10_method_27_code
def yX8_cells : MethodName := ⟨RX8, "cells", "(I)Z"⟩
abbrev cX8_isStage : ByteArray := prog_10_method_28_code
def yX8_isStage : MethodName := ⟨RX8, "isStage", "(I)Z"⟩
abbrev cX8_isText : ByteArray := prog_10_method_29_code
def yX8_isText : MethodName := ⟨RX8, "isText", "()Z"⟩
abbrev cX8_faultPosition : ByteArray := prog_10_method_30_code
def yX8_faultPosition : MethodName := ⟨RX8, "faultPosition", "()I"⟩
abbrev cX8_read : ByteArray := prog_10_method_31_code
def yX8_read : MethodName := ⟨RX8, "read", "(I)I"⟩
abbrev cX8_notes : ByteArray := prog_10_method_32_code
def yX8_notes : MethodName := ⟨RX8, "notes", "(III)V"⟩
abbrev cX8_start : ByteArray := prog_10_method_33_code
def yX8_start : MethodName := ⟨RX8, "start", "(I)I"⟩
abbrev cX8_becomes : ByteArray := prog_10_method_34_code
def yX8_becomes : MethodName := ⟨RX8, "becomes", "(III)I"⟩
abbrev cX8_hold : ByteArray := prog_10_method_35_code
def yX8_hold : MethodName := ⟨RX8, "hold", "(I)I"⟩
abbrev cX8_resume : ByteArray := prog_10_method_36_code
def yX8_resume : MethodName := ⟨RX8, "resume", "(I)I"⟩
abbrev cX8_turnBack : ByteArray := prog_10_method_37_code
def yX8_turnBack : MethodName := ⟨RX8, "turnBack", "(I)I"⟩
abbrev cX8_isOut : ByteArray := prog_10_method_38_code
def yX8_isOut : MethodName := ⟨RX8, "isOut", "(I)Z"⟩
abbrev cX8_reached : ByteArray := prog_10_method_39_code
def yX8_reached : MethodName := ⟨RX8, "reached", "(I)I"⟩
abbrev cX8_report : ByteArray := prog_10_method_40_code
def yX8_report : MethodName := ⟨RX8, "report", "(III)I"⟩
abbrev cX8_sets : ByteArray := prog_10_method_41_code
def yX8_sets : MethodName := ⟨RX8, "sets", "(II)J"⟩
abbrev cX8_findChance : ByteArray := prog_10_method_42_code
def yX8_findChance : MethodName := ⟨RX8, "findChance", "(I)V"⟩
abbrev cX8_isBad : ByteArray := prog_10_method_43_code
def yX8_isBad : MethodName := ⟨RX8, "isBad", "(I)Z"⟩
abbrev cX8_divisor : ByteArray := prog_10_method_44_code
def yX8_divisor : MethodName := ⟨RX8, "divisor", "(JJ)J"⟩
abbrev cX8_isFrozenHour : ByteArray := prog_10_method_45_code
def yX8_isFrozenHour : MethodName := ⟨RX8, "isFrozenHour", "(I)Z"⟩
abbrev cX8_hoursSince : ByteArray := prog_10_method_46_code
def yX8_hoursSince : MethodName := ⟨RX8, "hoursSince", "(I)I"⟩
abbrev cX8_lacks : ByteArray := prog_10_method_47_code
def yX8_lacks : MethodName := ⟨RX8, "lacks", "(I)Z"⟩
abbrev cX8_areAllDone : ByteArray := prog_10_method_48_code
def yX8_areAllDone : MethodName := ⟨RX8, "areAllDone", "(I)Z"⟩
abbrev cX8_isOtherRisk : ByteArray := prog_10_method_49_code
def yX8_isOtherRisk : MethodName := ⟨RX8, "isOtherRisk", "(I)Z"⟩
abbrev cX8_reason : ByteArray := prog_10_method_50_code
def yX8_reason : MethodName := ⟨RX8, "reason", "(I)I"⟩
abbrev cX8_turnsOn : ByteArray := prog_10_method_51_code
def yX8_turnsOn : MethodName := ⟨RX8, "turnsOn", "(I)V"⟩
abbrev cX8_goesOn : ByteArray := prog_10_method_52_code
def yX8_goesOn : MethodName := ⟨RX8, "goesOn", "(I)V"⟩
abbrev cX8_passes : ByteArray := prog_10_method_53_code
def yX8_passes : MethodName := ⟨RX8, "passes", "()V"⟩
abbrev cX8_pass : ByteArray := prog_10_method_54_code
def yX8_pass : MethodName := ⟨RX8, "pass", "(I)I"⟩
abbrev cX8_time : ByteArray := prog_10_method_55_code
def yX8_time : MethodName := ⟨RX8, "time", "()I"⟩
abbrev cX8_tells : ByteArray := prog_10_method_56_code
def yX8_tells : MethodName := ⟨RX8, "tells", "(II)I"⟩
abbrev cX8_change : ByteArray := prog_10_method_57_code
def yX8_change : MethodName := ⟨RX8, "change", "(II)I"⟩
abbrev cX8_probes : ByteArray := prog_10_method_58_code
def yX8_probes : MethodName := ⟨RX8, "probes", "(II)I"⟩
abbrev cX8_chance : ByteArray := prog_10_method_59_code
def yX8_chance : MethodName := ⟨RX8, "chance", "(IZ)J"⟩
abbrev cX8_having : ByteArray := prog_10_method_60_code
def yX8_having : MethodName := ⟨RX8, "having", "(I)I"⟩
abbrev cX8_has : ByteArray := prog_10_method_61_code
def yX8_has : MethodName := ⟨RX8, "has", "(I)I"⟩
abbrev cX8_isFrozen : ByteArray := prog_10_method_62_code
def yX8_isFrozen : MethodName := ⟨RX8, "isFrozen", "(I)I"⟩
abbrev cX8_isOver : ByteArray := prog_10_method_63_code
def yX8_isOver : MethodName := ⟨RX8, "isOver", "(I)Z"⟩
abbrev cX8_forecast : ByteArray := prog_10_method_64_code
def yX8_forecast : MethodName := ⟨RX8, "forecast", "(I)I"⟩
abbrev cX8_entries : ByteArray := prog_10_method_65_code
def yX8_entries : MethodName := ⟨RX8, "entries", "()I"⟩
abbrev cX8_entry : ByteArray := prog_10_method_66_code
def yX8_entry : MethodName := ⟨RX8, "entry", "(II)I"⟩
abbrev cX8_count : ByteArray := prog_10_method_67_code
def yX8_count : MethodName := ⟨RX8, "count", "(II)I"⟩
abbrev cX8_save : ByteArray := prog_10_method_68_code
def yX8_save : MethodName := ⟨RX8, "save", "(I)I"⟩
abbrev cX8_restore : ByteArray := prog_10_method_69_code
def yX8_restore : MethodName := ⟨RX8, "restore", "(I)I"⟩
abbrev cX8_more : ByteArray := prog_10_method_70_code
def yX8_more : MethodName := ⟨RX8, "more", "(JJ)J"⟩
abbrev cX8_checksum : ByteArray := prog_10_method_71_code
def yX8_checksum : MethodName := ⟨RX8, "checksum", "()J"⟩
def RJ6 : String := "java/lang/Integer"
def TJ6 : u_T := fun k => match k with
  | _ => ("", "", "", false)
def tyJ6 : Nat → FieldType := fun k => match k with
  | _ => .int
abbrev wsJ60 : List Cond := u_ws RJ6 TJ6 0
theorem nmJ6 : ∀ a, a < 0 → ∀ b, b < 0 → a ≠ b → (TJ6 a).2.1 ≠ (TJ6 b).2.1 := by decide +kernel
theorem tyJ6_ok : ∀ k, k < 0 → parseFieldDescriptor (TJ6 k).2.2.1 = some (tyJ6 k) := by decide +kernel
abbrev cJ6_bitCount_0f7a4 : ByteArray := prog_11_method_49_code
def yJ6_bitCount_0f7a4 : MethodName := ⟨RJ6, "bitCount", "(I)I"⟩
def RJ9 : String := "java/lang/Math"
def TJ9 : u_T := fun k => match k with
  | _ => ("", "", "", false)
def tyJ9 : Nat → FieldType := fun k => match k with
  | _ => .int
abbrev wsJ90 : List Cond := u_ws RJ9 TJ9 0
theorem nmJ9 : ∀ a, a < 0 → ∀ b, b < 0 → a ≠ b → (TJ9 a).2.1 ≠ (TJ9 b).2.1 := by decide +kernel
theorem tyJ9_ok : ∀ k, k < 0 → parseFieldDescriptor (TJ9 k).2.2.1 = some (tyJ9 k) := by decide +kernel
abbrev cJ9_max_f86c9 : ByteArray := prog_12_method_66_code
def yJ9_max_f86c9 : MethodName := ⟨RJ9, "max", "(JJ)J"⟩
abbrev cJ9_min_7cf53 : ByteArray := prog_12_method_69_code
def yJ9_min_7cf53 : MethodName := ⟨RJ9, "min", "(II)I"⟩
def RJ10 : String := "java/lang/System"
def TJ10 : u_T := fun k => match k with
  | _ => ("", "", "", false)
def tyJ10 : Nat → FieldType := fun k => match k with
  | _ => .int
abbrev wsJ100 : List Cond := u_ws RJ10 TJ10 0
theorem nmJ10 : ∀ a, a < 0 → ∀ b, b < 0 → a ≠ b → (TJ10 a).2.1 ≠ (TJ10 b).2.1 := by decide +kernel
theorem tyJ10_ok : ∀ k, k < 0 → parseFieldDescriptor (TJ10 k).2.2.1 = some (tyJ10 k) := by decide +kernel
def RL : String := "StagedRolloutLaw"
abbrev cL_law : ByteArray := code
def yL_law : MethodName := ⟨RL, "law", "([I)Z"⟩
theorem inX0 : ∀ w ∈ wsX00, w ∈ lw_tbl := by decide +kernel
theorem inX1 : ∀ w ∈ wsX10, w ∈ lw_tbl := by decide +kernel
theorem inX2 : ∀ w ∈ wsX20, w ∈ lw_tbl := by decide +kernel
theorem inX3 : ∀ w ∈ wsX30, w ∈ lw_tbl := by decide +kernel
theorem inX4 : ∀ w ∈ wsX40, w ∈ lw_tbl := by decide +kernel
theorem inX5 : ∀ w ∈ wsX50, w ∈ lw_tbl := by decide +kernel
theorem inX6 : ∀ w ∈ wsX60, w ∈ lw_tbl := by decide +kernel
theorem inX7 : ∀ w ∈ wsX70, w ∈ lw_tbl := by decide +kernel
theorem inX8 : ∀ w ∈ wsX80, w ∈ lw_tbl := by decide +kernel
end
section
theorem dX0_init_0 : decode cX0_init 0 = .ok (.aload_n 0, 1) := by decide +kernel
theorem dX0_init_1 : decode cX0_init 1 = .ok (.invokespecial 3, 3) := by decide +kernel
theorem dX0_init_4 : decode cX0_init 4 = .ok (.aload_n 0, 1) := by decide +kernel
theorem dX0_init_5 : decode cX0_init 5 = .ok (.iload_n 1, 1) := by decide +kernel
theorem dX0_init_6 : decode cX0_init 6 = .ok (.putfield 9, 3) := by decide +kernel
theorem dX0_init_9 : decode cX0_init 9 = .ok (.aload_n 0, 1) := by decide +kernel
theorem dX0_init_10 : decode cX0_init 10 = .ok (.new 15, 3) := by decide +kernel
theorem dX0_init_13 : decode cX0_init 13 = .ok (.dup, 1) := by decide +kernel
theorem dX0_init_14 : decode cX0_init 14 = .ok (.invokespecial 17, 3) := by decide +kernel
theorem dX0_init_17 : decode cX0_init 17 = .ok (.putfield 18, 3) := by decide +kernel
theorem dX0_init_20 : decode cX0_init 20 = .ok (.aload_n 0, 1) := by decide +kernel
theorem dX0_init_21 : decode cX0_init 21 = .ok (.new 22, 3) := by decide +kernel
theorem dX0_init_24 : decode cX0_init 24 = .ok (.dup, 1) := by decide +kernel
theorem dX0_init_25 : decode cX0_init 25 = .ok (.invokespecial 24, 3) := by decide +kernel
theorem dX0_init_28 : decode cX0_init 28 = .ok (.putfield 25, 3) := by decide +kernel
theorem dX0_init_31 : decode cX0_init 31 = .ok (.aload_n 0, 1) := by decide +kernel
theorem dX0_init_32 : decode cX0_init 32 = .ok (.bipush 6, 2) := by decide +kernel
theorem dX0_init_34 : decode cX0_init 34 = .ok (.newarray .int, 2) := by decide +kernel
theorem dX0_init_36 : decode cX0_init 36 = .ok (.putfield 29, 3) := by decide +kernel
theorem dX0_init_39 : decode cX0_init 39 = .ok (.return_, 1) := by decide +kernel
theorem dX0_makeNew_0 : decode cX0_makeNew 0 = .ok (.aload_n 0, 1) := by decide +kernel
theorem dX0_makeNew_1 : decode cX0_makeNew 1 = .ok (.iload_n 1, 1) := by decide +kernel
theorem dX0_makeNew_2 : decode cX0_makeNew 2 = .ok (.putfield 33, 3) := by decide +kernel
theorem dX0_makeNew_5 : decode cX0_makeNew 5 = .ok (.aload_n 0, 1) := by decide +kernel
theorem dX0_makeNew_6 : decode cX0_makeNew 6 = .ok (.iconst 0, 1) := by decide +kernel
theorem dX0_makeNew_7 : decode cX0_makeNew 7 = .ok (.putfield 37, 3) := by decide +kernel
theorem dX0_makeNew_10 : decode cX0_makeNew 10 = .ok (.aload_n 0, 1) := by decide +kernel
theorem dX0_makeNew_11 : decode cX0_makeNew 11 = .ok (.iconst 0, 1) := by decide +kernel
theorem dX0_makeNew_12 : decode cX0_makeNew 12 = .ok (.putfield 40, 3) := by decide +kernel
theorem dX0_makeNew_15 : decode cX0_makeNew 15 = .ok (.aload_n 0, 1) := by decide +kernel
theorem dX0_makeNew_16 : decode cX0_makeNew 16 = .ok (.iconst 0, 1) := by decide +kernel
theorem dX0_makeNew_17 : decode cX0_makeNew 17 = .ok (.putfield 43, 3) := by decide +kernel
theorem dX0_makeNew_20 : decode cX0_makeNew 20 = .ok (.aload_n 0, 1) := by decide +kernel
theorem dX0_makeNew_21 : decode cX0_makeNew 21 = .ok (.getfield 18, 3) := by decide +kernel
theorem dX0_makeNew_24 : decode cX0_makeNew 24 = .ok (.iconst 0, 1) := by decide +kernel
theorem dX0_makeNew_25 : decode cX0_makeNew 25 = .ok (.putfield 46, 3) := by decide +kernel
theorem dX0_makeNew_28 : decode cX0_makeNew 28 = .ok (.aload_n 0, 1) := by decide +kernel
theorem dX0_makeNew_29 : decode cX0_makeNew 29 = .ok (.getfield 25, 3) := by decide +kernel
theorem dX0_makeNew_32 : decode cX0_makeNew 32 = .ok (.invokevirtual 49, 3) := by decide +kernel
theorem dX0_makeNew_35 : decode cX0_makeNew 35 = .ok (.return_, 1) := by decide +kernel
theorem dX0_copyFrom_0 : decode cX0_copyFrom 0 = .ok (.aload_n 0, 1) := by decide +kernel
theorem dX0_copyFrom_1 : decode cX0_copyFrom 1 = .ok (.aload_n 1, 1) := by decide +kernel
theorem dX0_copyFrom_2 : decode cX0_copyFrom 2 = .ok (.getfield 33, 3) := by decide +kernel
theorem dX0_copyFrom_5 : decode cX0_copyFrom 5 = .ok (.putfield 33, 3) := by decide +kernel
theorem dX0_copyFrom_8 : decode cX0_copyFrom 8 = .ok (.aload_n 0, 1) := by decide +kernel
theorem dX0_copyFrom_9 : decode cX0_copyFrom 9 = .ok (.aload_n 1, 1) := by decide +kernel
theorem dX0_copyFrom_10 : decode cX0_copyFrom 10 = .ok (.getfield 37, 3) := by decide +kernel
theorem dX0_copyFrom_13 : decode cX0_copyFrom 13 = .ok (.putfield 37, 3) := by decide +kernel
theorem dX0_copyFrom_16 : decode cX0_copyFrom 16 = .ok (.aload_n 0, 1) := by decide +kernel
theorem dX0_copyFrom_17 : decode cX0_copyFrom 17 = .ok (.aload_n 1, 1) := by decide +kernel
theorem dX0_copyFrom_18 : decode cX0_copyFrom 18 = .ok (.getfield 40, 3) := by decide +kernel
theorem dX0_copyFrom_21 : decode cX0_copyFrom 21 = .ok (.putfield 40, 3) := by decide +kernel
theorem dX0_copyFrom_24 : decode cX0_copyFrom 24 = .ok (.aload_n 0, 1) := by decide +kernel
theorem dX0_copyFrom_25 : decode cX0_copyFrom 25 = .ok (.aload_n 1, 1) := by decide +kernel
theorem dX0_copyFrom_26 : decode cX0_copyFrom 26 = .ok (.getfield 43, 3) := by decide +kernel
theorem dX0_copyFrom_29 : decode cX0_copyFrom 29 = .ok (.putfield 43, 3) := by decide +kernel
theorem dX0_copyFrom_32 : decode cX0_copyFrom 32 = .ok (.aload_n 0, 1) := by decide +kernel
theorem dX0_copyFrom_33 : decode cX0_copyFrom 33 = .ok (.getfield 18, 3) := by decide +kernel
theorem dX0_copyFrom_36 : decode cX0_copyFrom 36 = .ok (.aload_n 1, 1) := by decide +kernel
theorem dX0_copyFrom_37 : decode cX0_copyFrom 37 = .ok (.getfield 18, 3) := by decide +kernel
theorem dX0_copyFrom_40 : decode cX0_copyFrom 40 = .ok (.invokevirtual 52, 3) := by decide +kernel
theorem dX0_copyFrom_43 : decode cX0_copyFrom 43 = .ok (.aload_n 0, 1) := by decide +kernel
theorem dX0_copyFrom_44 : decode cX0_copyFrom 44 = .ok (.getfield 25, 3) := by decide +kernel
theorem dX0_copyFrom_47 : decode cX0_copyFrom 47 = .ok (.aload_n 1, 1) := by decide +kernel
theorem dX0_copyFrom_48 : decode cX0_copyFrom 48 = .ok (.getfield 25, 3) := by decide +kernel
theorem dX0_copyFrom_51 : decode cX0_copyFrom 51 = .ok (.invokevirtual 56, 3) := by decide +kernel
theorem dX0_copyFrom_54 : decode cX0_copyFrom 54 = .ok (.aload_n 1, 1) := by decide +kernel
theorem dX0_copyFrom_55 : decode cX0_copyFrom 55 = .ok (.getfield 29, 3) := by decide +kernel
theorem dX0_copyFrom_58 : decode cX0_copyFrom 58 = .ok (.iconst 0, 1) := by decide +kernel
theorem dX0_copyFrom_59 : decode cX0_copyFrom 59 = .ok (.aload_n 0, 1) := by decide +kernel
theorem dX0_copyFrom_60 : decode cX0_copyFrom 60 = .ok (.getfield 29, 3) := by decide +kernel
theorem dX0_copyFrom_63 : decode cX0_copyFrom 63 = .ok (.iconst 0, 1) := by decide +kernel
theorem dX0_copyFrom_64 : decode cX0_copyFrom 64 = .ok (.bipush 6, 2) := by decide +kernel
theorem dX0_copyFrom_66 : decode cX0_copyFrom 66 = .ok (.invokestatic 59, 3) := by decide +kernel
theorem dX0_copyFrom_69 : decode cX0_copyFrom 69 = .ok (.return_, 1) := by decide +kernel
theorem dX0_isUnderWay_0 : decode cX0_isUnderWay 0 = .ok (.aload_n 0, 1) := by decide +kernel
theorem dX0_isUnderWay_1 : decode cX0_isUnderWay 1 = .ok (.invokevirtual 65, 3) := by decide +kernel
theorem dX0_isUnderWay_4 : decode cX0_isUnderWay 4 = .ok (.ifCond .ne 11, 3) := by decide +kernel
theorem dX0_isUnderWay_7 : decode cX0_isUnderWay 7 = .ok (.aload_n 0, 1) := by decide +kernel
theorem dX0_isUnderWay_8 : decode cX0_isUnderWay 8 = .ok (.getfield 40, 3) := by decide +kernel
theorem dX0_isUnderWay_11 : decode cX0_isUnderWay 11 = .ok (.iconst 4, 1) := by decide +kernel
theorem dX0_isUnderWay_12 : decode cX0_isUnderWay 12 = .ok (.if_icmp .ne 7, 3) := by decide +kernel
theorem dX0_isUnderWay_15 : decode cX0_isUnderWay 15 = .ok (.iconst 1, 1) := by decide +kernel
theorem dX0_isUnderWay_16 : decode cX0_isUnderWay 16 = .ok (.goto 4, 3) := by decide +kernel
theorem dX0_isUnderWay_19 : decode cX0_isUnderWay 19 = .ok (.iconst 0, 1) := by decide +kernel
theorem dX0_isUnderWay_20 : decode cX0_isUnderWay 20 = .ok (.ireturn, 1) := by decide +kernel
theorem dX0_isWatched_0 : decode cX0_isWatched 0 = .ok (.aload_n 0, 1) := by decide +kernel
theorem dX0_isWatched_1 : decode cX0_isWatched 1 = .ok (.getfield 40, 3) := by decide +kernel
theorem dX0_isWatched_4 : decode cX0_isWatched 4 = .ok (.iconst 1, 1) := by decide +kernel
theorem dX0_isWatched_5 : decode cX0_isWatched 5 = .ok (.if_icmp .eq 11, 3) := by decide +kernel
theorem dX0_isWatched_8 : decode cX0_isWatched 8 = .ok (.aload_n 0, 1) := by decide +kernel
theorem dX0_isWatched_9 : decode cX0_isWatched 9 = .ok (.getfield 40, 3) := by decide +kernel
theorem dX0_isWatched_12 : decode cX0_isWatched 12 = .ok (.iconst 2, 1) := by decide +kernel
theorem dX0_isWatched_13 : decode cX0_isWatched 13 = .ok (.if_icmp .ne 7, 3) := by decide +kernel
theorem dX0_isWatched_16 : decode cX0_isWatched 16 = .ok (.iconst 1, 1) := by decide +kernel
theorem dX0_isWatched_17 : decode cX0_isWatched 17 = .ok (.goto 4, 3) := by decide +kernel
theorem dX0_isWatched_20 : decode cX0_isWatched 20 = .ok (.iconst 0, 1) := by decide +kernel
theorem dX0_isWatched_21 : decode cX0_isWatched 21 = .ok (.ireturn, 1) := by decide +kernel
theorem dX0_hasFurtherStage_0 : decode cX0_hasFurtherStage 0 = .ok (.aload_n 0, 1) := by decide +kernel
theorem dX0_hasFurtherStage_1 : decode cX0_hasFurtherStage 1 = .ok (.getfield 43, 3) := by decide +kernel
theorem dX0_hasFurtherStage_4 : decode cX0_hasFurtherStage 4 = .ok (.aload_n 0, 1) := by decide +kernel
theorem dX0_hasFurtherStage_5 : decode cX0_hasFurtherStage 5 = .ok (.getfield 18, 3) := by decide +kernel
theorem dX0_hasFurtherStage_8 : decode cX0_hasFurtherStage 8 = .ok (.getfield 46, 3) := by decide +kernel
theorem dX0_hasFurtherStage_11 : decode cX0_hasFurtherStage 11 = .ok (.if_icmp .ge 7, 3) := by decide +kernel
theorem dX0_hasFurtherStage_14 : decode cX0_hasFurtherStage 14 = .ok (.iconst 1, 1) := by decide +kernel
theorem dX0_hasFurtherStage_15 : decode cX0_hasFurtherStage 15 = .ok (.goto 4, 3) := by decide +kernel
theorem dX0_hasFurtherStage_18 : decode cX0_hasFurtherStage 18 = .ok (.iconst 0, 1) := by decide +kernel
theorem dX0_hasFurtherStage_19 : decode cX0_hasFurtherStage 19 = .ok (.ireturn, 1) := by decide +kernel
theorem dX0_isAt_0 : decode cX0_isAt 0 = .ok (.aload_n 0, 1) := by decide +kernel
theorem dX0_isAt_1 : decode cX0_isAt 1 = .ok (.getfield 18, 3) := by decide +kernel
theorem dX0_isAt_4 : decode cX0_isAt 4 = .ok (.aload_n 0, 1) := by decide +kernel
theorem dX0_isAt_5 : decode cX0_isAt 5 = .ok (.getfield 43, 3) := by decide +kernel
theorem dX0_isAt_8 : decode cX0_isAt 8 = .ok (.invokevirtual 69, 3) := by decide +kernel
theorem dX0_isAt_11 : decode cX0_isAt 11 = .ok (.iload_n 1, 1) := by decide +kernel
theorem dX0_isAt_12 : decode cX0_isAt 12 = .ok (.ishr, 1) := by decide +kernel
theorem dX0_isAt_13 : decode cX0_isAt 13 = .ok (.iconst 1, 1) := by decide +kernel
theorem dX0_isAt_14 : decode cX0_isAt 14 = .ok (.iand, 1) := by decide +kernel
theorem dX0_isAt_15 : decode cX0_isAt 15 = .ok (.ifCond .eq 7, 3) := by decide +kernel
theorem dX0_isAt_18 : decode cX0_isAt 18 = .ok (.iconst 1, 1) := by decide +kernel
theorem dX0_isAt_19 : decode cX0_isAt 19 = .ok (.goto 4, 3) := by decide +kernel
theorem dX0_isAt_22 : decode cX0_isAt 22 = .ok (.iconst 0, 1) := by decide +kernel
theorem dX0_isAt_23 : decode cX0_isAt 23 = .ok (.ireturn, 1) := by decide +kernel
theorem dX0_takesProbes_0 : decode cX0_takesProbes 0 = .ok (.aload_n 0, 1) := by decide +kernel
theorem dX0_takesProbes_1 : decode cX0_takesProbes 1 = .ok (.invokevirtual 65, 3) := by decide +kernel
theorem dX0_takesProbes_4 : decode cX0_takesProbes 4 = .ok (.ifCond .eq 10, 3) := by decide +kernel
theorem dX0_takesProbes_7 : decode cX0_takesProbes 7 = .ok (.aload_n 0, 1) := by decide +kernel
theorem dX0_takesProbes_8 : decode cX0_takesProbes 8 = .ok (.getfield 43, 3) := by decide +kernel
theorem dX0_takesProbes_11 : decode cX0_takesProbes 11 = .ok (.ifCond .ne 5, 3) := by decide +kernel
theorem dX0_takesProbes_14 : decode cX0_takesProbes 14 = .ok (.iconst 0, 1) := by decide +kernel
theorem dX0_takesProbes_15 : decode cX0_takesProbes 15 = .ok (.ireturn, 1) := by decide +kernel
theorem dX0_takesProbes_16 : decode cX0_takesProbes 16 = .ok (.aload_n 0, 1) := by decide +kernel
theorem dX0_takesProbes_17 : decode cX0_takesProbes 17 = .ok (.iload_n 1, 1) := by decide +kernel
theorem dX0_takesProbes_18 : decode cX0_takesProbes 18 = .ok (.invokevirtual 73, 3) := by decide +kernel
theorem dX0_takesProbes_21 : decode cX0_takesProbes 21 = .ok (.ifCond .eq 15, 3) := by decide +kernel
theorem dX0_takesProbes_24 : decode cX0_takesProbes 24 = .ok (.aload_n 0, 1) := by decide +kernel
theorem dX0_takesProbes_25 : decode cX0_takesProbes 25 = .ok (.getfield 25, 3) := by decide +kernel
theorem dX0_takesProbes_28 : decode cX0_takesProbes 28 = .ok (.iload_n 2, 1) := by decide +kernel
theorem dX0_takesProbes_29 : decode cX0_takesProbes 29 = .ok (.iload_n 3, 1) := by decide +kernel
theorem dX0_takesProbes_30 : decode cX0_takesProbes 30 = .ok (.invokevirtual 77, 3) := by decide +kernel
theorem dX0_takesProbes_33 : decode cX0_takesProbes 33 = .ok (.goto 12, 3) := by decide +kernel
theorem dX0_takesProbes_36 : decode cX0_takesProbes 36 = .ok (.aload_n 0, 1) := by decide +kernel
theorem dX0_takesProbes_37 : decode cX0_takesProbes 37 = .ok (.getfield 25, 3) := by decide +kernel
theorem dX0_takesProbes_40 : decode cX0_takesProbes 40 = .ok (.iload_n 2, 1) := by decide +kernel
theorem dX0_takesProbes_41 : decode cX0_takesProbes 41 = .ok (.iload_n 3, 1) := by decide +kernel
theorem dX0_takesProbes_42 : decode cX0_takesProbes 42 = .ok (.invokevirtual 81, 3) := by decide +kernel
theorem dX0_takesProbes_45 : decode cX0_takesProbes 45 = .ok (.ireturn, 1) := by decide +kernel
theorem dX0_hoursSinceLatest_0 : decode cX0_hoursSinceLatest 0 = .ok (.aload_n 0, 1) := by decide +kernel
theorem dX0_hoursSinceLatest_1 : decode cX0_hoursSinceLatest 1 = .ok (.getfield 43, 3) := by decide +kernel
theorem dX0_hoursSinceLatest_4 : decode cX0_hoursSinceLatest 4 = .ok (.iconst 1, 1) := by decide +kernel
theorem dX0_hoursSinceLatest_5 : decode cX0_hoursSinceLatest 5 = .ok (.isub, 1) := by decide +kernel
theorem dX0_hoursSinceLatest_6 : decode cX0_hoursSinceLatest 6 = .ok (.istore_n 2, 1) := by decide +kernel
theorem dX0_hoursSinceLatest_7 : decode cX0_hoursSinceLatest 7 = .ok (.iload_n 2, 1) := by decide +kernel
theorem dX0_hoursSinceLatest_8 : decode cX0_hoursSinceLatest 8 = .ok (.ifCond .lt 20, 3) := by decide +kernel
theorem dX0_hoursSinceLatest_11 : decode cX0_hoursSinceLatest 11 = .ok (.iload_n 2, 1) := by decide +kernel
theorem dX0_hoursSinceLatest_12 : decode cX0_hoursSinceLatest 12 = .ok (.bipush 6, 2) := by decide +kernel
theorem dX0_hoursSinceLatest_14 : decode cX0_hoursSinceLatest 14 = .ok (.if_icmp .ge 14, 3) := by decide +kernel
theorem dX0_hoursSinceLatest_17 : decode cX0_hoursSinceLatest 17 = .ok (.iload_n 1, 1) := by decide +kernel
theorem dX0_hoursSinceLatest_18 : decode cX0_hoursSinceLatest 18 = .ok (.aload_n 0, 1) := by decide +kernel
theorem dX0_hoursSinceLatest_19 : decode cX0_hoursSinceLatest 19 = .ok (.getfield 29, 3) := by decide +kernel
theorem dX0_hoursSinceLatest_22 : decode cX0_hoursSinceLatest 22 = .ok (.iload_n 2, 1) := by decide +kernel
theorem dX0_hoursSinceLatest_23 : decode cX0_hoursSinceLatest 23 = .ok (.iaload, 1) := by decide +kernel
theorem dX0_hoursSinceLatest_24 : decode cX0_hoursSinceLatest 24 = .ok (.isub, 1) := by decide +kernel
theorem dX0_hoursSinceLatest_25 : decode cX0_hoursSinceLatest 25 = .ok (.goto 4, 3) := by decide +kernel
theorem dX0_hoursSinceLatest_28 : decode cX0_hoursSinceLatest 28 = .ok (.iconst 0, 1) := by decide +kernel
theorem dX0_hoursSinceLatest_29 : decode cX0_hoursSinceLatest 29 = .ok (.ireturn, 1) := by decide +kernel
theorem dX0_waitsAt_0 : decode cX0_waitsAt 0 = .ok (.aload_n 0, 1) := by decide +kernel
theorem dX0_waitsAt_1 : decode cX0_waitsAt 1 = .ok (.getfield 43, 3) := by decide +kernel
theorem dX0_waitsAt_4 : decode cX0_waitsAt 4 = .ok (.ifCond .le 29, 3) := by decide +kernel
theorem dX0_waitsAt_7 : decode cX0_waitsAt 7 = .ok (.aload_n 0, 1) := by decide +kernel
theorem dX0_waitsAt_8 : decode cX0_waitsAt 8 = .ok (.iload_n 1, 1) := by decide +kernel
theorem dX0_waitsAt_9 : decode cX0_waitsAt 9 = .ok (.invokevirtual 84, 3) := by decide +kernel
theorem dX0_waitsAt_12 : decode cX0_waitsAt 12 = .ok (.aload_n 0, 1) := by decide +kernel
theorem dX0_waitsAt_13 : decode cX0_waitsAt 13 = .ok (.getfield 18, 3) := by decide +kernel
theorem dX0_waitsAt_16 : decode cX0_waitsAt 16 = .ok (.aload_n 0, 1) := by decide +kernel
theorem dX0_waitsAt_17 : decode cX0_waitsAt 17 = .ok (.getfield 43, 3) := by decide +kernel
theorem dX0_waitsAt_20 : decode cX0_waitsAt 20 = .ok (.iconst 1, 1) := by decide +kernel
theorem dX0_waitsAt_21 : decode cX0_waitsAt 21 = .ok (.isub, 1) := by decide +kernel
theorem dX0_waitsAt_22 : decode cX0_waitsAt 22 = .ok (.iconst 1, 1) := by decide +kernel
theorem dX0_waitsAt_23 : decode cX0_waitsAt 23 = .ok (.invokevirtual 87, 3) := by decide +kernel
theorem dX0_waitsAt_26 : decode cX0_waitsAt 26 = .ok (.if_icmp .ge 7, 3) := by decide +kernel
theorem dX0_waitsAt_29 : decode cX0_waitsAt 29 = .ok (.iconst 1, 1) := by decide +kernel
theorem dX0_waitsAt_30 : decode cX0_waitsAt 30 = .ok (.goto 4, 3) := by decide +kernel
theorem dX0_waitsAt_33 : decode cX0_waitsAt 33 = .ok (.iconst 0, 1) := by decide +kernel
theorem dX0_waitsAt_34 : decode cX0_waitsAt 34 = .ok (.ireturn, 1) := by decide +kernel
theorem dX0_lacksSamples_0 : decode cX0_lacksSamples 0 = .ok (.aload_n 0, 1) := by decide +kernel
theorem dX0_lacksSamples_1 : decode cX0_lacksSamples 1 = .ok (.getfield 43, 3) := by decide +kernel
theorem dX0_lacksSamples_4 : decode cX0_lacksSamples 4 = .ok (.ifCond .ne 5, 3) := by decide +kernel
theorem dX0_lacksSamples_7 : decode cX0_lacksSamples 7 = .ok (.iconst 0, 1) := by decide +kernel
theorem dX0_lacksSamples_8 : decode cX0_lacksSamples 8 = .ok (.ireturn, 1) := by decide +kernel
theorem dX0_lacksSamples_9 : decode cX0_lacksSamples 9 = .ok (.aload_n 0, 1) := by decide +kernel
theorem dX0_lacksSamples_10 : decode cX0_lacksSamples 10 = .ok (.getfield 18, 3) := by decide +kernel
theorem dX0_lacksSamples_13 : decode cX0_lacksSamples 13 = .ok (.aload_n 0, 1) := by decide +kernel
theorem dX0_lacksSamples_14 : decode cX0_lacksSamples 14 = .ok (.getfield 43, 3) := by decide +kernel
theorem dX0_lacksSamples_17 : decode cX0_lacksSamples 17 = .ok (.iconst 1, 1) := by decide +kernel
theorem dX0_lacksSamples_18 : decode cX0_lacksSamples 18 = .ok (.isub, 1) := by decide +kernel
theorem dX0_lacksSamples_19 : decode cX0_lacksSamples 19 = .ok (.iconst 2, 1) := by decide +kernel
theorem dX0_lacksSamples_20 : decode cX0_lacksSamples 20 = .ok (.invokevirtual 87, 3) := by decide +kernel
theorem dX0_lacksSamples_23 : decode cX0_lacksSamples 23 = .ok (.istore_n 2, 1) := by decide +kernel
theorem dX0_lacksSamples_24 : decode cX0_lacksSamples 24 = .ok (.aload_n 0, 1) := by decide +kernel
theorem dX0_lacksSamples_25 : decode cX0_lacksSamples 25 = .ok (.getfield 18, 3) := by decide +kernel
theorem dX0_lacksSamples_28 : decode cX0_lacksSamples 28 = .ok (.aload_n 0, 1) := by decide +kernel
theorem dX0_lacksSamples_29 : decode cX0_lacksSamples 29 = .ok (.getfield 43, 3) := by decide +kernel
theorem dX0_lacksSamples_32 : decode cX0_lacksSamples 32 = .ok (.invokevirtual 69, 3) := by decide +kernel
theorem dX0_lacksSamples_35 : decode cX0_lacksSamples 35 = .ok (.iload_n 1, 1) := by decide +kernel
theorem dX0_lacksSamples_36 : decode cX0_lacksSamples 36 = .ok (.if_icmp .eq 7, 3) := by decide +kernel
theorem dX0_lacksSamples_39 : decode cX0_lacksSamples 39 = .ok (.iconst 1, 1) := by decide +kernel
theorem dX0_lacksSamples_40 : decode cX0_lacksSamples 40 = .ok (.goto 4, 3) := by decide +kernel
theorem dX0_lacksSamples_43 : decode cX0_lacksSamples 43 = .ok (.iconst 0, 1) := by decide +kernel
theorem dX0_lacksSamples_44 : decode cX0_lacksSamples 44 = .ok (.istore_n 3, 1) := by decide +kernel
theorem dX0_lacksSamples_45 : decode cX0_lacksSamples 45 = .ok (.aload_n 0, 1) := by decide +kernel
theorem dX0_lacksSamples_46 : decode cX0_lacksSamples 46 = .ok (.getfield 25, 3) := by decide +kernel
theorem dX0_lacksSamples_49 : decode cX0_lacksSamples 49 = .ok (.invokevirtual 90, 3) := by decide +kernel
theorem dX0_lacksSamples_52 : decode cX0_lacksSamples 52 = .ok (.iload_n 2, 1) := by decide +kernel
theorem dX0_lacksSamples_53 : decode cX0_lacksSamples 53 = .ok (.if_icmp .lt 18, 3) := by decide +kernel
theorem dX0_lacksSamples_56 : decode cX0_lacksSamples 56 = .ok (.iload_n 3, 1) := by decide +kernel
theorem dX0_lacksSamples_57 : decode cX0_lacksSamples 57 = .ok (.ifCond .eq 18, 3) := by decide +kernel
theorem dX0_lacksSamples_60 : decode cX0_lacksSamples 60 = .ok (.aload_n 0, 1) := by decide +kernel
theorem dX0_lacksSamples_61 : decode cX0_lacksSamples 61 = .ok (.getfield 25, 3) := by decide +kernel
theorem dX0_lacksSamples_64 : decode cX0_lacksSamples 64 = .ok (.invokevirtual 94, 3) := by decide +kernel
theorem dX0_lacksSamples_67 : decode cX0_lacksSamples 67 = .ok (.iload_n 2, 1) := by decide +kernel
theorem dX0_lacksSamples_68 : decode cX0_lacksSamples 68 = .ok (.if_icmp .ge 7, 3) := by decide +kernel
theorem dX0_lacksSamples_71 : decode cX0_lacksSamples 71 = .ok (.iconst 1, 1) := by decide +kernel
theorem dX0_lacksSamples_72 : decode cX0_lacksSamples 72 = .ok (.goto 4, 3) := by decide +kernel
theorem dX0_lacksSamples_75 : decode cX0_lacksSamples 75 = .ok (.iconst 0, 1) := by decide +kernel
theorem dX0_lacksSamples_76 : decode cX0_lacksSamples 76 = .ok (.ireturn, 1) := by decide +kernel
theorem dX0_beginStage_0 : decode cX0_beginStage 0 = .ok (.aload_n 0, 1) := by decide +kernel
theorem dX0_beginStage_1 : decode cX0_beginStage 1 = .ok (.getfield 43, 3) := by decide +kernel
theorem dX0_beginStage_4 : decode cX0_beginStage 4 = .ok (.ifCond .lt 39, 3) := by decide +kernel
theorem dX0_beginStage_7 : decode cX0_beginStage 7 = .ok (.aload_n 0, 1) := by decide +kernel
theorem dX0_beginStage_8 : decode cX0_beginStage 8 = .ok (.getfield 43, 3) := by decide +kernel
theorem dX0_beginStage_11 : decode cX0_beginStage 11 = .ok (.bipush 6, 2) := by decide +kernel
theorem dX0_beginStage_13 : decode cX0_beginStage 13 = .ok (.if_icmp .ge 30, 3) := by decide +kernel
theorem dX0_beginStage_16 : decode cX0_beginStage 16 = .ok (.aload_n 0, 1) := by decide +kernel
theorem dX0_beginStage_17 : decode cX0_beginStage 17 = .ok (.getfield 29, 3) := by decide +kernel
theorem dX0_beginStage_20 : decode cX0_beginStage 20 = .ok (.aload_n 0, 1) := by decide +kernel
theorem dX0_beginStage_21 : decode cX0_beginStage 21 = .ok (.getfield 43, 3) := by decide +kernel
theorem dX0_beginStage_24 : decode cX0_beginStage 24 = .ok (.iload_n 1, 1) := by decide +kernel
theorem dX0_beginStage_25 : decode cX0_beginStage 25 = .ok (.iastore, 1) := by decide +kernel
theorem dX0_beginStage_26 : decode cX0_beginStage 26 = .ok (.aload_n 0, 1) := by decide +kernel
theorem dX0_beginStage_27 : decode cX0_beginStage 27 = .ok (.dup, 1) := by decide +kernel
theorem dX0_beginStage_28 : decode cX0_beginStage 28 = .ok (.getfield 43, 3) := by decide +kernel
theorem dX0_beginStage_31 : decode cX0_beginStage 31 = .ok (.iconst 1, 1) := by decide +kernel
theorem dX0_beginStage_32 : decode cX0_beginStage 32 = .ok (.iadd, 1) := by decide +kernel
theorem dX0_beginStage_33 : decode cX0_beginStage 33 = .ok (.putfield 43, 3) := by decide +kernel
theorem dX0_beginStage_36 : decode cX0_beginStage 36 = .ok (.aload_n 0, 1) := by decide +kernel
theorem dX0_beginStage_37 : decode cX0_beginStage 37 = .ok (.getfield 25, 3) := by decide +kernel
theorem dX0_beginStage_40 : decode cX0_beginStage 40 = .ok (.invokevirtual 49, 3) := by decide +kernel
theorem dX0_beginStage_43 : decode cX0_beginStage 43 = .ok (.return_, 1) := by decide +kernel
theorem dX1_init_0 : decode cX1_init 0 = .ok (.aload_n 0, 1) := by decide +kernel
theorem dX1_init_1 : decode cX1_init 1 = .ok (.invokespecial 3, 3) := by decide +kernel
theorem dX1_init_4 : decode cX1_init 4 = .ok (.aload_n 0, 1) := by decide +kernel
theorem dX1_init_5 : decode cX1_init 5 = .ok (.iload_n 1, 1) := by decide +kernel
theorem dX1_init_6 : decode cX1_init 6 = .ok (.putfield 9, 3) := by decide +kernel
theorem dX1_init_9 : decode cX1_init 9 = .ok (.aload_n 0, 1) := by decide +kernel
theorem dX1_init_10 : decode cX1_init 10 = .ok (.iconst 5, 1) := by decide +kernel
theorem dX1_init_11 : decode cX1_init 11 = .ok (.anewarray 15, 3) := by decide +kernel
theorem dX1_init_14 : decode cX1_init 14 = .ok (.putfield 17, 3) := by decide +kernel
theorem dX1_init_17 : decode cX1_init 17 = .ok (.iconst 0, 1) := by decide +kernel
theorem dX1_init_18 : decode cX1_init 18 = .ok (.istore_n 2, 1) := by decide +kernel
theorem dX1_init_19 : decode cX1_init 19 = .ok (.iload_n 2, 1) := by decide +kernel
theorem dX1_init_20 : decode cX1_init 20 = .ok (.iconst 5, 1) := by decide +kernel
theorem dX1_init_21 : decode cX1_init 21 = .ok (.if_icmp .ge 23, 3) := by decide +kernel
theorem dX1_init_24 : decode cX1_init 24 = .ok (.aload_n 0, 1) := by decide +kernel
theorem dX1_init_25 : decode cX1_init 25 = .ok (.getfield 17, 3) := by decide +kernel
theorem dX1_init_28 : decode cX1_init 28 = .ok (.iload_n 2, 1) := by decide +kernel
theorem dX1_init_29 : decode cX1_init 29 = .ok (.new 15, 3) := by decide +kernel
theorem dX1_init_32 : decode cX1_init 32 = .ok (.dup, 1) := by decide +kernel
theorem dX1_init_33 : decode cX1_init 33 = .ok (.iload_n 2, 1) := by decide +kernel
theorem dX1_init_34 : decode cX1_init 34 = .ok (.invokespecial 21, 3) := by decide +kernel
theorem dX1_init_37 : decode cX1_init 37 = .ok (.aastore, 1) := by decide +kernel
theorem dX1_init_38 : decode cX1_init 38 = .ok (.iinc 2 1, 3) := by decide +kernel
theorem dX1_init_41 : decode cX1_init 41 = .ok (.goto (-22), 3) := by decide +kernel
theorem dX1_init_44 : decode cX1_init 44 = .ok (.aload_n 0, 1) := by decide +kernel
theorem dX1_init_45 : decode cX1_init 45 = .ok (.new 24, 3) := by decide +kernel
theorem dX1_init_48 : decode cX1_init 48 = .ok (.dup, 1) := by decide +kernel
theorem dX1_init_49 : decode cX1_init 49 = .ok (.invokespecial 26, 3) := by decide +kernel
theorem dX1_init_52 : decode cX1_init 52 = .ok (.putfield 27, 3) := by decide +kernel
theorem dX1_init_55 : decode cX1_init 55 = .ok (.aload_n 0, 1) := by decide +kernel
theorem dX1_init_56 : decode cX1_init 56 = .ok (.new 31, 3) := by decide +kernel
theorem dX1_init_59 : decode cX1_init 59 = .ok (.dup, 1) := by decide +kernel
theorem dX1_init_60 : decode cX1_init 60 = .ok (.invokespecial 33, 3) := by decide +kernel
theorem dX1_init_63 : decode cX1_init 63 = .ok (.putfield 34, 3) := by decide +kernel
theorem dX1_init_66 : decode cX1_init 66 = .ok (.aload_n 0, 1) := by decide +kernel
theorem dX1_init_67 : decode cX1_init 67 = .ok (.iconst 4, 1) := by decide +kernel
theorem dX1_init_68 : decode cX1_init 68 = .ok (.putfield 38, 3) := by decide +kernel
theorem dX1_init_71 : decode cX1_init 71 = .ok (.aload_n 0, 1) := by decide +kernel
theorem dX1_init_72 : decode cX1_init 72 = .ok (.bipush 50, 2) := by decide +kernel
theorem dX1_init_74 : decode cX1_init 74 = .ok (.putfield 42, 3) := by decide +kernel
theorem dX1_init_77 : decode cX1_init 77 = .ok (.return_, 1) := by decide +kernel
theorem dX1_beginAnew_0 : decode cX1_beginAnew 0 = .ok (.aload_n 0, 1) := by decide +kernel
theorem dX1_beginAnew_1 : decode cX1_beginAnew 1 = .ok (.iload_n 1, 1) := by decide +kernel
theorem dX1_beginAnew_2 : decode cX1_beginAnew 2 = .ok (.putfield 38, 3) := by decide +kernel
theorem dX1_beginAnew_5 : decode cX1_beginAnew 5 = .ok (.aload_n 0, 1) := by decide +kernel
theorem dX1_beginAnew_6 : decode cX1_beginAnew 6 = .ok (.iconst 0, 1) := by decide +kernel
theorem dX1_beginAnew_7 : decode cX1_beginAnew 7 = .ok (.putfield 45, 3) := by decide +kernel
theorem dX1_beginAnew_10 : decode cX1_beginAnew 10 = .ok (.aload_n 0, 1) := by decide +kernel
theorem dX1_beginAnew_11 : decode cX1_beginAnew 11 = .ok (.iconst 0, 1) := by decide +kernel
theorem dX1_beginAnew_12 : decode cX1_beginAnew 12 = .ok (.putfield 48, 3) := by decide +kernel
theorem dX1_beginAnew_15 : decode cX1_beginAnew 15 = .ok (.aload_n 0, 1) := by decide +kernel
theorem dX1_beginAnew_16 : decode cX1_beginAnew 16 = .ok (.getfield 27, 3) := by decide +kernel
theorem dX1_beginAnew_19 : decode cX1_beginAnew 19 = .ok (.iconst 0, 1) := by decide +kernel
theorem dX1_beginAnew_20 : decode cX1_beginAnew 20 = .ok (.putfield 51, 3) := by decide +kernel
theorem dX1_beginAnew_23 : decode cX1_beginAnew 23 = .ok (.aload_n 0, 1) := by decide +kernel
theorem dX1_beginAnew_24 : decode cX1_beginAnew 24 = .ok (.getfield 34, 3) := by decide +kernel
theorem dX1_beginAnew_27 : decode cX1_beginAnew 27 = .ok (.invokevirtual 52, 3) := by decide +kernel
theorem dX1_beginAnew_30 : decode cX1_beginAnew 30 = .ok (.return_, 1) := by decide +kernel
theorem dX1_copyFrom_0 : decode cX1_copyFrom 0 = .ok (.aload_n 0, 1) := by decide +kernel
theorem dX1_copyFrom_1 : decode cX1_copyFrom 1 = .ok (.aload_n 1, 1) := by decide +kernel
theorem dX1_copyFrom_2 : decode cX1_copyFrom 2 = .ok (.getfield 45, 3) := by decide +kernel
theorem dX1_copyFrom_5 : decode cX1_copyFrom 5 = .ok (.putfield 45, 3) := by decide +kernel
theorem dX1_copyFrom_8 : decode cX1_copyFrom 8 = .ok (.aload_n 0, 1) := by decide +kernel
theorem dX1_copyFrom_9 : decode cX1_copyFrom 9 = .ok (.aload_n 1, 1) := by decide +kernel
theorem dX1_copyFrom_10 : decode cX1_copyFrom 10 = .ok (.getfield 38, 3) := by decide +kernel
theorem dX1_copyFrom_13 : decode cX1_copyFrom 13 = .ok (.putfield 38, 3) := by decide +kernel
theorem dX1_copyFrom_16 : decode cX1_copyFrom 16 = .ok (.aload_n 0, 1) := by decide +kernel
theorem dX1_copyFrom_17 : decode cX1_copyFrom 17 = .ok (.aload_n 1, 1) := by decide +kernel
theorem dX1_copyFrom_18 : decode cX1_copyFrom 18 = .ok (.getfield 48, 3) := by decide +kernel
theorem dX1_copyFrom_21 : decode cX1_copyFrom 21 = .ok (.putfield 48, 3) := by decide +kernel
theorem dX1_copyFrom_24 : decode cX1_copyFrom 24 = .ok (.aload_n 0, 1) := by decide +kernel
theorem dX1_copyFrom_25 : decode cX1_copyFrom 25 = .ok (.aload_n 1, 1) := by decide +kernel
theorem dX1_copyFrom_26 : decode cX1_copyFrom 26 = .ok (.getfield 42, 3) := by decide +kernel
theorem dX1_copyFrom_29 : decode cX1_copyFrom 29 = .ok (.putfield 42, 3) := by decide +kernel
theorem dX1_copyFrom_32 : decode cX1_copyFrom 32 = .ok (.aload_n 0, 1) := by decide +kernel
theorem dX1_copyFrom_33 : decode cX1_copyFrom 33 = .ok (.getfield 27, 3) := by decide +kernel
theorem dX1_copyFrom_36 : decode cX1_copyFrom 36 = .ok (.aload_n 1, 1) := by decide +kernel
theorem dX1_copyFrom_37 : decode cX1_copyFrom 37 = .ok (.getfield 27, 3) := by decide +kernel
theorem dX1_copyFrom_40 : decode cX1_copyFrom 40 = .ok (.invokevirtual 55, 3) := by decide +kernel
theorem dX1_copyFrom_43 : decode cX1_copyFrom 43 = .ok (.aload_n 0, 1) := by decide +kernel
theorem dX1_copyFrom_44 : decode cX1_copyFrom 44 = .ok (.getfield 34, 3) := by decide +kernel
theorem dX1_copyFrom_47 : decode cX1_copyFrom 47 = .ok (.aload_n 1, 1) := by decide +kernel
theorem dX1_copyFrom_48 : decode cX1_copyFrom 48 = .ok (.getfield 34, 3) := by decide +kernel
theorem dX1_copyFrom_51 : decode cX1_copyFrom 51 = .ok (.invokevirtual 59, 3) := by decide +kernel
theorem dX1_copyFrom_54 : decode cX1_copyFrom 54 = .ok (.iconst 0, 1) := by decide +kernel
theorem dX1_copyFrom_55 : decode cX1_copyFrom 55 = .ok (.istore_n 2, 1) := by decide +kernel
theorem dX1_copyFrom_56 : decode cX1_copyFrom 56 = .ok (.iload_n 2, 1) := by decide +kernel
theorem dX1_copyFrom_57 : decode cX1_copyFrom 57 = .ok (.aload_n 0, 1) := by decide +kernel
theorem dX1_copyFrom_58 : decode cX1_copyFrom 58 = .ok (.getfield 45, 3) := by decide +kernel
theorem dX1_copyFrom_61 : decode cX1_copyFrom 61 = .ok (.if_icmp .ge 29, 3) := by decide +kernel
theorem dX1_copyFrom_64 : decode cX1_copyFrom 64 = .ok (.iload_n 2, 1) := by decide +kernel
theorem dX1_copyFrom_65 : decode cX1_copyFrom 65 = .ok (.iconst 5, 1) := by decide +kernel
theorem dX1_copyFrom_66 : decode cX1_copyFrom 66 = .ok (.if_icmp .ge 24, 3) := by decide +kernel
theorem dX1_copyFrom_69 : decode cX1_copyFrom 69 = .ok (.aload_n 0, 1) := by decide +kernel
theorem dX1_copyFrom_70 : decode cX1_copyFrom 70 = .ok (.getfield 17, 3) := by decide +kernel
theorem dX1_copyFrom_73 : decode cX1_copyFrom 73 = .ok (.iload_n 2, 1) := by decide +kernel
theorem dX1_copyFrom_74 : decode cX1_copyFrom 74 = .ok (.aaload, 1) := by decide +kernel
theorem dX1_copyFrom_75 : decode cX1_copyFrom 75 = .ok (.aload_n 1, 1) := by decide +kernel
theorem dX1_copyFrom_76 : decode cX1_copyFrom 76 = .ok (.getfield 17, 3) := by decide +kernel
theorem dX1_copyFrom_79 : decode cX1_copyFrom 79 = .ok (.iload_n 2, 1) := by decide +kernel
theorem dX1_copyFrom_80 : decode cX1_copyFrom 80 = .ok (.aaload, 1) := by decide +kernel
theorem dX1_copyFrom_81 : decode cX1_copyFrom 81 = .ok (.invokevirtual 62, 3) := by decide +kernel
theorem dX1_copyFrom_84 : decode cX1_copyFrom 84 = .ok (.iinc 2 1, 3) := by decide +kernel
theorem dX1_copyFrom_87 : decode cX1_copyFrom 87 = .ok (.goto (-31), 3) := by decide +kernel
theorem dX1_copyFrom_90 : decode cX1_copyFrom 90 = .ok (.return_, 1) := by decide +kernel
theorem dX1_find_0 : decode cX1_find 0 = .ok (.iload_n 1, 1) := by decide +kernel
theorem dX1_find_1 : decode cX1_find 1 = .ok (.ifCond .lt 25, 3) := by decide +kernel
theorem dX1_find_4 : decode cX1_find 4 = .ok (.iload_n 1, 1) := by decide +kernel
theorem dX1_find_5 : decode cX1_find 5 = .ok (.aload_n 0, 1) := by decide +kernel
theorem dX1_find_6 : decode cX1_find 6 = .ok (.getfield 45, 3) := by decide +kernel
theorem dX1_find_9 : decode cX1_find 9 = .ok (.if_icmp .ge 17, 3) := by decide +kernel
theorem dX1_find_12 : decode cX1_find 12 = .ok (.iload_n 1, 1) := by decide +kernel
theorem dX1_find_13 : decode cX1_find 13 = .ok (.iconst 5, 1) := by decide +kernel
theorem dX1_find_14 : decode cX1_find 14 = .ok (.if_icmp .ge 12, 3) := by decide +kernel
theorem dX1_find_17 : decode cX1_find 17 = .ok (.aload_n 0, 1) := by decide +kernel
theorem dX1_find_18 : decode cX1_find 18 = .ok (.getfield 17, 3) := by decide +kernel
theorem dX1_find_21 : decode cX1_find 21 = .ok (.iload_n 1, 1) := by decide +kernel
theorem dX1_find_22 : decode cX1_find 22 = .ok (.aaload, 1) := by decide +kernel
theorem dX1_find_23 : decode cX1_find 23 = .ok (.goto 4, 3) := by decide +kernel
theorem dX1_find_26 : decode cX1_find 26 = .ok (.aconst_null, 1) := by decide +kernel
theorem dX1_find_27 : decode cX1_find 27 = .ok (.areturn, 1) := by decide +kernel
theorem dX1_putChange_0 : decode cX1_putChange 0 = .ok (.aload_n 0, 1) := by decide +kernel
theorem dX1_putChange_1 : decode cX1_putChange 1 = .ok (.getfield 45, 3) := by decide +kernel
theorem dX1_putChange_4 : decode cX1_putChange 4 = .ok (.iconst 5, 1) := by decide +kernel
theorem dX1_putChange_5 : decode cX1_putChange 5 = .ok (.if_icmp .lt 5, 3) := by decide +kernel
theorem dX1_putChange_8 : decode cX1_putChange 8 = .ok (.iconst 0, 1) := by decide +kernel
theorem dX1_putChange_9 : decode cX1_putChange 9 = .ok (.ireturn, 1) := by decide +kernel
theorem dX1_putChange_10 : decode cX1_putChange 10 = .ok (.aload_n 0, 1) := by decide +kernel
theorem dX1_putChange_11 : decode cX1_putChange 11 = .ok (.getfield 17, 3) := by decide +kernel
theorem dX1_putChange_14 : decode cX1_putChange 14 = .ok (.aload_n 0, 1) := by decide +kernel
theorem dX1_putChange_15 : decode cX1_putChange 15 = .ok (.getfield 45, 3) := by decide +kernel
theorem dX1_putChange_18 : decode cX1_putChange 18 = .ok (.aaload, 1) := by decide +kernel
theorem dX1_putChange_19 : decode cX1_putChange 19 = .ok (.iload_n 1, 1) := by decide +kernel
theorem dX1_putChange_20 : decode cX1_putChange 20 = .ok (.invokevirtual 65, 3) := by decide +kernel
theorem dX1_putChange_23 : decode cX1_putChange 23 = .ok (.aload_n 0, 1) := by decide +kernel
theorem dX1_putChange_24 : decode cX1_putChange 24 = .ok (.dup, 1) := by decide +kernel
theorem dX1_putChange_25 : decode cX1_putChange 25 = .ok (.getfield 45, 3) := by decide +kernel
theorem dX1_putChange_28 : decode cX1_putChange 28 = .ok (.iconst 1, 1) := by decide +kernel
theorem dX1_putChange_29 : decode cX1_putChange 29 = .ok (.iadd, 1) := by decide +kernel
theorem dX1_putChange_30 : decode cX1_putChange 30 = .ok (.putfield 45, 3) := by decide +kernel
theorem dX1_putChange_33 : decode cX1_putChange 33 = .ok (.iconst 1, 1) := by decide +kernel
theorem dX1_putChange_34 : decode cX1_putChange 34 = .ok (.ireturn, 1) := by decide +kernel
theorem dX1_isCell_0 : decode cX1_isCell 0 = .ok (.iload_n 1, 1) := by decide +kernel
theorem dX1_isCell_1 : decode cX1_isCell 1 = .ok (.ifCond .lt 15, 3) := by decide +kernel
theorem dX1_isCell_4 : decode cX1_isCell 4 = .ok (.iload_n 1, 1) := by decide +kernel
theorem dX1_isCell_5 : decode cX1_isCell 5 = .ok (.aload_n 0, 1) := by decide +kernel
theorem dX1_isCell_6 : decode cX1_isCell 6 = .ok (.getfield 38, 3) := by decide +kernel
theorem dX1_isCell_9 : decode cX1_isCell 9 = .ok (.if_icmp .ge 7, 3) := by decide +kernel
theorem dX1_isCell_12 : decode cX1_isCell 12 = .ok (.iconst 1, 1) := by decide +kernel
theorem dX1_isCell_13 : decode cX1_isCell 13 = .ok (.goto 4, 3) := by decide +kernel
theorem dX1_isCell_16 : decode cX1_isCell 16 = .ok (.iconst 0, 1) := by decide +kernel
theorem dX1_isCell_17 : decode cX1_isCell 17 = .ok (.ireturn, 1) := by decide +kernel
theorem dX1_allCells_0 : decode cX1_allCells 0 = .ok (.iconst 1, 1) := by decide +kernel
theorem dX1_allCells_1 : decode cX1_allCells 1 = .ok (.aload_n 0, 1) := by decide +kernel
theorem dX1_allCells_2 : decode cX1_allCells 2 = .ok (.getfield 38, 3) := by decide +kernel
theorem dX1_allCells_5 : decode cX1_allCells 5 = .ok (.ishl, 1) := by decide +kernel
theorem dX1_allCells_6 : decode cX1_allCells 6 = .ok (.iconst 1, 1) := by decide +kernel
theorem dX1_allCells_7 : decode cX1_allCells 7 = .ok (.isub, 1) := by decide +kernel
theorem dX1_allCells_8 : decode cX1_allCells 8 = .ok (.ireturn, 1) := by decide +kernel
theorem dX1_changesOf_0 : decode cX1_changesOf 0 = .ok (.iconst 0, 1) := by decide +kernel
theorem dX1_changesOf_1 : decode cX1_changesOf 1 = .ok (.istore_n 2, 1) := by decide +kernel
theorem dX1_changesOf_2 : decode cX1_changesOf 2 = .ok (.iconst 0, 1) := by decide +kernel
theorem dX1_changesOf_3 : decode cX1_changesOf 3 = .ok (.istore_n 3, 1) := by decide +kernel
theorem dX1_changesOf_4 : decode cX1_changesOf 4 = .ok (.iload_n 3, 1) := by decide +kernel
theorem dX1_changesOf_5 : decode cX1_changesOf 5 = .ok (.aload_n 0, 1) := by decide +kernel
theorem dX1_changesOf_6 : decode cX1_changesOf 6 = .ok (.getfield 45, 3) := by decide +kernel
theorem dX1_changesOf_9 : decode cX1_changesOf 9 = .ok (.if_icmp .ge 33, 3) := by decide +kernel
theorem dX1_changesOf_12 : decode cX1_changesOf 12 = .ok (.iload_n 3, 1) := by decide +kernel
theorem dX1_changesOf_13 : decode cX1_changesOf 13 = .ok (.iconst 5, 1) := by decide +kernel
theorem dX1_changesOf_14 : decode cX1_changesOf 14 = .ok (.if_icmp .ge 28, 3) := by decide +kernel
theorem dX1_changesOf_17 : decode cX1_changesOf 17 = .ok (.aload_n 0, 1) := by decide +kernel
theorem dX1_changesOf_18 : decode cX1_changesOf 18 = .ok (.getfield 17, 3) := by decide +kernel
theorem dX1_changesOf_21 : decode cX1_changesOf 21 = .ok (.iload_n 3, 1) := by decide +kernel
theorem dX1_changesOf_22 : decode cX1_changesOf 22 = .ok (.aaload, 1) := by decide +kernel
theorem dX1_changesOf_23 : decode cX1_changesOf 23 = .ok (.iload_n 1, 1) := by decide +kernel
theorem dX1_changesOf_24 : decode cX1_changesOf 24 = .ok (.invokevirtual 69, 3) := by decide +kernel
theorem dX1_changesOf_27 : decode cX1_changesOf 27 = .ok (.ifCond .eq 9, 3) := by decide +kernel
theorem dX1_changesOf_30 : decode cX1_changesOf 30 = .ok (.iload_n 2, 1) := by decide +kernel
theorem dX1_changesOf_31 : decode cX1_changesOf 31 = .ok (.iconst 1, 1) := by decide +kernel
theorem dX1_changesOf_32 : decode cX1_changesOf 32 = .ok (.iload_n 3, 1) := by decide +kernel
theorem dX1_changesOf_33 : decode cX1_changesOf 33 = .ok (.ishl, 1) := by decide +kernel
theorem dX1_changesOf_34 : decode cX1_changesOf 34 = .ok (.ior, 1) := by decide +kernel
theorem dX1_changesOf_35 : decode cX1_changesOf 35 = .ok (.istore_n 2, 1) := by decide +kernel
theorem dX1_changesOf_36 : decode cX1_changesOf 36 = .ok (.iinc 3 1, 3) := by decide +kernel
theorem dX1_changesOf_39 : decode cX1_changesOf 39 = .ok (.goto (-35), 3) := by decide +kernel
theorem dX1_changesOf_42 : decode cX1_changesOf 42 = .ok (.iload_n 2, 1) := by decide +kernel
theorem dX1_changesOf_43 : decode cX1_changesOf 43 = .ok (.ireturn, 1) := by decide +kernel
theorem dX1_isOver_0 : decode cX1_isOver 0 = .ok (.aload_n 0, 1) := by decide +kernel
theorem dX1_isOver_1 : decode cX1_isOver 1 = .ok (.iload_n 1, 1) := by decide +kernel
theorem dX1_isOver_2 : decode cX1_isOver 2 = .ok (.invokevirtual 73, 3) := by decide +kernel
theorem dX1_isOver_5 : decode cX1_isOver 5 = .ok (.astore_n 2, 1) := by decide +kernel
theorem dX1_isOver_6 : decode cX1_isOver 6 = .ok (.aload_n 2, 1) := by decide +kernel
theorem dX1_isOver_7 : decode cX1_isOver 7 = .ok (.ifnull 23, 3) := by decide +kernel
theorem dX1_isOver_10 : decode cX1_isOver 10 = .ok (.aload_n 2, 1) := by decide +kernel
theorem dX1_isOver_11 : decode cX1_isOver 11 = .ok (.getfield 77, 3) := by decide +kernel
theorem dX1_isOver_14 : decode cX1_isOver 14 = .ok (.iconst 3, 1) := by decide +kernel
theorem dX1_isOver_15 : decode cX1_isOver 15 = .ok (.if_icmp .eq 11, 3) := by decide +kernel
theorem dX1_isOver_18 : decode cX1_isOver 18 = .ok (.aload_n 2, 1) := by decide +kernel
theorem dX1_isOver_19 : decode cX1_isOver 19 = .ok (.getfield 77, 3) := by decide +kernel
theorem dX1_isOver_22 : decode cX1_isOver 22 = .ok (.iconst 5, 1) := by decide +kernel
theorem dX1_isOver_23 : decode cX1_isOver 23 = .ok (.if_icmp .ne 7, 3) := by decide +kernel
theorem dX1_isOver_26 : decode cX1_isOver 26 = .ok (.iconst 1, 1) := by decide +kernel
theorem dX1_isOver_27 : decode cX1_isOver 27 = .ok (.goto 4, 3) := by decide +kernel
theorem dX1_isOver_30 : decode cX1_isOver 30 = .ok (.iconst 0, 1) := by decide +kernel
theorem dX1_isOver_31 : decode cX1_isOver 31 = .ok (.ireturn, 1) := by decide +kernel
theorem dX1_takeProbes_0 : decode cX1_takeProbes 0 = .ok (.iconst 0, 1) := by decide +kernel
theorem dX1_takeProbes_1 : decode cX1_takeProbes 1 = .ok (.istore 4, 2) := by decide +kernel
theorem dX1_takeProbes_3 : decode cX1_takeProbes 3 = .ok (.iconst 0, 1) := by decide +kernel
theorem dX1_takeProbes_4 : decode cX1_takeProbes 4 = .ok (.istore 5, 2) := by decide +kernel
theorem dX1_takeProbes_6 : decode cX1_takeProbes 6 = .ok (.iload 5, 2) := by decide +kernel
theorem dX1_takeProbes_8 : decode cX1_takeProbes 8 = .ok (.aload_n 0, 1) := by decide +kernel
theorem dX1_takeProbes_9 : decode cX1_takeProbes 9 = .ok (.getfield 45, 3) := by decide +kernel
theorem dX1_takeProbes_12 : decode cX1_takeProbes 12 = .ok (.if_icmp .ge 34, 3) := by decide +kernel
theorem dX1_takeProbes_15 : decode cX1_takeProbes 15 = .ok (.iload 5, 2) := by decide +kernel
theorem dX1_takeProbes_17 : decode cX1_takeProbes 17 = .ok (.iconst 5, 1) := by decide +kernel
theorem dX1_takeProbes_18 : decode cX1_takeProbes 18 = .ok (.if_icmp .ge 28, 3) := by decide +kernel
theorem dX1_takeProbes_21 : decode cX1_takeProbes 21 = .ok (.aload_n 0, 1) := by decide +kernel
theorem dX1_takeProbes_22 : decode cX1_takeProbes 22 = .ok (.getfield 17, 3) := by decide +kernel
theorem dX1_takeProbes_25 : decode cX1_takeProbes 25 = .ok (.iload 5, 2) := by decide +kernel
theorem dX1_takeProbes_27 : decode cX1_takeProbes 27 = .ok (.aaload, 1) := by decide +kernel
theorem dX1_takeProbes_28 : decode cX1_takeProbes 28 = .ok (.iload_n 1, 1) := by decide +kernel
theorem dX1_takeProbes_29 : decode cX1_takeProbes 29 = .ok (.iload_n 2, 1) := by decide +kernel
theorem dX1_takeProbes_30 : decode cX1_takeProbes 30 = .ok (.iload_n 3, 1) := by decide +kernel
theorem dX1_takeProbes_31 : decode cX1_takeProbes 31 = .ok (.invokevirtual 80, 3) := by decide +kernel
theorem dX1_takeProbes_34 : decode cX1_takeProbes 34 = .ok (.ifCond .eq 6, 3) := by decide +kernel
theorem dX1_takeProbes_37 : decode cX1_takeProbes 37 = .ok (.iinc 4 1, 3) := by decide +kernel
theorem dX1_takeProbes_40 : decode cX1_takeProbes 40 = .ok (.iinc 5 1, 3) := by decide +kernel
theorem dX1_takeProbes_43 : decode cX1_takeProbes 43 = .ok (.goto (-37), 3) := by decide +kernel
theorem dX1_takeProbes_46 : decode cX1_takeProbes 46 = .ok (.iload 4, 2) := by decide +kernel
theorem dX1_takeProbes_48 : decode cX1_takeProbes 48 = .ok (.ireturn, 1) := by decide +kernel
theorem dX1_reasonOf_0 : decode cX1_reasonOf 0 = .ok (.aload_n 1, 1) := by decide +kernel
theorem dX1_reasonOf_1 : decode cX1_reasonOf 1 = .ok (.invokevirtual 84, 3) := by decide +kernel
theorem dX1_reasonOf_4 : decode cX1_reasonOf 4 = .ok (.ifCond .ne 5, 3) := by decide +kernel
theorem dX1_reasonOf_7 : decode cX1_reasonOf 7 = .ok (.iconst 1, 1) := by decide +kernel
theorem dX1_reasonOf_8 : decode cX1_reasonOf 8 = .ok (.ireturn, 1) := by decide +kernel
theorem dX1_reasonOf_9 : decode cX1_reasonOf 9 = .ok (.aload_n 1, 1) := by decide +kernel
theorem dX1_reasonOf_10 : decode cX1_reasonOf 10 = .ok (.getfield 77, 3) := by decide +kernel
theorem dX1_reasonOf_13 : decode cX1_reasonOf 13 = .ok (.iconst 4, 1) := by decide +kernel
theorem dX1_reasonOf_14 : decode cX1_reasonOf 14 = .ok (.if_icmp .ne 5, 3) := by decide +kernel
theorem dX1_reasonOf_17 : decode cX1_reasonOf 17 = .ok (.iconst 2, 1) := by decide +kernel
theorem dX1_reasonOf_18 : decode cX1_reasonOf 18 = .ok (.ireturn, 1) := by decide +kernel
theorem dX1_reasonOf_19 : decode cX1_reasonOf 19 = .ok (.aload_n 1, 1) := by decide +kernel
theorem dX1_reasonOf_20 : decode cX1_reasonOf 20 = .ok (.getfield 77, 3) := by decide +kernel
theorem dX1_reasonOf_23 : decode cX1_reasonOf 23 = .ok (.iconst 2, 1) := by decide +kernel
theorem dX1_reasonOf_24 : decode cX1_reasonOf 24 = .ok (.if_icmp .ne 5, 3) := by decide +kernel
theorem dX1_reasonOf_27 : decode cX1_reasonOf 27 = .ok (.iconst 3, 1) := by decide +kernel
theorem dX1_reasonOf_28 : decode cX1_reasonOf 28 = .ok (.ireturn, 1) := by decide +kernel
theorem dX1_reasonOf_29 : decode cX1_reasonOf 29 = .ok (.aload_n 1, 1) := by decide +kernel
theorem dX1_reasonOf_30 : decode cX1_reasonOf 30 = .ok (.aload_n 0, 1) := by decide +kernel
theorem dX1_reasonOf_31 : decode cX1_reasonOf 31 = .ok (.getfield 48, 3) := by decide +kernel
theorem dX1_reasonOf_34 : decode cX1_reasonOf 34 = .ok (.invokevirtual 88, 3) := by decide +kernel
theorem dX1_reasonOf_37 : decode cX1_reasonOf 37 = .ok (.ifCond .eq 5, 3) := by decide +kernel
theorem dX1_reasonOf_40 : decode cX1_reasonOf 40 = .ok (.iconst 4, 1) := by decide +kernel
theorem dX1_reasonOf_41 : decode cX1_reasonOf 41 = .ok (.ireturn, 1) := by decide +kernel
theorem dX1_reasonOf_42 : decode cX1_reasonOf 42 = .ok (.aload_n 0, 1) := by decide +kernel
theorem dX1_reasonOf_43 : decode cX1_reasonOf 43 = .ok (.getfield 9, 3) := by decide +kernel
theorem dX1_reasonOf_46 : decode cX1_reasonOf 46 = .ok (.ifCond .ne 16, 3) := by decide +kernel
theorem dX1_reasonOf_49 : decode cX1_reasonOf 49 = .ok (.aload_n 1, 1) := by decide +kernel
theorem dX1_reasonOf_50 : decode cX1_reasonOf 50 = .ok (.aload_n 0, 1) := by decide +kernel
theorem dX1_reasonOf_51 : decode cX1_reasonOf 51 = .ok (.invokevirtual 91, 3) := by decide +kernel
theorem dX1_reasonOf_54 : decode cX1_reasonOf 54 = .ok (.invokevirtual 95, 3) := by decide +kernel
theorem dX1_reasonOf_57 : decode cX1_reasonOf 57 = .ok (.ifCond .eq 5, 3) := by decide +kernel
theorem dX1_reasonOf_60 : decode cX1_reasonOf 60 = .ok (.iconst 5, 1) := by decide +kernel
theorem dX1_reasonOf_61 : decode cX1_reasonOf 61 = .ok (.ireturn, 1) := by decide +kernel
theorem dX1_reasonOf_62 : decode cX1_reasonOf 62 = .ok (.aload_n 1, 1) := by decide +kernel
theorem dX1_reasonOf_63 : decode cX1_reasonOf 63 = .ok (.invokevirtual 98, 3) := by decide +kernel
theorem dX1_reasonOf_66 : decode cX1_reasonOf 66 = .ok (.ifCond .eq 24, 3) := by decide +kernel
theorem dX1_reasonOf_69 : decode cX1_reasonOf 69 = .ok (.aload_n 0, 1) := by decide +kernel
theorem dX1_reasonOf_70 : decode cX1_reasonOf 70 = .ok (.getfield 27, 3) := by decide +kernel
theorem dX1_reasonOf_73 : decode cX1_reasonOf 73 = .ok (.aload_n 0, 1) := by decide +kernel
theorem dX1_reasonOf_74 : decode cX1_reasonOf 74 = .ok (.getfield 48, 3) := by decide +kernel
theorem dX1_reasonOf_77 : decode cX1_reasonOf 77 = .ok (.sipush 168, 3) := by decide +kernel
theorem dX1_reasonOf_80 : decode cX1_reasonOf 80 = .ok (.irem, 1) := by decide +kernel
theorem dX1_reasonOf_81 : decode cX1_reasonOf 81 = .ok (.invokevirtual 101, 3) := by decide +kernel
theorem dX1_reasonOf_84 : decode cX1_reasonOf 84 = .ok (.ifCond .eq 6, 3) := by decide +kernel
theorem dX1_reasonOf_87 : decode cX1_reasonOf 87 = .ok (.bipush 6, 2) := by decide +kernel
theorem dX1_reasonOf_89 : decode cX1_reasonOf 89 = .ok (.ireturn, 1) := by decide +kernel
theorem dX1_reasonOf_90 : decode cX1_reasonOf 90 = .ok (.aload_n 1, 1) := by decide +kernel
theorem dX1_reasonOf_91 : decode cX1_reasonOf 91 = .ok (.getfield 104, 3) := by decide +kernel
theorem dX1_reasonOf_94 : decode cX1_reasonOf 94 = .ok (.ifCond .le 7, 3) := by decide +kernel
theorem dX1_reasonOf_97 : decode cX1_reasonOf 97 = .ok (.iconst 0, 1) := by decide +kernel
theorem dX1_reasonOf_98 : decode cX1_reasonOf 98 = .ok (.goto 8, 3) := by decide +kernel
theorem dX1_reasonOf_101 : decode cX1_reasonOf 101 = .ok (.aload_n 0, 1) := by decide +kernel
theorem dX1_reasonOf_102 : decode cX1_reasonOf 102 = .ok (.aload_n 1, 1) := by decide +kernel
theorem dX1_reasonOf_103 : decode cX1_reasonOf 103 = .ok (.invokevirtual 107, 3) := by decide +kernel
theorem dX1_reasonOf_106 : decode cX1_reasonOf 106 = .ok (.ireturn, 1) := by decide +kernel
theorem dX1_reasonBeforeFirstStage_0 : decode cX1_reasonBeforeFirstStage 0 = .ok (.aload_n 0, 1) := by decide +kernel
theorem dX1_reasonBeforeFirstStage_1 : decode cX1_reasonBeforeFirstStage 1 = .ok (.aload_n 1, 1) := by decide +kernel
theorem dX1_reasonBeforeFirstStage_2 : decode cX1_reasonBeforeFirstStage 2 = .ok (.getfield 111, 3) := by decide +kernel
theorem dX1_reasonBeforeFirstStage_5 : decode cX1_reasonBeforeFirstStage 5 = .ok (.invokevirtual 114, 3) := by decide +kernel
theorem dX1_reasonBeforeFirstStage_8 : decode cX1_reasonBeforeFirstStage 8 = .ok (.ifCond .eq 6, 3) := by decide +kernel
theorem dX1_reasonBeforeFirstStage_11 : decode cX1_reasonBeforeFirstStage 11 = .ok (.bipush 7, 2) := by decide +kernel
theorem dX1_reasonBeforeFirstStage_13 : decode cX1_reasonBeforeFirstStage 13 = .ok (.ireturn, 1) := by decide +kernel
theorem dX1_reasonBeforeFirstStage_14 : decode cX1_reasonBeforeFirstStage 14 = .ok (.aload_n 1, 1) := by decide +kernel
theorem dX1_reasonBeforeFirstStage_15 : decode cX1_reasonBeforeFirstStage 15 = .ok (.getfield 117, 3) := by decide +kernel
theorem dX1_reasonBeforeFirstStage_18 : decode cX1_reasonBeforeFirstStage 18 = .ok (.ifCond .eq 16, 3) := by decide +kernel
theorem dX1_reasonBeforeFirstStage_21 : decode cX1_reasonBeforeFirstStage 21 = .ok (.aload_n 0, 1) := by decide +kernel
theorem dX1_reasonBeforeFirstStage_22 : decode cX1_reasonBeforeFirstStage 22 = .ok (.aload_n 1, 1) := by decide +kernel
theorem dX1_reasonBeforeFirstStage_23 : decode cX1_reasonBeforeFirstStage 23 = .ok (.invokevirtual 120, 3) := by decide +kernel
theorem dX1_reasonBeforeFirstStage_26 : decode cX1_reasonBeforeFirstStage 26 = .ok (.ifCond .eq 8, 3) := by decide +kernel
theorem dX1_reasonBeforeFirstStage_29 : decode cX1_reasonBeforeFirstStage 29 = .ok (.bipush 8, 2) := by decide +kernel
theorem dX1_reasonBeforeFirstStage_31 : decode cX1_reasonBeforeFirstStage 31 = .ok (.goto 4, 3) := by decide +kernel
theorem dX1_reasonBeforeFirstStage_34 : decode cX1_reasonBeforeFirstStage 34 = .ok (.iconst 0, 1) := by decide +kernel
theorem dX1_reasonBeforeFirstStage_35 : decode cX1_reasonBeforeFirstStage 35 = .ok (.ireturn, 1) := by decide +kernel
theorem dX1_lacksDone_0 : decode cX1_lacksDone 0 = .ok (.iconst 0, 1) := by decide +kernel
theorem dX1_lacksDone_1 : decode cX1_lacksDone 1 = .ok (.istore_n 2, 1) := by decide +kernel
theorem dX1_lacksDone_2 : decode cX1_lacksDone 2 = .ok (.iload_n 2, 1) := by decide +kernel
theorem dX1_lacksDone_3 : decode cX1_lacksDone 3 = .ok (.aload_n 0, 1) := by decide +kernel
theorem dX1_lacksDone_4 : decode cX1_lacksDone 4 = .ok (.getfield 45, 3) := by decide +kernel
theorem dX1_lacksDone_7 : decode cX1_lacksDone 7 = .ok (.if_icmp .ge 37, 3) := by decide +kernel
theorem dX1_lacksDone_10 : decode cX1_lacksDone 10 = .ok (.iload_n 2, 1) := by decide +kernel
theorem dX1_lacksDone_11 : decode cX1_lacksDone 11 = .ok (.iconst 5, 1) := by decide +kernel
theorem dX1_lacksDone_12 : decode cX1_lacksDone 12 = .ok (.if_icmp .ge 32, 3) := by decide +kernel
theorem dX1_lacksDone_15 : decode cX1_lacksDone 15 = .ok (.iload_n 1, 1) := by decide +kernel
theorem dX1_lacksDone_16 : decode cX1_lacksDone 16 = .ok (.iload_n 2, 1) := by decide +kernel
theorem dX1_lacksDone_17 : decode cX1_lacksDone 17 = .ok (.ishr, 1) := by decide +kernel
theorem dX1_lacksDone_18 : decode cX1_lacksDone 18 = .ok (.iconst 1, 1) := by decide +kernel
theorem dX1_lacksDone_19 : decode cX1_lacksDone 19 = .ok (.iand, 1) := by decide +kernel
theorem dX1_lacksDone_20 : decode cX1_lacksDone 20 = .ok (.ifCond .eq 18, 3) := by decide +kernel
theorem dX1_lacksDone_23 : decode cX1_lacksDone 23 = .ok (.aload_n 0, 1) := by decide +kernel
theorem dX1_lacksDone_24 : decode cX1_lacksDone 24 = .ok (.getfield 17, 3) := by decide +kernel
theorem dX1_lacksDone_27 : decode cX1_lacksDone 27 = .ok (.iload_n 2, 1) := by decide +kernel
theorem dX1_lacksDone_28 : decode cX1_lacksDone 28 = .ok (.aaload, 1) := by decide +kernel
theorem dX1_lacksDone_29 : decode cX1_lacksDone 29 = .ok (.getfield 77, 3) := by decide +kernel
theorem dX1_lacksDone_32 : decode cX1_lacksDone 32 = .ok (.iconst 3, 1) := by decide +kernel
theorem dX1_lacksDone_33 : decode cX1_lacksDone 33 = .ok (.if_icmp .eq 5, 3) := by decide +kernel
theorem dX1_lacksDone_36 : decode cX1_lacksDone 36 = .ok (.iconst 1, 1) := by decide +kernel
theorem dX1_lacksDone_37 : decode cX1_lacksDone 37 = .ok (.ireturn, 1) := by decide +kernel
theorem dX1_lacksDone_38 : decode cX1_lacksDone 38 = .ok (.iinc 2 1, 3) := by decide +kernel
theorem dX1_lacksDone_41 : decode cX1_lacksDone 41 = .ok (.goto (-39), 3) := by decide +kernel
theorem dX1_lacksDone_44 : decode cX1_lacksDone 44 = .ok (.iconst 0, 1) := by decide +kernel
theorem dX1_lacksDone_45 : decode cX1_lacksDone 45 = .ok (.ireturn, 1) := by decide +kernel
theorem dX1_meetsOtherRisk_0 : decode cX1_meetsOtherRisk 0 = .ok (.iconst 0, 1) := by decide +kernel
theorem dX1_meetsOtherRisk_1 : decode cX1_meetsOtherRisk 1 = .ok (.istore_n 2, 1) := by decide +kernel
theorem dX1_meetsOtherRisk_2 : decode cX1_meetsOtherRisk 2 = .ok (.iload_n 2, 1) := by decide +kernel
theorem dX1_meetsOtherRisk_3 : decode cX1_meetsOtherRisk 3 = .ok (.aload_n 0, 1) := by decide +kernel
theorem dX1_meetsOtherRisk_4 : decode cX1_meetsOtherRisk 4 = .ok (.getfield 45, 3) := by decide +kernel
theorem dX1_meetsOtherRisk_7 : decode cX1_meetsOtherRisk 7 = .ok (.if_icmp .ge 49, 3) := by decide +kernel
theorem dX1_meetsOtherRisk_10 : decode cX1_meetsOtherRisk 10 = .ok (.iload_n 2, 1) := by decide +kernel
theorem dX1_meetsOtherRisk_11 : decode cX1_meetsOtherRisk 11 = .ok (.iconst 5, 1) := by decide +kernel
theorem dX1_meetsOtherRisk_12 : decode cX1_meetsOtherRisk 12 = .ok (.if_icmp .ge 44, 3) := by decide +kernel
theorem dX1_meetsOtherRisk_15 : decode cX1_meetsOtherRisk 15 = .ok (.aload_n 0, 1) := by decide +kernel
theorem dX1_meetsOtherRisk_16 : decode cX1_meetsOtherRisk 16 = .ok (.getfield 17, 3) := by decide +kernel
theorem dX1_meetsOtherRisk_19 : decode cX1_meetsOtherRisk 19 = .ok (.iload_n 2, 1) := by decide +kernel
theorem dX1_meetsOtherRisk_20 : decode cX1_meetsOtherRisk 20 = .ok (.aaload, 1) := by decide +kernel
theorem dX1_meetsOtherRisk_21 : decode cX1_meetsOtherRisk 21 = .ok (.astore_n 3, 1) := by decide +kernel
theorem dX1_meetsOtherRisk_22 : decode cX1_meetsOtherRisk 22 = .ok (.aload_n 3, 1) := by decide +kernel
theorem dX1_meetsOtherRisk_23 : decode cX1_meetsOtherRisk 23 = .ok (.aload_n 1, 1) := by decide +kernel
theorem dX1_meetsOtherRisk_24 : decode cX1_meetsOtherRisk 24 = .ok (.if_acmp .eq 26, 3) := by decide +kernel
theorem dX1_meetsOtherRisk_27 : decode cX1_meetsOtherRisk 27 = .ok (.aload_n 3, 1) := by decide +kernel
theorem dX1_meetsOtherRisk_28 : decode cX1_meetsOtherRisk 28 = .ok (.getfield 117, 3) := by decide +kernel
theorem dX1_meetsOtherRisk_31 : decode cX1_meetsOtherRisk 31 = .ok (.ifCond .eq 19, 3) := by decide +kernel
theorem dX1_meetsOtherRisk_34 : decode cX1_meetsOtherRisk 34 = .ok (.aload_n 3, 1) := by decide +kernel
theorem dX1_meetsOtherRisk_35 : decode cX1_meetsOtherRisk 35 = .ok (.invokevirtual 84, 3) := by decide +kernel
theorem dX1_meetsOtherRisk_38 : decode cX1_meetsOtherRisk 38 = .ok (.ifCond .eq 12, 3) := by decide +kernel
theorem dX1_meetsOtherRisk_41 : decode cX1_meetsOtherRisk 41 = .ok (.aload_n 3, 1) := by decide +kernel
theorem dX1_meetsOtherRisk_42 : decode cX1_meetsOtherRisk 42 = .ok (.getfield 104, 3) := by decide +kernel
theorem dX1_meetsOtherRisk_45 : decode cX1_meetsOtherRisk 45 = .ok (.ifCond .le 5, 3) := by decide +kernel
theorem dX1_meetsOtherRisk_48 : decode cX1_meetsOtherRisk 48 = .ok (.iconst 1, 1) := by decide +kernel
theorem dX1_meetsOtherRisk_49 : decode cX1_meetsOtherRisk 49 = .ok (.ireturn, 1) := by decide +kernel
theorem dX1_meetsOtherRisk_50 : decode cX1_meetsOtherRisk 50 = .ok (.iinc 2 1, 3) := by decide +kernel
theorem dX1_meetsOtherRisk_53 : decode cX1_meetsOtherRisk 53 = .ok (.goto (-51), 3) := by decide +kernel
theorem dX1_meetsOtherRisk_56 : decode cX1_meetsOtherRisk 56 = .ok (.iconst 0, 1) := by decide +kernel
theorem dX1_meetsOtherRisk_57 : decode cX1_meetsOtherRisk 57 = .ok (.ireturn, 1) := by decide +kernel
theorem dX1_become_0 : decode cX1_become 0 = .ok (.aload_n 1, 1) := by decide +kernel
theorem dX1_become_1 : decode cX1_become 1 = .ok (.iload_n 2, 1) := by decide +kernel
theorem dX1_become_2 : decode cX1_become 2 = .ok (.putfield 77, 3) := by decide +kernel
theorem dX1_become_5 : decode cX1_become 5 = .ok (.aload_n 0, 1) := by decide +kernel
theorem dX1_become_6 : decode cX1_become 6 = .ok (.getfield 34, 3) := by decide +kernel
theorem dX1_become_9 : decode cX1_become 9 = .ok (.aload_n 0, 1) := by decide +kernel
theorem dX1_become_10 : decode cX1_become 10 = .ok (.getfield 48, 3) := by decide +kernel
theorem dX1_become_13 : decode cX1_become 13 = .ok (.aload_n 1, 1) := by decide +kernel
theorem dX1_become_14 : decode cX1_become 14 = .ok (.getfield 124, 3) := by decide +kernel
theorem dX1_become_17 : decode cX1_become 17 = .ok (.iload_n 3, 1) := by decide +kernel
theorem dX1_become_18 : decode cX1_become 18 = .ok (.bipush (-15), 2) := by decide +kernel
theorem dX1_become_20 : decode cX1_become 20 = .ok (.invokevirtual 127, 3) := by decide +kernel
theorem dX1_become_23 : decode cX1_become 23 = .ok (.return_, 1) := by decide +kernel
theorem dX1_passHour_0 : decode cX1_passHour 0 = .ok (.iconst 0, 1) := by decide +kernel
theorem dX1_passHour_1 : decode cX1_passHour 1 = .ok (.istore_n 1, 1) := by decide +kernel
theorem dX1_passHour_2 : decode cX1_passHour 2 = .ok (.iload_n 1, 1) := by decide +kernel
theorem dX1_passHour_3 : decode cX1_passHour 3 = .ok (.aload_n 0, 1) := by decide +kernel
theorem dX1_passHour_4 : decode cX1_passHour 4 = .ok (.getfield 45, 3) := by decide +kernel
theorem dX1_passHour_7 : decode cX1_passHour 7 = .ok (.if_icmp .ge 24, 3) := by decide +kernel
theorem dX1_passHour_10 : decode cX1_passHour 10 = .ok (.iload_n 1, 1) := by decide +kernel
theorem dX1_passHour_11 : decode cX1_passHour 11 = .ok (.iconst 5, 1) := by decide +kernel
theorem dX1_passHour_12 : decode cX1_passHour 12 = .ok (.if_icmp .ge 19, 3) := by decide +kernel
theorem dX1_passHour_15 : decode cX1_passHour 15 = .ok (.aload_n 0, 1) := by decide +kernel
theorem dX1_passHour_16 : decode cX1_passHour 16 = .ok (.aload_n 0, 1) := by decide +kernel
theorem dX1_passHour_17 : decode cX1_passHour 17 = .ok (.getfield 17, 3) := by decide +kernel
theorem dX1_passHour_20 : decode cX1_passHour 20 = .ok (.iload_n 1, 1) := by decide +kernel
theorem dX1_passHour_21 : decode cX1_passHour 21 = .ok (.aaload, 1) := by decide +kernel
theorem dX1_passHour_22 : decode cX1_passHour 22 = .ok (.invokevirtual 131, 3) := by decide +kernel
theorem dX1_passHour_25 : decode cX1_passHour 25 = .ok (.iinc 1 1, 3) := by decide +kernel
theorem dX1_passHour_28 : decode cX1_passHour 28 = .ok (.goto (-26), 3) := by decide +kernel
theorem dX1_passHour_31 : decode cX1_passHour 31 = .ok (.aload_n 0, 1) := by decide +kernel
theorem dX1_passHour_32 : decode cX1_passHour 32 = .ok (.dup, 1) := by decide +kernel
theorem dX1_passHour_33 : decode cX1_passHour 33 = .ok (.getfield 48, 3) := by decide +kernel
theorem dX1_passHour_36 : decode cX1_passHour 36 = .ok (.iconst 1, 1) := by decide +kernel
theorem dX1_passHour_37 : decode cX1_passHour 37 = .ok (.iadd, 1) := by decide +kernel
theorem dX1_passHour_38 : decode cX1_passHour 38 = .ok (.putfield 48, 3) := by decide +kernel
theorem dX1_passHour_41 : decode cX1_passHour 41 = .ok (.return_, 1) := by decide +kernel
theorem dX1_moveInHour_0 : decode cX1_moveInHour 0 = .ok (.aload_n 0, 1) := by decide +kernel
theorem dX1_moveInHour_1 : decode cX1_moveInHour 1 = .ok (.aload_n 1, 1) := by decide +kernel
theorem dX1_moveInHour_2 : decode cX1_moveInHour 2 = .ok (.invokevirtual 134, 3) := by decide +kernel
theorem dX1_moveInHour_5 : decode cX1_moveInHour 5 = .ok (.ifCond .eq 13, 3) := by decide +kernel
theorem dX1_moveInHour_8 : decode cX1_moveInHour 8 = .ok (.aload_n 0, 1) := by decide +kernel
theorem dX1_moveInHour_9 : decode cX1_moveInHour 9 = .ok (.aload_n 1, 1) := by decide +kernel
theorem dX1_moveInHour_10 : decode cX1_moveInHour 10 = .ok (.iconst 4, 1) := by decide +kernel
theorem dX1_moveInHour_11 : decode cX1_moveInHour 11 = .ok (.iconst 3, 1) := by decide +kernel
theorem dX1_moveInHour_12 : decode cX1_moveInHour 12 = .ok (.invokevirtual 137, 3) := by decide +kernel
theorem dX1_moveInHour_15 : decode cX1_moveInHour 15 = .ok (.goto 40, 3) := by decide +kernel
theorem dX1_moveInHour_18 : decode cX1_moveInHour 18 = .ok (.aload_n 1, 1) := by decide +kernel
theorem dX1_moveInHour_19 : decode cX1_moveInHour 19 = .ok (.getfield 77, 3) := by decide +kernel
theorem dX1_moveInHour_22 : decode cX1_moveInHour 22 = .ok (.iconst 4, 1) := by decide +kernel
theorem dX1_moveInHour_23 : decode cX1_moveInHour 23 = .ok (.if_icmp .ne 11, 3) := by decide +kernel
theorem dX1_moveInHour_26 : decode cX1_moveInHour 26 = .ok (.aload_n 0, 1) := by decide +kernel
theorem dX1_moveInHour_27 : decode cX1_moveInHour 27 = .ok (.aload_n 1, 1) := by decide +kernel
theorem dX1_moveInHour_28 : decode cX1_moveInHour 28 = .ok (.invokevirtual 141, 3) := by decide +kernel
theorem dX1_moveInHour_31 : decode cX1_moveInHour 31 = .ok (.goto 24, 3) := by decide +kernel
theorem dX1_moveInHour_34 : decode cX1_moveInHour 34 = .ok (.aload_n 1, 1) := by decide +kernel
theorem dX1_moveInHour_35 : decode cX1_moveInHour 35 = .ok (.getfield 77, 3) := by decide +kernel
theorem dX1_moveInHour_38 : decode cX1_moveInHour 38 = .ok (.iconst 1, 1) := by decide +kernel
theorem dX1_moveInHour_39 : decode cX1_moveInHour 39 = .ok (.if_icmp .ne 16, 3) := by decide +kernel
theorem dX1_moveInHour_42 : decode cX1_moveInHour 42 = .ok (.aload_n 0, 1) := by decide +kernel
theorem dX1_moveInHour_43 : decode cX1_moveInHour 43 = .ok (.aload_n 1, 1) := by decide +kernel
theorem dX1_moveInHour_44 : decode cX1_moveInHour 44 = .ok (.invokevirtual 144, 3) := by decide +kernel
theorem dX1_moveInHour_47 : decode cX1_moveInHour 47 = .ok (.ifCond .ne 8, 3) := by decide +kernel
theorem dX1_moveInHour_50 : decode cX1_moveInHour 50 = .ok (.aload_n 0, 1) := by decide +kernel
theorem dX1_moveInHour_51 : decode cX1_moveInHour 51 = .ok (.aload_n 1, 1) := by decide +kernel
theorem dX1_moveInHour_52 : decode cX1_moveInHour 52 = .ok (.invokevirtual 147, 3) := by decide +kernel
theorem dX1_moveInHour_55 : decode cX1_moveInHour 55 = .ok (.return_, 1) := by decide +kernel
theorem dX1_hasBadChance_0 : decode cX1_hasBadChance 0 = .ok (.aload_n 0, 1) := by decide +kernel
theorem dX1_hasBadChance_1 : decode cX1_hasBadChance 1 = .ok (.getfield 9, 3) := by decide +kernel
theorem dX1_hasBadChance_4 : decode cX1_hasBadChance 4 = .ok (.ifCond .ne 35, 3) := by decide +kernel
theorem dX1_hasBadChance_7 : decode cX1_hasBadChance 7 = .ok (.aload_n 1, 1) := by decide +kernel
theorem dX1_hasBadChance_8 : decode cX1_hasBadChance 8 = .ok (.invokevirtual 150, 3) := by decide +kernel
theorem dX1_hasBadChance_11 : decode cX1_hasBadChance 11 = .ok (.ifCond .eq 28, 3) := by decide +kernel
theorem dX1_hasBadChance_14 : decode cX1_hasBadChance 14 = .ok (.aload_n 1, 1) := by decide +kernel
theorem dX1_hasBadChance_15 : decode cX1_hasBadChance 15 = .ok (.getfield 104, 3) := by decide +kernel
theorem dX1_hasBadChance_18 : decode cX1_hasBadChance 18 = .ok (.ifCond .le 21, 3) := by decide +kernel
theorem dX1_hasBadChance_21 : decode cX1_hasBadChance 21 = .ok (.aload_n 1, 1) := by decide +kernel
theorem dX1_hasBadChance_22 : decode cX1_hasBadChance 22 = .ok (.getfield 153, 3) := by decide +kernel
theorem dX1_hasBadChance_25 : decode cX1_hasBadChance 25 = .ok (.aload_n 0, 1) := by decide +kernel
theorem dX1_hasBadChance_26 : decode cX1_hasBadChance 26 = .ok (.getfield 42, 3) := by decide +kernel
theorem dX1_hasBadChance_29 : decode cX1_hasBadChance 29 = .ok (.invokevirtual 157, 3) := by decide +kernel
theorem dX1_hasBadChance_32 : decode cX1_hasBadChance 32 = .ok (.ifCond .eq 7, 3) := by decide +kernel
theorem dX1_hasBadChance_35 : decode cX1_hasBadChance 35 = .ok (.iconst 1, 1) := by decide +kernel
theorem dX1_hasBadChance_36 : decode cX1_hasBadChance 36 = .ok (.goto 4, 3) := by decide +kernel
theorem dX1_hasBadChance_39 : decode cX1_hasBadChance 39 = .ok (.iconst 0, 1) := by decide +kernel
theorem dX1_hasBadChance_40 : decode cX1_hasBadChance 40 = .ok (.ireturn, 1) := by decide +kernel
theorem dX1_turnStage_0 : decode cX1_turnStage 0 = .ok (.aload_n 1, 1) := by decide +kernel
theorem dX1_turnStage_1 : decode cX1_turnStage 1 = .ok (.getfield 104, 3) := by decide +kernel
theorem dX1_turnStage_4 : decode cX1_turnStage 4 = .ok (.ifCond .le 33, 3) := by decide +kernel
theorem dX1_turnStage_7 : decode cX1_turnStage 7 = .ok (.aload_n 1, 1) := by decide +kernel
theorem dX1_turnStage_8 : decode cX1_turnStage 8 = .ok (.dup, 1) := by decide +kernel
theorem dX1_turnStage_9 : decode cX1_turnStage 9 = .ok (.getfield 104, 3) := by decide +kernel
theorem dX1_turnStage_12 : decode cX1_turnStage 12 = .ok (.iconst 1, 1) := by decide +kernel
theorem dX1_turnStage_13 : decode cX1_turnStage 13 = .ok (.isub, 1) := by decide +kernel
theorem dX1_turnStage_14 : decode cX1_turnStage 14 = .ok (.putfield 104, 3) := by decide +kernel
theorem dX1_turnStage_17 : decode cX1_turnStage 17 = .ok (.aload_n 0, 1) := by decide +kernel
theorem dX1_turnStage_18 : decode cX1_turnStage 18 = .ok (.getfield 34, 3) := by decide +kernel
theorem dX1_turnStage_21 : decode cX1_turnStage 21 = .ok (.aload_n 0, 1) := by decide +kernel
theorem dX1_turnStage_22 : decode cX1_turnStage 22 = .ok (.getfield 48, 3) := by decide +kernel
theorem dX1_turnStage_25 : decode cX1_turnStage 25 = .ok (.aload_n 1, 1) := by decide +kernel
theorem dX1_turnStage_26 : decode cX1_turnStage 26 = .ok (.getfield 124, 3) := by decide +kernel
theorem dX1_turnStage_29 : decode cX1_turnStage 29 = .ok (.iconst 4, 1) := by decide +kernel
theorem dX1_turnStage_30 : decode cX1_turnStage 30 = .ok (.aload_n 1, 1) := by decide +kernel
theorem dX1_turnStage_31 : decode cX1_turnStage 31 = .ok (.getfield 104, 3) := by decide +kernel
theorem dX1_turnStage_34 : decode cX1_turnStage 34 = .ok (.invokevirtual 127, 3) := by decide +kernel
theorem dX1_turnStage_37 : decode cX1_turnStage 37 = .ok (.aload_n 1, 1) := by decide +kernel
theorem dX1_turnStage_38 : decode cX1_turnStage 38 = .ok (.getfield 104, 3) := by decide +kernel
theorem dX1_turnStage_41 : decode cX1_turnStage 41 = .ok (.ifCond .ne 10, 3) := by decide +kernel
theorem dX1_turnStage_44 : decode cX1_turnStage 44 = .ok (.aload_n 0, 1) := by decide +kernel
theorem dX1_turnStage_45 : decode cX1_turnStage 45 = .ok (.aload_n 1, 1) := by decide +kernel
theorem dX1_turnStage_46 : decode cX1_turnStage 46 = .ok (.iconst 5, 1) := by decide +kernel
theorem dX1_turnStage_47 : decode cX1_turnStage 47 = .ok (.iconst 5, 1) := by decide +kernel
theorem dX1_turnStage_48 : decode cX1_turnStage 48 = .ok (.invokevirtual 137, 3) := by decide +kernel
theorem dX1_turnStage_51 : decode cX1_turnStage 51 = .ok (.return_, 1) := by decide +kernel
theorem dX1_goOn_0 : decode cX1_goOn 0 = .ok (.aload_n 1, 1) := by decide +kernel
theorem dX1_goOn_1 : decode cX1_goOn 1 = .ok (.invokevirtual 98, 3) := by decide +kernel
theorem dX1_goOn_4 : decode cX1_goOn 4 = .ok (.ifCond .eq 34, 3) := by decide +kernel
theorem dX1_goOn_7 : decode cX1_goOn 7 = .ok (.aload_n 0, 1) := by decide +kernel
theorem dX1_goOn_8 : decode cX1_goOn 8 = .ok (.getfield 34, 3) := by decide +kernel
theorem dX1_goOn_11 : decode cX1_goOn 11 = .ok (.aload_n 0, 1) := by decide +kernel
theorem dX1_goOn_12 : decode cX1_goOn 12 = .ok (.getfield 48, 3) := by decide +kernel
theorem dX1_goOn_15 : decode cX1_goOn 15 = .ok (.aload_n 1, 1) := by decide +kernel
theorem dX1_goOn_16 : decode cX1_goOn 16 = .ok (.getfield 124, 3) := by decide +kernel
theorem dX1_goOn_19 : decode cX1_goOn 19 = .ok (.iconst 1, 1) := by decide +kernel
theorem dX1_goOn_20 : decode cX1_goOn 20 = .ok (.aload_n 1, 1) := by decide +kernel
theorem dX1_goOn_21 : decode cX1_goOn 21 = .ok (.getfield 104, 3) := by decide +kernel
theorem dX1_goOn_24 : decode cX1_goOn 24 = .ok (.invokevirtual 127, 3) := by decide +kernel
theorem dX1_goOn_27 : decode cX1_goOn 27 = .ok (.aload_n 1, 1) := by decide +kernel
theorem dX1_goOn_28 : decode cX1_goOn 28 = .ok (.aload_n 0, 1) := by decide +kernel
theorem dX1_goOn_29 : decode cX1_goOn 29 = .ok (.getfield 48, 3) := by decide +kernel
theorem dX1_goOn_32 : decode cX1_goOn 32 = .ok (.invokevirtual 162, 3) := by decide +kernel
theorem dX1_goOn_35 : decode cX1_goOn 35 = .ok (.goto 10, 3) := by decide +kernel
theorem dX1_goOn_38 : decode cX1_goOn 38 = .ok (.aload_n 0, 1) := by decide +kernel
theorem dX1_goOn_39 : decode cX1_goOn 39 = .ok (.aload_n 1, 1) := by decide +kernel
theorem dX1_goOn_40 : decode cX1_goOn 40 = .ok (.iconst 3, 1) := by decide +kernel
theorem dX1_goOn_41 : decode cX1_goOn 41 = .ok (.iconst 2, 1) := by decide +kernel
theorem dX1_goOn_42 : decode cX1_goOn 42 = .ok (.invokevirtual 137, 3) := by decide +kernel
theorem dX1_goOn_45 : decode cX1_goOn 45 = .ok (.return_, 1) := by decide +kernel
theorem dX2_init_0 : decode cX2_init 0 = .ok (.aload_n 0, 1) := by decide +kernel
theorem dX2_init_1 : decode cX2_init 1 = .ok (.invokespecial 3, 3) := by decide +kernel
theorem dX2_init_4 : decode cX2_init 4 = .ok (.aload_n 0, 1) := by decide +kernel
theorem dX2_init_5 : decode cX2_init 5 = .ok (.iconst 3, 1) := by decide +kernel
theorem dX2_init_6 : decode cX2_init 6 = .ok (.newarray .int, 2) := by decide +kernel
theorem dX2_init_8 : decode cX2_init 8 = .ok (.putfield 9, 3) := by decide +kernel
theorem dX2_init_11 : decode cX2_init 11 = .ok (.aload_n 0, 1) := by decide +kernel
theorem dX2_init_12 : decode cX2_init 12 = .ok (.iconst 3, 1) := by decide +kernel
theorem dX2_init_13 : decode cX2_init 13 = .ok (.newarray .int, 2) := by decide +kernel
theorem dX2_init_15 : decode cX2_init 15 = .ok (.putfield 15, 3) := by decide +kernel
theorem dX2_init_18 : decode cX2_init 18 = .ok (.return_, 1) := by decide +kernel
theorem dX2_put_0 : decode cX2_put 0 = .ok (.aload_n 0, 1) := by decide +kernel
theorem dX2_put_1 : decode cX2_put 1 = .ok (.getfield 18, 3) := by decide +kernel
theorem dX2_put_4 : decode cX2_put 4 = .ok (.ifCond .lt 11, 3) := by decide +kernel
theorem dX2_put_7 : decode cX2_put 7 = .ok (.aload_n 0, 1) := by decide +kernel
theorem dX2_put_8 : decode cX2_put 8 = .ok (.getfield 18, 3) := by decide +kernel
theorem dX2_put_11 : decode cX2_put 11 = .ok (.iconst 3, 1) := by decide +kernel
theorem dX2_put_12 : decode cX2_put 12 = .ok (.if_icmp .lt 5, 3) := by decide +kernel
theorem dX2_put_15 : decode cX2_put 15 = .ok (.iconst 0, 1) := by decide +kernel
theorem dX2_put_16 : decode cX2_put 16 = .ok (.ireturn, 1) := by decide +kernel
theorem dX2_put_17 : decode cX2_put 17 = .ok (.aload_n 0, 1) := by decide +kernel
theorem dX2_put_18 : decode cX2_put 18 = .ok (.getfield 9, 3) := by decide +kernel
theorem dX2_put_21 : decode cX2_put 21 = .ok (.aload_n 0, 1) := by decide +kernel
theorem dX2_put_22 : decode cX2_put 22 = .ok (.getfield 18, 3) := by decide +kernel
theorem dX2_put_25 : decode cX2_put 25 = .ok (.iload_n 1, 1) := by decide +kernel
theorem dX2_put_26 : decode cX2_put 26 = .ok (.iastore, 1) := by decide +kernel
theorem dX2_put_27 : decode cX2_put 27 = .ok (.aload_n 0, 1) := by decide +kernel
theorem dX2_put_28 : decode cX2_put 28 = .ok (.getfield 15, 3) := by decide +kernel
theorem dX2_put_31 : decode cX2_put 31 = .ok (.aload_n 0, 1) := by decide +kernel
theorem dX2_put_32 : decode cX2_put 32 = .ok (.getfield 18, 3) := by decide +kernel
theorem dX2_put_35 : decode cX2_put 35 = .ok (.iload_n 2, 1) := by decide +kernel
theorem dX2_put_36 : decode cX2_put 36 = .ok (.iastore, 1) := by decide +kernel
theorem dX2_put_37 : decode cX2_put 37 = .ok (.aload_n 0, 1) := by decide +kernel
theorem dX2_put_38 : decode cX2_put 38 = .ok (.dup, 1) := by decide +kernel
theorem dX2_put_39 : decode cX2_put 39 = .ok (.getfield 18, 3) := by decide +kernel
theorem dX2_put_42 : decode cX2_put 42 = .ok (.iconst 1, 1) := by decide +kernel
theorem dX2_put_43 : decode cX2_put 43 = .ok (.iadd, 1) := by decide +kernel
theorem dX2_put_44 : decode cX2_put 44 = .ok (.putfield 18, 3) := by decide +kernel
theorem dX2_put_47 : decode cX2_put 47 = .ok (.iconst 1, 1) := by decide +kernel
theorem dX2_put_48 : decode cX2_put 48 = .ok (.ireturn, 1) := by decide +kernel
theorem dX2_covers_0 : decode cX2_covers 0 = .ok (.iconst 0, 1) := by decide +kernel
theorem dX2_covers_1 : decode cX2_covers 1 = .ok (.istore_n 2, 1) := by decide +kernel
theorem dX2_covers_2 : decode cX2_covers 2 = .ok (.iload_n 2, 1) := by decide +kernel
theorem dX2_covers_3 : decode cX2_covers 3 = .ok (.aload_n 0, 1) := by decide +kernel
theorem dX2_covers_4 : decode cX2_covers 4 = .ok (.getfield 18, 3) := by decide +kernel
theorem dX2_covers_7 : decode cX2_covers 7 = .ok (.if_icmp .ge 36, 3) := by decide +kernel
theorem dX2_covers_10 : decode cX2_covers 10 = .ok (.iload_n 2, 1) := by decide +kernel
theorem dX2_covers_11 : decode cX2_covers 11 = .ok (.iconst 3, 1) := by decide +kernel
theorem dX2_covers_12 : decode cX2_covers 12 = .ok (.if_icmp .ge 31, 3) := by decide +kernel
theorem dX2_covers_15 : decode cX2_covers 15 = .ok (.iload_n 1, 1) := by decide +kernel
theorem dX2_covers_16 : decode cX2_covers 16 = .ok (.aload_n 0, 1) := by decide +kernel
theorem dX2_covers_17 : decode cX2_covers 17 = .ok (.getfield 9, 3) := by decide +kernel
theorem dX2_covers_20 : decode cX2_covers 20 = .ok (.iload_n 2, 1) := by decide +kernel
theorem dX2_covers_21 : decode cX2_covers 21 = .ok (.iaload, 1) := by decide +kernel
theorem dX2_covers_22 : decode cX2_covers 22 = .ok (.if_icmp .lt 15, 3) := by decide +kernel
theorem dX2_covers_25 : decode cX2_covers 25 = .ok (.iload_n 1, 1) := by decide +kernel
theorem dX2_covers_26 : decode cX2_covers 26 = .ok (.aload_n 0, 1) := by decide +kernel
theorem dX2_covers_27 : decode cX2_covers 27 = .ok (.getfield 15, 3) := by decide +kernel
theorem dX2_covers_30 : decode cX2_covers 30 = .ok (.iload_n 2, 1) := by decide +kernel
theorem dX2_covers_31 : decode cX2_covers 31 = .ok (.iaload, 1) := by decide +kernel
theorem dX2_covers_32 : decode cX2_covers 32 = .ok (.if_icmp .ge 5, 3) := by decide +kernel
theorem dX2_covers_35 : decode cX2_covers 35 = .ok (.iconst 1, 1) := by decide +kernel
theorem dX2_covers_36 : decode cX2_covers 36 = .ok (.ireturn, 1) := by decide +kernel
theorem dX2_covers_37 : decode cX2_covers 37 = .ok (.iinc 2 1, 3) := by decide +kernel
theorem dX2_covers_40 : decode cX2_covers 40 = .ok (.goto (-38), 3) := by decide +kernel
theorem dX2_covers_43 : decode cX2_covers 43 = .ok (.iconst 0, 1) := by decide +kernel
theorem dX2_covers_44 : decode cX2_covers 44 = .ok (.ireturn, 1) := by decide +kernel
theorem dX2_copyFrom_0 : decode cX2_copyFrom 0 = .ok (.aload_n 0, 1) := by decide +kernel
theorem dX2_copyFrom_1 : decode cX2_copyFrom 1 = .ok (.aload_n 1, 1) := by decide +kernel
theorem dX2_copyFrom_2 : decode cX2_copyFrom 2 = .ok (.getfield 18, 3) := by decide +kernel
theorem dX2_copyFrom_5 : decode cX2_copyFrom 5 = .ok (.putfield 18, 3) := by decide +kernel
theorem dX2_copyFrom_8 : decode cX2_copyFrom 8 = .ok (.aload_n 1, 1) := by decide +kernel
theorem dX2_copyFrom_9 : decode cX2_copyFrom 9 = .ok (.getfield 9, 3) := by decide +kernel
theorem dX2_copyFrom_12 : decode cX2_copyFrom 12 = .ok (.iconst 0, 1) := by decide +kernel
theorem dX2_copyFrom_13 : decode cX2_copyFrom 13 = .ok (.aload_n 0, 1) := by decide +kernel
theorem dX2_copyFrom_14 : decode cX2_copyFrom 14 = .ok (.getfield 9, 3) := by decide +kernel
theorem dX2_copyFrom_17 : decode cX2_copyFrom 17 = .ok (.iconst 0, 1) := by decide +kernel
theorem dX2_copyFrom_18 : decode cX2_copyFrom 18 = .ok (.iconst 3, 1) := by decide +kernel
theorem dX2_copyFrom_19 : decode cX2_copyFrom 19 = .ok (.invokestatic 22, 3) := by decide +kernel
theorem dX2_copyFrom_22 : decode cX2_copyFrom 22 = .ok (.aload_n 1, 1) := by decide +kernel
theorem dX2_copyFrom_23 : decode cX2_copyFrom 23 = .ok (.getfield 15, 3) := by decide +kernel
theorem dX2_copyFrom_26 : decode cX2_copyFrom 26 = .ok (.iconst 0, 1) := by decide +kernel
theorem dX2_copyFrom_27 : decode cX2_copyFrom 27 = .ok (.aload_n 0, 1) := by decide +kernel
theorem dX2_copyFrom_28 : decode cX2_copyFrom 28 = .ok (.getfield 15, 3) := by decide +kernel
theorem dX2_copyFrom_31 : decode cX2_copyFrom 31 = .ok (.iconst 0, 1) := by decide +kernel
theorem dX2_copyFrom_32 : decode cX2_copyFrom 32 = .ok (.iconst 3, 1) := by decide +kernel
theorem dX2_copyFrom_33 : decode cX2_copyFrom 33 = .ok (.invokestatic 22, 3) := by decide +kernel
theorem dX2_copyFrom_36 : decode cX2_copyFrom 36 = .ok (.return_, 1) := by decide +kernel
theorem dX3_init_0 : decode cX3_init 0 = .ok (.aload_n 0, 1) := by decide +kernel
theorem dX3_init_1 : decode cX3_init 1 = .ok (.invokespecial 3, 3) := by decide +kernel
theorem dX3_init_4 : decode cX3_init 4 = .ok (.aload_n 0, 1) := by decide +kernel
theorem dX3_init_5 : decode cX3_init 5 = .ok (.bipush 80, 2) := by decide +kernel
theorem dX3_init_7 : decode cX3_init 7 = .ok (.newarray .int, 2) := by decide +kernel
theorem dX3_init_9 : decode cX3_init 9 = .ok (.putfield 9, 3) := by decide +kernel
theorem dX3_init_12 : decode cX3_init 12 = .ok (.return_, 1) := by decide +kernel
theorem dX3_empty_0 : decode cX3_empty 0 = .ok (.aload_n 0, 1) := by decide +kernel
theorem dX3_empty_1 : decode cX3_empty 1 = .ok (.iconst 0, 1) := by decide +kernel
theorem dX3_empty_2 : decode cX3_empty 2 = .ok (.putfield 15, 3) := by decide +kernel
theorem dX3_empty_5 : decode cX3_empty 5 = .ok (.aload_n 0, 1) := by decide +kernel
theorem dX3_empty_6 : decode cX3_empty 6 = .ok (.iconst 0, 1) := by decide +kernel
theorem dX3_empty_7 : decode cX3_empty 7 = .ok (.putfield 19, 3) := by decide +kernel
theorem dX3_empty_10 : decode cX3_empty 10 = .ok (.return_, 1) := by decide +kernel
theorem dX3_put_0 : decode cX3_put 0 = .ok (.aload_n 0, 1) := by decide +kernel
theorem dX3_put_1 : decode cX3_put 1 = .ok (.getfield 19, 3) := by decide +kernel
theorem dX3_put_4 : decode cX3_put 4 = .ok (.bipush 20, 2) := by decide +kernel
theorem dX3_put_6 : decode cX3_put 6 = .ok (.if_icmp .lt 22, 3) := by decide +kernel
theorem dX3_put_9 : decode cX3_put 9 = .ok (.aload_n 0, 1) := by decide +kernel
theorem dX3_put_10 : decode cX3_put 10 = .ok (.aload_n 0, 1) := by decide +kernel
theorem dX3_put_11 : decode cX3_put 11 = .ok (.getfield 15, 3) := by decide +kernel
theorem dX3_put_14 : decode cX3_put 14 = .ok (.iconst 1, 1) := by decide +kernel
theorem dX3_put_15 : decode cX3_put 15 = .ok (.iadd, 1) := by decide +kernel
theorem dX3_put_16 : decode cX3_put 16 = .ok (.bipush 20, 2) := by decide +kernel
theorem dX3_put_18 : decode cX3_put 18 = .ok (.irem, 1) := by decide +kernel
theorem dX3_put_19 : decode cX3_put 19 = .ok (.putfield 15, 3) := by decide +kernel
theorem dX3_put_22 : decode cX3_put 22 = .ok (.aload_n 0, 1) := by decide +kernel
theorem dX3_put_23 : decode cX3_put 23 = .ok (.bipush 19, 2) := by decide +kernel
theorem dX3_put_25 : decode cX3_put 25 = .ok (.putfield 19, 3) := by decide +kernel
theorem dX3_put_28 : decode cX3_put 28 = .ok (.aload_n 0, 1) := by decide +kernel
theorem dX3_put_29 : decode cX3_put 29 = .ok (.aload_n 0, 1) := by decide +kernel
theorem dX3_put_30 : decode cX3_put 30 = .ok (.getfield 19, 3) := by decide +kernel
theorem dX3_put_33 : decode cX3_put 33 = .ok (.iconst 0, 1) := by decide +kernel
theorem dX3_put_34 : decode cX3_put 34 = .ok (.invokevirtual 22, 3) := by decide +kernel
theorem dX3_put_37 : decode cX3_put 37 = .ok (.istore 5, 2) := by decide +kernel
theorem dX3_put_39 : decode cX3_put 39 = .ok (.aload_n 0, 1) := by decide +kernel
theorem dX3_put_40 : decode cX3_put 40 = .ok (.dup, 1) := by decide +kernel
theorem dX3_put_41 : decode cX3_put 41 = .ok (.getfield 19, 3) := by decide +kernel
theorem dX3_put_44 : decode cX3_put 44 = .ok (.iconst 1, 1) := by decide +kernel
theorem dX3_put_45 : decode cX3_put 45 = .ok (.iadd, 1) := by decide +kernel
theorem dX3_put_46 : decode cX3_put 46 = .ok (.putfield 19, 3) := by decide +kernel
theorem dX3_put_49 : decode cX3_put 49 = .ok (.aload_n 0, 1) := by decide +kernel
theorem dX3_put_50 : decode cX3_put 50 = .ok (.dup, 1) := by decide +kernel
theorem dX3_put_51 : decode cX3_put 51 = .ok (.getfield 26, 3) := by decide +kernel
theorem dX3_put_54 : decode cX3_put 54 = .ok (.iconst 1, 1) := by decide +kernel
theorem dX3_put_55 : decode cX3_put 55 = .ok (.iadd, 1) := by decide +kernel
theorem dX3_put_56 : decode cX3_put 56 = .ok (.putfield 26, 3) := by decide +kernel
theorem dX3_put_59 : decode cX3_put 59 = .ok (.iload 5, 2) := by decide +kernel
theorem dX3_put_61 : decode cX3_put 61 = .ok (.iconst 0, 1) := by decide +kernel
theorem dX3_put_62 : decode cX3_put 62 = .ok (.aload_n 0, 1) := by decide +kernel
theorem dX3_put_63 : decode cX3_put 63 = .ok (.getfield 9, 3) := by decide +kernel
theorem dX3_put_66 : decode cX3_put 66 = .ok (.arraylength, 1) := by decide +kernel
theorem dX3_put_67 : decode cX3_put 67 = .ok (.iconst 4, 1) := by decide +kernel
theorem dX3_put_68 : decode cX3_put 68 = .ok (.isub, 1) := by decide +kernel
theorem dX3_put_69 : decode cX3_put 69 = .ok (.invokestatic 29, 3) := by decide +kernel
theorem dX3_put_72 : decode cX3_put 72 = .ok (.ifCond .eq 44, 3) := by decide +kernel
theorem dX3_put_75 : decode cX3_put 75 = .ok (.aload_n 0, 1) := by decide +kernel
theorem dX3_put_76 : decode cX3_put 76 = .ok (.getfield 9, 3) := by decide +kernel
theorem dX3_put_79 : decode cX3_put 79 = .ok (.iload 5, 2) := by decide +kernel
theorem dX3_put_81 : decode cX3_put 81 = .ok (.iconst 0, 1) := by decide +kernel
theorem dX3_put_82 : decode cX3_put 82 = .ok (.iadd, 1) := by decide +kernel
theorem dX3_put_83 : decode cX3_put 83 = .ok (.iload_n 1, 1) := by decide +kernel
theorem dX3_put_84 : decode cX3_put 84 = .ok (.iastore, 1) := by decide +kernel
theorem dX3_put_85 : decode cX3_put 85 = .ok (.aload_n 0, 1) := by decide +kernel
theorem dX3_put_86 : decode cX3_put 86 = .ok (.getfield 9, 3) := by decide +kernel
theorem dX3_put_89 : decode cX3_put 89 = .ok (.iload 5, 2) := by decide +kernel
theorem dX3_put_91 : decode cX3_put 91 = .ok (.iconst 1, 1) := by decide +kernel
theorem dX3_put_92 : decode cX3_put 92 = .ok (.iadd, 1) := by decide +kernel
theorem dX3_put_93 : decode cX3_put 93 = .ok (.iload_n 2, 1) := by decide +kernel
theorem dX3_put_94 : decode cX3_put 94 = .ok (.iastore, 1) := by decide +kernel
theorem dX3_put_95 : decode cX3_put 95 = .ok (.aload_n 0, 1) := by decide +kernel
theorem dX3_put_96 : decode cX3_put 96 = .ok (.getfield 9, 3) := by decide +kernel
theorem dX3_put_99 : decode cX3_put 99 = .ok (.iload 5, 2) := by decide +kernel
theorem dX3_put_101 : decode cX3_put 101 = .ok (.iconst 2, 1) := by decide +kernel
theorem dX3_put_102 : decode cX3_put 102 = .ok (.iadd, 1) := by decide +kernel
theorem dX3_put_103 : decode cX3_put 103 = .ok (.iload_n 3, 1) := by decide +kernel
theorem dX3_put_104 : decode cX3_put 104 = .ok (.iastore, 1) := by decide +kernel
theorem dX3_put_105 : decode cX3_put 105 = .ok (.aload_n 0, 1) := by decide +kernel
theorem dX3_put_106 : decode cX3_put 106 = .ok (.getfield 9, 3) := by decide +kernel
theorem dX3_put_109 : decode cX3_put 109 = .ok (.iload 5, 2) := by decide +kernel
theorem dX3_put_111 : decode cX3_put 111 = .ok (.iconst 3, 1) := by decide +kernel
theorem dX3_put_112 : decode cX3_put 112 = .ok (.iadd, 1) := by decide +kernel
theorem dX3_put_113 : decode cX3_put 113 = .ok (.iload 4, 2) := by decide +kernel
theorem dX3_put_115 : decode cX3_put 115 = .ok (.iastore, 1) := by decide +kernel
theorem dX3_put_116 : decode cX3_put 116 = .ok (.return_, 1) := by decide +kernel
theorem dX3_number_0 : decode cX3_number 0 = .ok (.aload_n 0, 1) := by decide +kernel
theorem dX3_number_1 : decode cX3_number 1 = .ok (.iload_n 1, 1) := by decide +kernel
theorem dX3_number_2 : decode cX3_number 2 = .ok (.iload_n 2, 1) := by decide +kernel
theorem dX3_number_3 : decode cX3_number 3 = .ok (.invokevirtual 22, 3) := by decide +kernel
theorem dX3_number_6 : decode cX3_number 6 = .ok (.istore_n 3, 1) := by decide +kernel
theorem dX3_number_7 : decode cX3_number 7 = .ok (.iload_n 3, 1) := by decide +kernel
theorem dX3_number_8 : decode cX3_number 8 = .ok (.iconst 0, 1) := by decide +kernel
theorem dX3_number_9 : decode cX3_number 9 = .ok (.aload_n 0, 1) := by decide +kernel
theorem dX3_number_10 : decode cX3_number 10 = .ok (.getfield 9, 3) := by decide +kernel
theorem dX3_number_13 : decode cX3_number 13 = .ok (.arraylength, 1) := by decide +kernel
theorem dX3_number_14 : decode cX3_number 14 = .ok (.iconst 1, 1) := by decide +kernel
theorem dX3_number_15 : decode cX3_number 15 = .ok (.isub, 1) := by decide +kernel
theorem dX3_number_16 : decode cX3_number 16 = .ok (.invokestatic 29, 3) := by decide +kernel
theorem dX3_number_19 : decode cX3_number 19 = .ok (.ifCond .eq 12, 3) := by decide +kernel
theorem dX3_number_22 : decode cX3_number 22 = .ok (.aload_n 0, 1) := by decide +kernel
theorem dX3_number_23 : decode cX3_number 23 = .ok (.getfield 9, 3) := by decide +kernel
theorem dX3_number_26 : decode cX3_number 26 = .ok (.iload_n 3, 1) := by decide +kernel
theorem dX3_number_27 : decode cX3_number 27 = .ok (.iaload, 1) := by decide +kernel
theorem dX3_number_28 : decode cX3_number 28 = .ok (.goto 4, 3) := by decide +kernel
theorem dX3_number_31 : decode cX3_number 31 = .ok (.iconst 0, 1) := by decide +kernel
theorem dX3_number_32 : decode cX3_number 32 = .ok (.ireturn, 1) := by decide +kernel
theorem dX3_placeOf_0 : decode cX3_placeOf 0 = .ok (.aload_n 0, 1) := by decide +kernel
theorem dX3_placeOf_1 : decode cX3_placeOf 1 = .ok (.getfield 15, 3) := by decide +kernel
theorem dX3_placeOf_4 : decode cX3_placeOf 4 = .ok (.iload_n 1, 1) := by decide +kernel
theorem dX3_placeOf_5 : decode cX3_placeOf 5 = .ok (.iadd, 1) := by decide +kernel
theorem dX3_placeOf_6 : decode cX3_placeOf 6 = .ok (.bipush 20, 2) := by decide +kernel
theorem dX3_placeOf_8 : decode cX3_placeOf 8 = .ok (.irem, 1) := by decide +kernel
theorem dX3_placeOf_9 : decode cX3_placeOf 9 = .ok (.iconst 4, 1) := by decide +kernel
theorem dX3_placeOf_10 : decode cX3_placeOf 10 = .ok (.imul, 1) := by decide +kernel
theorem dX3_placeOf_11 : decode cX3_placeOf 11 = .ok (.iload_n 2, 1) := by decide +kernel
theorem dX3_placeOf_12 : decode cX3_placeOf 12 = .ok (.iadd, 1) := by decide +kernel
theorem dX3_placeOf_13 : decode cX3_placeOf 13 = .ok (.ireturn, 1) := by decide +kernel
theorem dX3_countOf_0 : decode cX3_countOf 0 = .ok (.iconst 0, 1) := by decide +kernel
theorem dX3_countOf_1 : decode cX3_countOf 1 = .ok (.istore_n 3, 1) := by decide +kernel
theorem dX3_countOf_2 : decode cX3_countOf 2 = .ok (.iconst 0, 1) := by decide +kernel
theorem dX3_countOf_3 : decode cX3_countOf 3 = .ok (.istore 4, 2) := by decide +kernel
theorem dX3_countOf_5 : decode cX3_countOf 5 = .ok (.iload 4, 2) := by decide +kernel
theorem dX3_countOf_7 : decode cX3_countOf 7 = .ok (.aload_n 0, 1) := by decide +kernel
theorem dX3_countOf_8 : decode cX3_countOf 8 = .ok (.getfield 19, 3) := by decide +kernel
theorem dX3_countOf_11 : decode cX3_countOf 11 = .ok (.if_icmp .ge 58, 3) := by decide +kernel
theorem dX3_countOf_14 : decode cX3_countOf 14 = .ok (.iload 4, 2) := by decide +kernel
theorem dX3_countOf_16 : decode cX3_countOf 16 = .ok (.bipush 20, 2) := by decide +kernel
theorem dX3_countOf_18 : decode cX3_countOf 18 = .ok (.if_icmp .ge 51, 3) := by decide +kernel
theorem dX3_countOf_21 : decode cX3_countOf 21 = .ok (.iload_n 2, 1) := by decide +kernel
theorem dX3_countOf_22 : decode cX3_countOf 22 = .ok (.iconst (-1), 1) := by decide +kernel
theorem dX3_countOf_23 : decode cX3_countOf 23 = .ok (.if_icmp .eq 14, 3) := by decide +kernel
theorem dX3_countOf_26 : decode cX3_countOf 26 = .ok (.aload_n 0, 1) := by decide +kernel
theorem dX3_countOf_27 : decode cX3_countOf 27 = .ok (.iload 4, 2) := by decide +kernel
theorem dX3_countOf_29 : decode cX3_countOf 29 = .ok (.iconst 1, 1) := by decide +kernel
theorem dX3_countOf_30 : decode cX3_countOf 30 = .ok (.invokevirtual 33, 3) := by decide +kernel
theorem dX3_countOf_33 : decode cX3_countOf 33 = .ok (.iload_n 2, 1) := by decide +kernel
theorem dX3_countOf_34 : decode cX3_countOf 34 = .ok (.if_icmp .ne 7, 3) := by decide +kernel
theorem dX3_countOf_37 : decode cX3_countOf 37 = .ok (.iconst 1, 1) := by decide +kernel
theorem dX3_countOf_38 : decode cX3_countOf 38 = .ok (.goto 4, 3) := by decide +kernel
theorem dX3_countOf_41 : decode cX3_countOf 41 = .ok (.iconst 0, 1) := by decide +kernel
theorem dX3_countOf_42 : decode cX3_countOf 42 = .ok (.istore 5, 2) := by decide +kernel
theorem dX3_countOf_44 : decode cX3_countOf 44 = .ok (.iload 5, 2) := by decide +kernel
theorem dX3_countOf_46 : decode cX3_countOf 46 = .ok (.ifCond .eq 17, 3) := by decide +kernel
theorem dX3_countOf_49 : decode cX3_countOf 49 = .ok (.aload_n 0, 1) := by decide +kernel
theorem dX3_countOf_50 : decode cX3_countOf 50 = .ok (.iload 4, 2) := by decide +kernel
theorem dX3_countOf_52 : decode cX3_countOf 52 = .ok (.iconst 2, 1) := by decide +kernel
theorem dX3_countOf_53 : decode cX3_countOf 53 = .ok (.invokevirtual 33, 3) := by decide +kernel
theorem dX3_countOf_56 : decode cX3_countOf 56 = .ok (.iload_n 1, 1) := by decide +kernel
theorem dX3_countOf_57 : decode cX3_countOf 57 = .ok (.if_icmp .ne 6, 3) := by decide +kernel
theorem dX3_countOf_60 : decode cX3_countOf 60 = .ok (.iinc 3 1, 3) := by decide +kernel
theorem dX3_countOf_63 : decode cX3_countOf 63 = .ok (.iinc 4 1, 3) := by decide +kernel
theorem dX3_countOf_66 : decode cX3_countOf 66 = .ok (.goto (-61), 3) := by decide +kernel
theorem dX3_countOf_69 : decode cX3_countOf 69 = .ok (.iload_n 3, 1) := by decide +kernel
theorem dX3_countOf_70 : decode cX3_countOf 70 = .ok (.ireturn, 1) := by decide +kernel
theorem dX3_copyFrom_0 : decode cX3_copyFrom 0 = .ok (.aload_n 0, 1) := by decide +kernel
theorem dX3_copyFrom_1 : decode cX3_copyFrom 1 = .ok (.aload_n 1, 1) := by decide +kernel
theorem dX3_copyFrom_2 : decode cX3_copyFrom 2 = .ok (.getfield 15, 3) := by decide +kernel
theorem dX3_copyFrom_5 : decode cX3_copyFrom 5 = .ok (.putfield 15, 3) := by decide +kernel
theorem dX3_copyFrom_8 : decode cX3_copyFrom 8 = .ok (.aload_n 0, 1) := by decide +kernel
theorem dX3_copyFrom_9 : decode cX3_copyFrom 9 = .ok (.aload_n 1, 1) := by decide +kernel
theorem dX3_copyFrom_10 : decode cX3_copyFrom 10 = .ok (.getfield 19, 3) := by decide +kernel
theorem dX3_copyFrom_13 : decode cX3_copyFrom 13 = .ok (.putfield 19, 3) := by decide +kernel
theorem dX3_copyFrom_16 : decode cX3_copyFrom 16 = .ok (.aload_n 1, 1) := by decide +kernel
theorem dX3_copyFrom_17 : decode cX3_copyFrom 17 = .ok (.getfield 9, 3) := by decide +kernel
theorem dX3_copyFrom_20 : decode cX3_copyFrom 20 = .ok (.iconst 0, 1) := by decide +kernel
theorem dX3_copyFrom_21 : decode cX3_copyFrom 21 = .ok (.aload_n 0, 1) := by decide +kernel
theorem dX3_copyFrom_22 : decode cX3_copyFrom 22 = .ok (.getfield 9, 3) := by decide +kernel
theorem dX3_copyFrom_25 : decode cX3_copyFrom 25 = .ok (.iconst 0, 1) := by decide +kernel
theorem dX3_copyFrom_26 : decode cX3_copyFrom 26 = .ok (.bipush 80, 2) := by decide +kernel
theorem dX3_copyFrom_28 : decode cX3_copyFrom 28 = .ok (.invokestatic 36, 3) := by decide +kernel
theorem dX3_copyFrom_31 : decode cX3_copyFrom 31 = .ok (.return_, 1) := by decide +kernel
theorem dX4_init_0 : decode cX4_init 0 = .ok (.aload_n 0, 1) := by decide +kernel
theorem dX4_init_1 : decode cX4_init 1 = .ok (.invokespecial 3, 3) := by decide +kernel
theorem dX4_init_4 : decode cX4_init 4 = .ok (.aload_n 0, 1) := by decide +kernel
theorem dX4_init_5 : decode cX4_init 5 = .ok (.bipush 18, 2) := by decide +kernel
theorem dX4_init_7 : decode cX4_init 7 = .ok (.newarray .int, 2) := by decide +kernel
theorem dX4_init_9 : decode cX4_init 9 = .ok (.putfield 9, 3) := by decide +kernel
theorem dX4_init_12 : decode cX4_init 12 = .ok (.return_, 1) := by decide +kernel
theorem dX4_put_0 : decode cX4_put 0 = .ok (.aload_n 0, 1) := by decide +kernel
theorem dX4_put_1 : decode cX4_put 1 = .ok (.getfield 15, 3) := by decide +kernel
theorem dX4_put_4 : decode cX4_put 4 = .ok (.ifCond .lt 12, 3) := by decide +kernel
theorem dX4_put_7 : decode cX4_put 7 = .ok (.aload_n 0, 1) := by decide +kernel
theorem dX4_put_8 : decode cX4_put 8 = .ok (.getfield 15, 3) := by decide +kernel
theorem dX4_put_11 : decode cX4_put 11 = .ok (.bipush 6, 2) := by decide +kernel
theorem dX4_put_13 : decode cX4_put 13 = .ok (.if_icmp .lt 5, 3) := by decide +kernel
theorem dX4_put_16 : decode cX4_put 16 = .ok (.iconst 0, 1) := by decide +kernel
theorem dX4_put_17 : decode cX4_put 17 = .ok (.ireturn, 1) := by decide +kernel
theorem dX4_put_18 : decode cX4_put 18 = .ok (.aload_n 0, 1) := by decide +kernel
theorem dX4_put_19 : decode cX4_put 19 = .ok (.getfield 15, 3) := by decide +kernel
theorem dX4_put_22 : decode cX4_put 22 = .ok (.iconst 3, 1) := by decide +kernel
theorem dX4_put_23 : decode cX4_put 23 = .ok (.imul, 1) := by decide +kernel
theorem dX4_put_24 : decode cX4_put 24 = .ok (.istore 4, 2) := by decide +kernel
theorem dX4_put_26 : decode cX4_put 26 = .ok (.aload_n 0, 1) := by decide +kernel
theorem dX4_put_27 : decode cX4_put 27 = .ok (.getfield 9, 3) := by decide +kernel
theorem dX4_put_30 : decode cX4_put 30 = .ok (.iload 4, 2) := by decide +kernel
theorem dX4_put_32 : decode cX4_put 32 = .ok (.iconst 0, 1) := by decide +kernel
theorem dX4_put_33 : decode cX4_put 33 = .ok (.iadd, 1) := by decide +kernel
theorem dX4_put_34 : decode cX4_put 34 = .ok (.iload_n 1, 1) := by decide +kernel
theorem dX4_put_35 : decode cX4_put 35 = .ok (.iastore, 1) := by decide +kernel
theorem dX4_put_36 : decode cX4_put 36 = .ok (.aload_n 0, 1) := by decide +kernel
theorem dX4_put_37 : decode cX4_put 37 = .ok (.getfield 9, 3) := by decide +kernel
theorem dX4_put_40 : decode cX4_put 40 = .ok (.iload 4, 2) := by decide +kernel
theorem dX4_put_42 : decode cX4_put 42 = .ok (.iconst 1, 1) := by decide +kernel
theorem dX4_put_43 : decode cX4_put 43 = .ok (.iadd, 1) := by decide +kernel
theorem dX4_put_44 : decode cX4_put 44 = .ok (.iload_n 2, 1) := by decide +kernel
theorem dX4_put_45 : decode cX4_put 45 = .ok (.iastore, 1) := by decide +kernel
theorem dX4_put_46 : decode cX4_put 46 = .ok (.aload_n 0, 1) := by decide +kernel
theorem dX4_put_47 : decode cX4_put 47 = .ok (.getfield 9, 3) := by decide +kernel
theorem dX4_put_50 : decode cX4_put 50 = .ok (.iload 4, 2) := by decide +kernel
theorem dX4_put_52 : decode cX4_put 52 = .ok (.iconst 2, 1) := by decide +kernel
theorem dX4_put_53 : decode cX4_put 53 = .ok (.iadd, 1) := by decide +kernel
theorem dX4_put_54 : decode cX4_put 54 = .ok (.iload_n 3, 1) := by decide +kernel
theorem dX4_put_55 : decode cX4_put 55 = .ok (.iastore, 1) := by decide +kernel
theorem dX4_put_56 : decode cX4_put 56 = .ok (.aload_n 0, 1) := by decide +kernel
theorem dX4_put_57 : decode cX4_put 57 = .ok (.dup, 1) := by decide +kernel
theorem dX4_put_58 : decode cX4_put 58 = .ok (.getfield 15, 3) := by decide +kernel
theorem dX4_put_61 : decode cX4_put 61 = .ok (.iconst 1, 1) := by decide +kernel
theorem dX4_put_62 : decode cX4_put 62 = .ok (.iadd, 1) := by decide +kernel
theorem dX4_put_63 : decode cX4_put 63 = .ok (.putfield 15, 3) := by decide +kernel
theorem dX4_put_66 : decode cX4_put 66 = .ok (.iconst 1, 1) := by decide +kernel
theorem dX4_put_67 : decode cX4_put 67 = .ok (.ireturn, 1) := by decide +kernel
theorem dX4_number_0 : decode cX4_number 0 = .ok (.iload_n 1, 1) := by decide +kernel
theorem dX4_number_1 : decode cX4_number 1 = .ok (.iconst 0, 1) := by decide +kernel
theorem dX4_number_2 : decode cX4_number 2 = .ok (.aload_n 0, 1) := by decide +kernel
theorem dX4_number_3 : decode cX4_number 3 = .ok (.getfield 15, 3) := by decide +kernel
theorem dX4_number_6 : decode cX4_number 6 = .ok (.iconst 1, 1) := by decide +kernel
theorem dX4_number_7 : decode cX4_number 7 = .ok (.isub, 1) := by decide +kernel
theorem dX4_number_8 : decode cX4_number 8 = .ok (.invokestatic 19, 3) := by decide +kernel
theorem dX4_number_11 : decode cX4_number 11 = .ok (.ifCond .eq 16, 3) := by decide +kernel
theorem dX4_number_14 : decode cX4_number 14 = .ok (.iload_n 2, 1) := by decide +kernel
theorem dX4_number_15 : decode cX4_number 15 = .ok (.iconst 0, 1) := by decide +kernel
theorem dX4_number_16 : decode cX4_number 16 = .ok (.iconst 2, 1) := by decide +kernel
theorem dX4_number_17 : decode cX4_number 17 = .ok (.invokestatic 19, 3) := by decide +kernel
theorem dX4_number_20 : decode cX4_number 20 = .ok (.ifCond .eq 7, 3) := by decide +kernel
theorem dX4_number_23 : decode cX4_number 23 = .ok (.iconst 1, 1) := by decide +kernel
theorem dX4_number_24 : decode cX4_number 24 = .ok (.goto 4, 3) := by decide +kernel
theorem dX4_number_27 : decode cX4_number 27 = .ok (.iconst 0, 1) := by decide +kernel
theorem dX4_number_28 : decode cX4_number 28 = .ok (.istore_n 3, 1) := by decide +kernel
theorem dX4_number_29 : decode cX4_number 29 = .ok (.iload_n 1, 1) := by decide +kernel
theorem dX4_number_30 : decode cX4_number 30 = .ok (.iconst 3, 1) := by decide +kernel
theorem dX4_number_31 : decode cX4_number 31 = .ok (.imul, 1) := by decide +kernel
theorem dX4_number_32 : decode cX4_number 32 = .ok (.iload_n 2, 1) := by decide +kernel
theorem dX4_number_33 : decode cX4_number 33 = .ok (.iadd, 1) := by decide +kernel
theorem dX4_number_34 : decode cX4_number 34 = .ok (.istore 4, 2) := by decide +kernel
theorem dX4_number_36 : decode cX4_number 36 = .ok (.iload_n 3, 1) := by decide +kernel
theorem dX4_number_37 : decode cX4_number 37 = .ok (.ifCond .eq 23, 3) := by decide +kernel
theorem dX4_number_40 : decode cX4_number 40 = .ok (.iload 4, 2) := by decide +kernel
theorem dX4_number_42 : decode cX4_number 42 = .ok (.aload_n 0, 1) := by decide +kernel
theorem dX4_number_43 : decode cX4_number 43 = .ok (.getfield 9, 3) := by decide +kernel
theorem dX4_number_46 : decode cX4_number 46 = .ok (.arraylength, 1) := by decide +kernel
theorem dX4_number_47 : decode cX4_number 47 = .ok (.if_icmp .ge 13, 3) := by decide +kernel
theorem dX4_number_50 : decode cX4_number 50 = .ok (.aload_n 0, 1) := by decide +kernel
theorem dX4_number_51 : decode cX4_number 51 = .ok (.getfield 9, 3) := by decide +kernel
theorem dX4_number_54 : decode cX4_number 54 = .ok (.iload 4, 2) := by decide +kernel
theorem dX4_number_56 : decode cX4_number 56 = .ok (.iaload, 1) := by decide +kernel
theorem dX4_number_57 : decode cX4_number 57 = .ok (.goto 4, 3) := by decide +kernel
theorem dX4_number_60 : decode cX4_number 60 = .ok (.iconst 0, 1) := by decide +kernel
theorem dX4_number_61 : decode cX4_number 61 = .ok (.ireturn, 1) := by decide +kernel
theorem dX4_cellsOfFirst_0 : decode cX4_cellsOfFirst 0 = .ok (.iconst 0, 1) := by decide +kernel
theorem dX4_cellsOfFirst_1 : decode cX4_cellsOfFirst 1 = .ok (.istore_n 2, 1) := by decide +kernel
theorem dX4_cellsOfFirst_2 : decode cX4_cellsOfFirst 2 = .ok (.iconst 0, 1) := by decide +kernel
theorem dX4_cellsOfFirst_3 : decode cX4_cellsOfFirst 3 = .ok (.istore_n 3, 1) := by decide +kernel
theorem dX4_cellsOfFirst_4 : decode cX4_cellsOfFirst 4 = .ok (.iload_n 3, 1) := by decide +kernel
theorem dX4_cellsOfFirst_5 : decode cX4_cellsOfFirst 5 = .ok (.iload_n 1, 1) := by decide +kernel
theorem dX4_cellsOfFirst_6 : decode cX4_cellsOfFirst 6 = .ok (.if_icmp .ge 36, 3) := by decide +kernel
theorem dX4_cellsOfFirst_9 : decode cX4_cellsOfFirst 9 = .ok (.iload_n 3, 1) := by decide +kernel
theorem dX4_cellsOfFirst_10 : decode cX4_cellsOfFirst 10 = .ok (.aload_n 0, 1) := by decide +kernel
theorem dX4_cellsOfFirst_11 : decode cX4_cellsOfFirst 11 = .ok (.getfield 15, 3) := by decide +kernel
theorem dX4_cellsOfFirst_14 : decode cX4_cellsOfFirst 14 = .ok (.if_icmp .ge 28, 3) := by decide +kernel
theorem dX4_cellsOfFirst_17 : decode cX4_cellsOfFirst 17 = .ok (.iload_n 3, 1) := by decide +kernel
theorem dX4_cellsOfFirst_18 : decode cX4_cellsOfFirst 18 = .ok (.bipush 6, 2) := by decide +kernel
theorem dX4_cellsOfFirst_20 : decode cX4_cellsOfFirst 20 = .ok (.if_icmp .ge 22, 3) := by decide +kernel
theorem dX4_cellsOfFirst_23 : decode cX4_cellsOfFirst 23 = .ok (.iload_n 2, 1) := by decide +kernel
theorem dX4_cellsOfFirst_24 : decode cX4_cellsOfFirst 24 = .ok (.aload_n 0, 1) := by decide +kernel
theorem dX4_cellsOfFirst_25 : decode cX4_cellsOfFirst 25 = .ok (.getfield 9, 3) := by decide +kernel
theorem dX4_cellsOfFirst_28 : decode cX4_cellsOfFirst 28 = .ok (.iload_n 3, 1) := by decide +kernel
theorem dX4_cellsOfFirst_29 : decode cX4_cellsOfFirst 29 = .ok (.iconst 3, 1) := by decide +kernel
theorem dX4_cellsOfFirst_30 : decode cX4_cellsOfFirst 30 = .ok (.imul, 1) := by decide +kernel
theorem dX4_cellsOfFirst_31 : decode cX4_cellsOfFirst 31 = .ok (.iconst 0, 1) := by decide +kernel
theorem dX4_cellsOfFirst_32 : decode cX4_cellsOfFirst 32 = .ok (.iadd, 1) := by decide +kernel
theorem dX4_cellsOfFirst_33 : decode cX4_cellsOfFirst 33 = .ok (.iaload, 1) := by decide +kernel
theorem dX4_cellsOfFirst_34 : decode cX4_cellsOfFirst 34 = .ok (.ior, 1) := by decide +kernel
theorem dX4_cellsOfFirst_35 : decode cX4_cellsOfFirst 35 = .ok (.istore_n 2, 1) := by decide +kernel
theorem dX4_cellsOfFirst_36 : decode cX4_cellsOfFirst 36 = .ok (.iinc 3 1, 3) := by decide +kernel
theorem dX4_cellsOfFirst_39 : decode cX4_cellsOfFirst 39 = .ok (.goto (-35), 3) := by decide +kernel
theorem dX4_cellsOfFirst_42 : decode cX4_cellsOfFirst 42 = .ok (.iload_n 2, 1) := by decide +kernel
theorem dX4_cellsOfFirst_43 : decode cX4_cellsOfFirst 43 = .ok (.ireturn, 1) := by decide +kernel
theorem dX4_copyFrom_0 : decode cX4_copyFrom 0 = .ok (.aload_n 0, 1) := by decide +kernel
theorem dX4_copyFrom_1 : decode cX4_copyFrom 1 = .ok (.aload_n 1, 1) := by decide +kernel
theorem dX4_copyFrom_2 : decode cX4_copyFrom 2 = .ok (.getfield 15, 3) := by decide +kernel
theorem dX4_copyFrom_5 : decode cX4_copyFrom 5 = .ok (.putfield 15, 3) := by decide +kernel
theorem dX4_copyFrom_8 : decode cX4_copyFrom 8 = .ok (.aload_n 1, 1) := by decide +kernel
theorem dX4_copyFrom_9 : decode cX4_copyFrom 9 = .ok (.getfield 9, 3) := by decide +kernel
theorem dX4_copyFrom_12 : decode cX4_copyFrom 12 = .ok (.iconst 0, 1) := by decide +kernel
theorem dX4_copyFrom_13 : decode cX4_copyFrom 13 = .ok (.aload_n 0, 1) := by decide +kernel
theorem dX4_copyFrom_14 : decode cX4_copyFrom 14 = .ok (.getfield 9, 3) := by decide +kernel
theorem dX4_copyFrom_17 : decode cX4_copyFrom 17 = .ok (.iconst 0, 1) := by decide +kernel
theorem dX4_copyFrom_18 : decode cX4_copyFrom 18 = .ok (.bipush 18, 2) := by decide +kernel
theorem dX4_copyFrom_20 : decode cX4_copyFrom 20 = .ok (.invokestatic 23, 3) := by decide +kernel
theorem dX4_copyFrom_23 : decode cX4_copyFrom 23 = .ok (.return_, 1) := by decide +kernel
theorem dX5_init_0 : decode cX5_init 0 = .ok (.aload_n 0, 1) := by decide +kernel
theorem dX5_init_1 : decode cX5_init 1 = .ok (.invokespecial 3, 3) := by decide +kernel
theorem dX5_init_4 : decode cX5_init 4 = .ok (.aload_n 0, 1) := by decide +kernel
theorem dX5_init_5 : decode cX5_init 5 = .ok (.bipush 60, 2) := by decide +kernel
theorem dX5_init_7 : decode cX5_init 7 = .ok (.newarray .byte, 2) := by decide +kernel
theorem dX5_init_9 : decode cX5_init 9 = .ok (.putfield 9, 3) := by decide +kernel
theorem dX5_init_12 : decode cX5_init 12 = .ok (.aload_n 0, 1) := by decide +kernel
theorem dX5_init_13 : decode cX5_init 13 = .ok (.new 15, 3) := by decide +kernel
theorem dX5_init_16 : decode cX5_init 16 = .ok (.dup, 1) := by decide +kernel
theorem dX5_init_17 : decode cX5_init 17 = .ok (.invokespecial 17, 3) := by decide +kernel
theorem dX5_init_20 : decode cX5_init 20 = .ok (.putfield 18, 3) := by decide +kernel
theorem dX5_init_23 : decode cX5_init 23 = .ok (.return_, 1) := by decide +kernel
theorem dX5_put_0 : decode cX5_put 0 = .ok (.aload_n 0, 1) := by decide +kernel
theorem dX5_put_1 : decode cX5_put 1 = .ok (.getfield 22, 3) := by decide +kernel
theorem dX5_put_4 : decode cX5_put 4 = .ok (.ifCond .lt 12, 3) := by decide +kernel
theorem dX5_put_7 : decode cX5_put 7 = .ok (.aload_n 0, 1) := by decide +kernel
theorem dX5_put_8 : decode cX5_put 8 = .ok (.getfield 22, 3) := by decide +kernel
theorem dX5_put_11 : decode cX5_put 11 = .ok (.bipush 60, 2) := by decide +kernel
theorem dX5_put_13 : decode cX5_put 13 = .ok (.if_icmp .lt 5, 3) := by decide +kernel
theorem dX5_put_16 : decode cX5_put 16 = .ok (.iconst 0, 1) := by decide +kernel
theorem dX5_put_17 : decode cX5_put 17 = .ok (.ireturn, 1) := by decide +kernel
theorem dX5_put_18 : decode cX5_put 18 = .ok (.aload_n 0, 1) := by decide +kernel
theorem dX5_put_19 : decode cX5_put 19 = .ok (.getfield 9, 3) := by decide +kernel
theorem dX5_put_22 : decode cX5_put 22 = .ok (.aload_n 0, 1) := by decide +kernel
theorem dX5_put_23 : decode cX5_put 23 = .ok (.getfield 22, 3) := by decide +kernel
theorem dX5_put_26 : decode cX5_put 26 = .ok (.iload_n 1, 1) := by decide +kernel
theorem dX5_put_27 : decode cX5_put 27 = .ok (.i2b, 1) := by decide +kernel
theorem dX5_put_28 : decode cX5_put 28 = .ok (.bastore, 1) := by decide +kernel
theorem dX5_put_29 : decode cX5_put 29 = .ok (.aload_n 0, 1) := by decide +kernel
theorem dX5_put_30 : decode cX5_put 30 = .ok (.dup, 1) := by decide +kernel
theorem dX5_put_31 : decode cX5_put 31 = .ok (.getfield 22, 3) := by decide +kernel
theorem dX5_put_34 : decode cX5_put 34 = .ok (.iconst 1, 1) := by decide +kernel
theorem dX5_put_35 : decode cX5_put 35 = .ok (.iadd, 1) := by decide +kernel
theorem dX5_put_36 : decode cX5_put 36 = .ok (.putfield 22, 3) := by decide +kernel
theorem dX5_put_39 : decode cX5_put 39 = .ok (.iconst 1, 1) := by decide +kernel
theorem dX5_put_40 : decode cX5_put 40 = .ok (.ireturn, 1) := by decide +kernel
theorem dX5_parse_0 : decode cX5_parse 0 = .ok (.aload_n 0, 1) := by decide +kernel
theorem dX5_parse_1 : decode cX5_parse 1 = .ok (.iconst 0, 1) := by decide +kernel
theorem dX5_parse_2 : decode cX5_parse 2 = .ok (.putfield 26, 3) := by decide +kernel
theorem dX5_parse_5 : decode cX5_parse 5 = .ok (.aload_n 0, 1) := by decide +kernel
theorem dX5_parse_6 : decode cX5_parse 6 = .ok (.getfield 18, 3) := by decide +kernel
theorem dX5_parse_9 : decode cX5_parse 9 = .ok (.iconst 0, 1) := by decide +kernel
theorem dX5_parse_10 : decode cX5_parse 10 = .ok (.putfield 29, 3) := by decide +kernel
theorem dX5_parse_13 : decode cX5_parse 13 = .ok (.iconst 0, 1) := by decide +kernel
theorem dX5_parse_14 : decode cX5_parse 14 = .ok (.istore_n 2, 1) := by decide +kernel
theorem dX5_parse_15 : decode cX5_parse 15 = .ok (.iload_n 2, 1) := by decide +kernel
theorem dX5_parse_16 : decode cX5_parse 16 = .ok (.bipush 6, 2) := by decide +kernel
theorem dX5_parse_18 : decode cX5_parse 18 = .ok (.if_icmp .ge 30, 3) := by decide +kernel
theorem dX5_parse_21 : decode cX5_parse 21 = .ok (.aload_n 0, 1) := by decide +kernel
theorem dX5_parse_22 : decode cX5_parse 22 = .ok (.getfield 26, 3) := by decide +kernel
theorem dX5_parse_25 : decode cX5_parse 25 = .ok (.aload_n 0, 1) := by decide +kernel
theorem dX5_parse_26 : decode cX5_parse 26 = .ok (.getfield 22, 3) := by decide +kernel
theorem dX5_parse_29 : decode cX5_parse 29 = .ok (.if_icmp .ge 19, 3) := by decide +kernel
theorem dX5_parse_32 : decode cX5_parse 32 = .ok (.aload_n 0, 1) := by decide +kernel
theorem dX5_parse_33 : decode cX5_parse 33 = .ok (.iload_n 1, 1) := by decide +kernel
theorem dX5_parse_34 : decode cX5_parse 34 = .ok (.invokevirtual 32, 3) := by decide +kernel
theorem dX5_parse_37 : decode cX5_parse 37 = .ok (.ifCond .ne 5, 3) := by decide +kernel
theorem dX5_parse_40 : decode cX5_parse 40 = .ok (.iconst 0, 1) := by decide +kernel
theorem dX5_parse_41 : decode cX5_parse 41 = .ok (.ireturn, 1) := by decide +kernel
theorem dX5_parse_42 : decode cX5_parse 42 = .ok (.iinc 2 1, 3) := by decide +kernel
theorem dX5_parse_45 : decode cX5_parse 45 = .ok (.goto (-30), 3) := by decide +kernel
theorem dX5_parse_48 : decode cX5_parse 48 = .ok (.aload_n 0, 1) := by decide +kernel
theorem dX5_parse_49 : decode cX5_parse 49 = .ok (.getfield 26, 3) := by decide +kernel
theorem dX5_parse_52 : decode cX5_parse 52 = .ok (.aload_n 0, 1) := by decide +kernel
theorem dX5_parse_53 : decode cX5_parse 53 = .ok (.getfield 22, 3) := by decide +kernel
theorem dX5_parse_56 : decode cX5_parse 56 = .ok (.if_icmp .lt 7, 3) := by decide +kernel
theorem dX5_parse_59 : decode cX5_parse 59 = .ok (.iconst 1, 1) := by decide +kernel
theorem dX5_parse_60 : decode cX5_parse 60 = .ok (.goto 4, 3) := by decide +kernel
theorem dX5_parse_63 : decode cX5_parse 63 = .ok (.iconst 0, 1) := by decide +kernel
theorem dX5_parse_64 : decode cX5_parse 64 = .ok (.ireturn, 1) := by decide +kernel
theorem dX5_parseStage_0 : decode cX5_parseStage 0 = .ok (.aload_n 0, 1) := by decide +kernel
theorem dX5_parseStage_1 : decode cX5_parseStage 1 = .ok (.iload_n 1, 1) := by decide +kernel
theorem dX5_parseStage_2 : decode cX5_parseStage 2 = .ok (.invokevirtual 36, 3) := by decide +kernel
theorem dX5_parseStage_5 : decode cX5_parseStage 5 = .ok (.istore_n 2, 1) := by decide +kernel
theorem dX5_parseStage_6 : decode cX5_parseStage 6 = .ok (.iload_n 2, 1) := by decide +kernel
theorem dX5_parseStage_7 : decode cX5_parseStage 7 = .ok (.ifCond .eq 12, 3) := by decide +kernel
theorem dX5_parseStage_10 : decode cX5_parseStage 10 = .ok (.aload_n 0, 1) := by decide +kernel
theorem dX5_parseStage_11 : decode cX5_parseStage 11 = .ok (.bipush 58, 2) := by decide +kernel
theorem dX5_parseStage_13 : decode cX5_parseStage 13 = .ok (.invokevirtual 40, 3) := by decide +kernel
theorem dX5_parseStage_16 : decode cX5_parseStage 16 = .ok (.ifCond .ne 5, 3) := by decide +kernel
theorem dX5_parseStage_19 : decode cX5_parseStage 19 = .ok (.iconst 0, 1) := by decide +kernel
theorem dX5_parseStage_20 : decode cX5_parseStage 20 = .ok (.ireturn, 1) := by decide +kernel
theorem dX5_parseStage_21 : decode cX5_parseStage 21 = .ok (.aload_n 0, 1) := by decide +kernel
theorem dX5_parseStage_22 : decode cX5_parseStage 22 = .ok (.bipush 48, 2) := by decide +kernel
theorem dX5_parseStage_24 : decode cX5_parseStage 24 = .ok (.invokevirtual 44, 3) := by decide +kernel
theorem dX5_parseStage_27 : decode cX5_parseStage 27 = .ok (.istore_n 3, 1) := by decide +kernel
theorem dX5_parseStage_28 : decode cX5_parseStage 28 = .ok (.iload_n 3, 1) := by decide +kernel
theorem dX5_parseStage_29 : decode cX5_parseStage 29 = .ok (.ifCond .lt 12, 3) := by decide +kernel
theorem dX5_parseStage_32 : decode cX5_parseStage 32 = .ok (.aload_n 0, 1) := by decide +kernel
theorem dX5_parseStage_33 : decode cX5_parseStage 33 = .ok (.bipush 47, 2) := by decide +kernel
theorem dX5_parseStage_35 : decode cX5_parseStage 35 = .ok (.invokevirtual 40, 3) := by decide +kernel
theorem dX5_parseStage_38 : decode cX5_parseStage 38 = .ok (.ifCond .ne 5, 3) := by decide +kernel
theorem dX5_parseStage_41 : decode cX5_parseStage 41 = .ok (.iconst 0, 1) := by decide +kernel
theorem dX5_parseStage_42 : decode cX5_parseStage 42 = .ok (.ireturn, 1) := by decide +kernel
theorem dX5_parseStage_43 : decode cX5_parseStage 43 = .ok (.aload_n 0, 1) := by decide +kernel
theorem dX5_parseStage_44 : decode cX5_parseStage 44 = .ok (.bipush 25, 2) := by decide +kernel
theorem dX5_parseStage_46 : decode cX5_parseStage 46 = .ok (.invokevirtual 44, 3) := by decide +kernel
theorem dX5_parseStage_49 : decode cX5_parseStage 49 = .ok (.istore 4, 2) := by decide +kernel
theorem dX5_parseStage_51 : decode cX5_parseStage 51 = .ok (.iload 4, 2) := by decide +kernel
theorem dX5_parseStage_53 : decode cX5_parseStage 53 = .ok (.ifCond .lt 12, 3) := by decide +kernel
theorem dX5_parseStage_56 : decode cX5_parseStage 56 = .ok (.aload_n 0, 1) := by decide +kernel
theorem dX5_parseStage_57 : decode cX5_parseStage 57 = .ok (.bipush 59, 2) := by decide +kernel
theorem dX5_parseStage_59 : decode cX5_parseStage 59 = .ok (.invokevirtual 40, 3) := by decide +kernel
theorem dX5_parseStage_62 : decode cX5_parseStage 62 = .ok (.ifCond .ne 5, 3) := by decide +kernel
theorem dX5_parseStage_65 : decode cX5_parseStage 65 = .ok (.iconst 0, 1) := by decide +kernel
theorem dX5_parseStage_66 : decode cX5_parseStage 66 = .ok (.ireturn, 1) := by decide +kernel
theorem dX5_parseStage_67 : decode cX5_parseStage 67 = .ok (.aload_n 0, 1) := by decide +kernel
theorem dX5_parseStage_68 : decode cX5_parseStage 68 = .ok (.getfield 18, 3) := by decide +kernel
theorem dX5_parseStage_71 : decode cX5_parseStage 71 = .ok (.iload_n 2, 1) := by decide +kernel
theorem dX5_parseStage_72 : decode cX5_parseStage 72 = .ok (.iload_n 3, 1) := by decide +kernel
theorem dX5_parseStage_73 : decode cX5_parseStage 73 = .ok (.iload 4, 2) := by decide +kernel
theorem dX5_parseStage_75 : decode cX5_parseStage 75 = .ok (.invokevirtual 47, 3) := by decide +kernel
theorem dX5_parseStage_78 : decode cX5_parseStage 78 = .ok (.ireturn, 1) := by decide +kernel
theorem dX5_parseCells_0 : decode cX5_parseCells 0 = .ok (.aload_n 0, 1) := by decide +kernel
theorem dX5_parseCells_1 : decode cX5_parseCells 1 = .ok (.getfield 18, 3) := by decide +kernel
theorem dX5_parseCells_4 : decode cX5_parseCells 4 = .ok (.bipush 6, 2) := by decide +kernel
theorem dX5_parseCells_6 : decode cX5_parseCells 6 = .ok (.invokevirtual 51, 3) := by decide +kernel
theorem dX5_parseCells_9 : decode cX5_parseCells 9 = .ok (.istore_n 2, 1) := by decide +kernel
theorem dX5_parseCells_10 : decode cX5_parseCells 10 = .ok (.iconst 0, 1) := by decide +kernel
theorem dX5_parseCells_11 : decode cX5_parseCells 11 = .ok (.istore_n 3, 1) := by decide +kernel
theorem dX5_parseCells_12 : decode cX5_parseCells 12 = .ok (.iconst 0, 1) := by decide +kernel
theorem dX5_parseCells_13 : decode cX5_parseCells 13 = .ok (.istore 4, 2) := by decide +kernel
theorem dX5_parseCells_15 : decode cX5_parseCells 15 = .ok (.iconst 0, 1) := by decide +kernel
theorem dX5_parseCells_16 : decode cX5_parseCells 16 = .ok (.istore 5, 2) := by decide +kernel
theorem dX5_parseCells_18 : decode cX5_parseCells 18 = .ok (.iload 5, 2) := by decide +kernel
theorem dX5_parseCells_20 : decode cX5_parseCells 20 = .ok (.bipush 8, 2) := by decide +kernel
theorem dX5_parseCells_22 : decode cX5_parseCells 22 = .ok (.if_icmp .ge 67, 3) := by decide +kernel
theorem dX5_parseCells_25 : decode cX5_parseCells 25 = .ok (.aload_n 0, 1) := by decide +kernel
theorem dX5_parseCells_26 : decode cX5_parseCells 26 = .ok (.aload_n 0, 1) := by decide +kernel
theorem dX5_parseCells_27 : decode cX5_parseCells 27 = .ok (.getfield 26, 3) := by decide +kernel
theorem dX5_parseCells_30 : decode cX5_parseCells 30 = .ok (.invokevirtual 54, 3) := by decide +kernel
theorem dX5_parseCells_33 : decode cX5_parseCells 33 = .ok (.istore 6, 2) := by decide +kernel
theorem dX5_parseCells_35 : decode cX5_parseCells 35 = .ok (.iload 6, 2) := by decide +kernel
theorem dX5_parseCells_37 : decode cX5_parseCells 37 = .ok (.iload 4, 2) := by decide +kernel
theorem dX5_parseCells_39 : decode cX5_parseCells 39 = .ok (.if_icmp .lt 50, 3) := by decide +kernel
theorem dX5_parseCells_42 : decode cX5_parseCells 42 = .ok (.iload 6, 2) := by decide +kernel
theorem dX5_parseCells_44 : decode cX5_parseCells 44 = .ok (.iload_n 1, 1) := by decide +kernel
theorem dX5_parseCells_45 : decode cX5_parseCells 45 = .ok (.if_icmp .ge 44, 3) := by decide +kernel
theorem dX5_parseCells_48 : decode cX5_parseCells 48 = .ok (.iload_n 2, 1) := by decide +kernel
theorem dX5_parseCells_49 : decode cX5_parseCells 49 = .ok (.iload 6, 2) := by decide +kernel
theorem dX5_parseCells_51 : decode cX5_parseCells 51 = .ok (.ishr, 1) := by decide +kernel
theorem dX5_parseCells_52 : decode cX5_parseCells 52 = .ok (.iconst 1, 1) := by decide +kernel
theorem dX5_parseCells_53 : decode cX5_parseCells 53 = .ok (.iand, 1) := by decide +kernel
theorem dX5_parseCells_54 : decode cX5_parseCells 54 = .ok (.ifCond .eq 6, 3) := by decide +kernel
theorem dX5_parseCells_57 : decode cX5_parseCells 57 = .ok (.goto 32, 3) := by decide +kernel
theorem dX5_parseCells_60 : decode cX5_parseCells 60 = .ok (.iload_n 3, 1) := by decide +kernel
theorem dX5_parseCells_61 : decode cX5_parseCells 61 = .ok (.iconst 1, 1) := by decide +kernel
theorem dX5_parseCells_62 : decode cX5_parseCells 62 = .ok (.iload 6, 2) := by decide +kernel
theorem dX5_parseCells_64 : decode cX5_parseCells 64 = .ok (.ishl, 1) := by decide +kernel
theorem dX5_parseCells_65 : decode cX5_parseCells 65 = .ok (.ior, 1) := by decide +kernel
theorem dX5_parseCells_66 : decode cX5_parseCells 66 = .ok (.istore_n 3, 1) := by decide +kernel
theorem dX5_parseCells_67 : decode cX5_parseCells 67 = .ok (.iload 6, 2) := by decide +kernel
theorem dX5_parseCells_69 : decode cX5_parseCells 69 = .ok (.iconst 1, 1) := by decide +kernel
theorem dX5_parseCells_70 : decode cX5_parseCells 70 = .ok (.iadd, 1) := by decide +kernel
theorem dX5_parseCells_71 : decode cX5_parseCells 71 = .ok (.istore 4, 2) := by decide +kernel
theorem dX5_parseCells_73 : decode cX5_parseCells 73 = .ok (.aload_n 0, 1) := by decide +kernel
theorem dX5_parseCells_74 : decode cX5_parseCells 74 = .ok (.dup, 1) := by decide +kernel
theorem dX5_parseCells_75 : decode cX5_parseCells 75 = .ok (.getfield 26, 3) := by decide +kernel
theorem dX5_parseCells_78 : decode cX5_parseCells 78 = .ok (.iconst 1, 1) := by decide +kernel
theorem dX5_parseCells_79 : decode cX5_parseCells 79 = .ok (.iadd, 1) := by decide +kernel
theorem dX5_parseCells_80 : decode cX5_parseCells 80 = .ok (.putfield 26, 3) := by decide +kernel
theorem dX5_parseCells_83 : decode cX5_parseCells 83 = .ok (.iinc 5 1, 3) := by decide +kernel
theorem dX5_parseCells_86 : decode cX5_parseCells 86 = .ok (.goto (-68), 3) := by decide +kernel
theorem dX5_parseCells_89 : decode cX5_parseCells 89 = .ok (.iload_n 3, 1) := by decide +kernel
theorem dX5_parseCells_90 : decode cX5_parseCells 90 = .ok (.ireturn, 1) := by decide +kernel
theorem dX5_parseNumber_0 : decode cX5_parseNumber 0 = .ok (.aload_n 0, 1) := by decide +kernel
theorem dX5_parseNumber_1 : decode cX5_parseNumber 1 = .ok (.aload_n 0, 1) := by decide +kernel
theorem dX5_parseNumber_2 : decode cX5_parseNumber 2 = .ok (.getfield 26, 3) := by decide +kernel
theorem dX5_parseNumber_5 : decode cX5_parseNumber 5 = .ok (.invokevirtual 54, 3) := by decide +kernel
theorem dX5_parseNumber_8 : decode cX5_parseNumber 8 = .ok (.istore_n 2, 1) := by decide +kernel
theorem dX5_parseNumber_9 : decode cX5_parseNumber 9 = .ok (.iload_n 2, 1) := by decide +kernel
theorem dX5_parseNumber_10 : decode cX5_parseNumber 10 = .ok (.ifCond .ge 5, 3) := by decide +kernel
theorem dX5_parseNumber_13 : decode cX5_parseNumber 13 = .ok (.iconst (-1), 1) := by decide +kernel
theorem dX5_parseNumber_14 : decode cX5_parseNumber 14 = .ok (.ireturn, 1) := by decide +kernel
theorem dX5_parseNumber_15 : decode cX5_parseNumber 15 = .ok (.iload_n 2, 1) := by decide +kernel
theorem dX5_parseNumber_16 : decode cX5_parseNumber 16 = .ok (.ifCond .ne 7, 3) := by decide +kernel
theorem dX5_parseNumber_19 : decode cX5_parseNumber 19 = .ok (.iconst (-1), 1) := by decide +kernel
theorem dX5_parseNumber_20 : decode cX5_parseNumber 20 = .ok (.goto 13, 3) := by decide +kernel
theorem dX5_parseNumber_23 : decode cX5_parseNumber 23 = .ok (.aload_n 0, 1) := by decide +kernel
theorem dX5_parseNumber_24 : decode cX5_parseNumber 24 = .ok (.aload_n 0, 1) := by decide +kernel
theorem dX5_parseNumber_25 : decode cX5_parseNumber 25 = .ok (.getfield 26, 3) := by decide +kernel
theorem dX5_parseNumber_28 : decode cX5_parseNumber 28 = .ok (.iconst 1, 1) := by decide +kernel
theorem dX5_parseNumber_29 : decode cX5_parseNumber 29 = .ok (.iadd, 1) := by decide +kernel
theorem dX5_parseNumber_30 : decode cX5_parseNumber 30 = .ok (.invokevirtual 54, 3) := by decide +kernel
theorem dX5_parseNumber_33 : decode cX5_parseNumber 33 = .ok (.istore_n 3, 1) := by decide +kernel
theorem dX5_parseNumber_34 : decode cX5_parseNumber 34 = .ok (.iload_n 3, 1) := by decide +kernel
theorem dX5_parseNumber_35 : decode cX5_parseNumber 35 = .ok (.ifCond .ge 7, 3) := by decide +kernel
theorem dX5_parseNumber_38 : decode cX5_parseNumber 38 = .ok (.iconst 1, 1) := by decide +kernel
theorem dX5_parseNumber_39 : decode cX5_parseNumber 39 = .ok (.goto 4, 3) := by decide +kernel
theorem dX5_parseNumber_42 : decode cX5_parseNumber 42 = .ok (.iconst 2, 1) := by decide +kernel
theorem dX5_parseNumber_43 : decode cX5_parseNumber 43 = .ok (.istore 4, 2) := by decide +kernel
theorem dX5_parseNumber_45 : decode cX5_parseNumber 45 = .ok (.iload_n 3, 1) := by decide +kernel
theorem dX5_parseNumber_46 : decode cX5_parseNumber 46 = .ok (.ifCond .lt 10, 3) := by decide +kernel
theorem dX5_parseNumber_49 : decode cX5_parseNumber 49 = .ok (.bipush 10, 2) := by decide +kernel
theorem dX5_parseNumber_51 : decode cX5_parseNumber 51 = .ok (.iload_n 2, 1) := by decide +kernel
theorem dX5_parseNumber_52 : decode cX5_parseNumber 52 = .ok (.imul, 1) := by decide +kernel
theorem dX5_parseNumber_53 : decode cX5_parseNumber 53 = .ok (.iload_n 3, 1) := by decide +kernel
theorem dX5_parseNumber_54 : decode cX5_parseNumber 54 = .ok (.iadd, 1) := by decide +kernel
theorem dX5_parseNumber_55 : decode cX5_parseNumber 55 = .ok (.istore_n 2, 1) := by decide +kernel
theorem dX5_parseNumber_56 : decode cX5_parseNumber 56 = .ok (.iload_n 2, 1) := by decide +kernel
theorem dX5_parseNumber_57 : decode cX5_parseNumber 57 = .ok (.iload_n 1, 1) := by decide +kernel
theorem dX5_parseNumber_58 : decode cX5_parseNumber 58 = .ok (.if_icmp .le 5, 3) := by decide +kernel
theorem dX5_parseNumber_61 : decode cX5_parseNumber 61 = .ok (.iconst (-1), 1) := by decide +kernel
theorem dX5_parseNumber_62 : decode cX5_parseNumber 62 = .ok (.ireturn, 1) := by decide +kernel
theorem dX5_parseNumber_63 : decode cX5_parseNumber 63 = .ok (.aload_n 0, 1) := by decide +kernel
theorem dX5_parseNumber_64 : decode cX5_parseNumber 64 = .ok (.dup, 1) := by decide +kernel
theorem dX5_parseNumber_65 : decode cX5_parseNumber 65 = .ok (.getfield 26, 3) := by decide +kernel
theorem dX5_parseNumber_68 : decode cX5_parseNumber 68 = .ok (.iload 4, 2) := by decide +kernel
theorem dX5_parseNumber_70 : decode cX5_parseNumber 70 = .ok (.iadd, 1) := by decide +kernel
theorem dX5_parseNumber_71 : decode cX5_parseNumber 71 = .ok (.putfield 26, 3) := by decide +kernel
theorem dX5_parseNumber_74 : decode cX5_parseNumber 74 = .ok (.iload_n 2, 1) := by decide +kernel
theorem dX5_parseNumber_75 : decode cX5_parseNumber 75 = .ok (.ireturn, 1) := by decide +kernel
theorem dX5_skip_0 : decode cX5_skip 0 = .ok (.aload_n 0, 1) := by decide +kernel
theorem dX5_skip_1 : decode cX5_skip 1 = .ok (.aload_n 0, 1) := by decide +kernel
theorem dX5_skip_2 : decode cX5_skip 2 = .ok (.getfield 26, 3) := by decide +kernel
theorem dX5_skip_5 : decode cX5_skip 5 = .ok (.invokevirtual 57, 3) := by decide +kernel
theorem dX5_skip_8 : decode cX5_skip 8 = .ok (.iload_n 1, 1) := by decide +kernel
theorem dX5_skip_9 : decode cX5_skip 9 = .ok (.if_icmp .eq 5, 3) := by decide +kernel
theorem dX5_skip_12 : decode cX5_skip 12 = .ok (.iconst 0, 1) := by decide +kernel
theorem dX5_skip_13 : decode cX5_skip 13 = .ok (.ireturn, 1) := by decide +kernel
theorem dX5_skip_14 : decode cX5_skip 14 = .ok (.aload_n 0, 1) := by decide +kernel
theorem dX5_skip_15 : decode cX5_skip 15 = .ok (.dup, 1) := by decide +kernel
theorem dX5_skip_16 : decode cX5_skip 16 = .ok (.getfield 26, 3) := by decide +kernel
theorem dX5_skip_19 : decode cX5_skip 19 = .ok (.iconst 1, 1) := by decide +kernel
theorem dX5_skip_20 : decode cX5_skip 20 = .ok (.iadd, 1) := by decide +kernel
theorem dX5_skip_21 : decode cX5_skip 21 = .ok (.putfield 26, 3) := by decide +kernel
theorem dX5_skip_24 : decode cX5_skip 24 = .ok (.iconst 1, 1) := by decide +kernel
theorem dX5_skip_25 : decode cX5_skip 25 = .ok (.ireturn, 1) := by decide +kernel
theorem dX5_digitAt_0 : decode cX5_digitAt 0 = .ok (.aload_n 0, 1) := by decide +kernel
theorem dX5_digitAt_1 : decode cX5_digitAt 1 = .ok (.iload_n 1, 1) := by decide +kernel
theorem dX5_digitAt_2 : decode cX5_digitAt 2 = .ok (.invokevirtual 57, 3) := by decide +kernel
theorem dX5_digitAt_5 : decode cX5_digitAt 5 = .ok (.bipush 48, 2) := by decide +kernel
theorem dX5_digitAt_7 : decode cX5_digitAt 7 = .ok (.isub, 1) := by decide +kernel
theorem dX5_digitAt_8 : decode cX5_digitAt 8 = .ok (.istore_n 2, 1) := by decide +kernel
theorem dX5_digitAt_9 : decode cX5_digitAt 9 = .ok (.iload_n 2, 1) := by decide +kernel
theorem dX5_digitAt_10 : decode cX5_digitAt 10 = .ok (.iconst 0, 1) := by decide +kernel
theorem dX5_digitAt_11 : decode cX5_digitAt 11 = .ok (.bipush 9, 2) := by decide +kernel
theorem dX5_digitAt_13 : decode cX5_digitAt 13 = .ok (.invokestatic 60, 3) := by decide +kernel
theorem dX5_digitAt_16 : decode cX5_digitAt 16 = .ok (.ifCond .eq 7, 3) := by decide +kernel
theorem dX5_digitAt_19 : decode cX5_digitAt 19 = .ok (.iload_n 2, 1) := by decide +kernel
theorem dX5_digitAt_20 : decode cX5_digitAt 20 = .ok (.goto 4, 3) := by decide +kernel
theorem dX5_digitAt_23 : decode cX5_digitAt 23 = .ok (.iconst (-1), 1) := by decide +kernel
theorem dX5_digitAt_24 : decode cX5_digitAt 24 = .ok (.ireturn, 1) := by decide +kernel
theorem dX5_letterAt_0 : decode cX5_letterAt 0 = .ok (.iload_n 1, 1) := by decide +kernel
theorem dX5_letterAt_1 : decode cX5_letterAt 1 = .ok (.iconst 0, 1) := by decide +kernel
theorem dX5_letterAt_2 : decode cX5_letterAt 2 = .ok (.aload_n 0, 1) := by decide +kernel
theorem dX5_letterAt_3 : decode cX5_letterAt 3 = .ok (.getfield 22, 3) := by decide +kernel
theorem dX5_letterAt_6 : decode cX5_letterAt 6 = .ok (.iconst 1, 1) := by decide +kernel
theorem dX5_letterAt_7 : decode cX5_letterAt 7 = .ok (.isub, 1) := by decide +kernel
theorem dX5_letterAt_8 : decode cX5_letterAt 8 = .ok (.invokestatic 60, 3) := by decide +kernel
theorem dX5_letterAt_11 : decode cX5_letterAt 11 = .ok (.ifCond .eq 18, 3) := by decide +kernel
theorem dX5_letterAt_14 : decode cX5_letterAt 14 = .ok (.iload_n 1, 1) := by decide +kernel
theorem dX5_letterAt_15 : decode cX5_letterAt 15 = .ok (.bipush 60, 2) := by decide +kernel
theorem dX5_letterAt_17 : decode cX5_letterAt 17 = .ok (.if_icmp .ge 12, 3) := by decide +kernel
theorem dX5_letterAt_20 : decode cX5_letterAt 20 = .ok (.aload_n 0, 1) := by decide +kernel
theorem dX5_letterAt_21 : decode cX5_letterAt 21 = .ok (.getfield 9, 3) := by decide +kernel
theorem dX5_letterAt_24 : decode cX5_letterAt 24 = .ok (.iload_n 1, 1) := by decide +kernel
theorem dX5_letterAt_25 : decode cX5_letterAt 25 = .ok (.baload, 1) := by decide +kernel
theorem dX5_letterAt_26 : decode cX5_letterAt 26 = .ok (.goto 4, 3) := by decide +kernel
theorem dX5_letterAt_29 : decode cX5_letterAt 29 = .ok (.iconst (-1), 1) := by decide +kernel
theorem dX5_letterAt_30 : decode cX5_letterAt 30 = .ok (.ireturn, 1) := by decide +kernel
theorem dX6_init_0 : decode cX6_init 0 = .ok (.aload_n 0, 1) := by decide +kernel
theorem dX6_init_1 : decode cX6_init 1 = .ok (.invokespecial 3, 3) := by decide +kernel
theorem dX6_init_4 : decode cX6_init 4 = .ok (.aload_n 0, 1) := by decide +kernel
theorem dX6_init_5 : decode cX6_init 5 = .ok (.lconst 1, 1) := by decide +kernel
theorem dX6_init_6 : decode cX6_init 6 = .ok (.putfield 9, 3) := by decide +kernel
theorem dX6_init_9 : decode cX6_init 9 = .ok (.aload_n 0, 1) := by decide +kernel
theorem dX6_init_10 : decode cX6_init 10 = .ok (.lconst 1, 1) := by decide +kernel
theorem dX6_init_11 : decode cX6_init 11 = .ok (.putfield 15, 3) := by decide +kernel
theorem dX6_init_14 : decode cX6_init 14 = .ok (.return_, 1) := by decide +kernel
theorem dX6_empty_0 : decode cX6_empty 0 = .ok (.aload_n 0, 1) := by decide +kernel
theorem dX6_empty_1 : decode cX6_empty 1 = .ok (.iconst 0, 1) := by decide +kernel
theorem dX6_empty_2 : decode cX6_empty 2 = .ok (.putfield 18, 3) := by decide +kernel
theorem dX6_empty_5 : decode cX6_empty 5 = .ok (.aload_n 0, 1) := by decide +kernel
theorem dX6_empty_6 : decode cX6_empty 6 = .ok (.iconst 0, 1) := by decide +kernel
theorem dX6_empty_7 : decode cX6_empty 7 = .ok (.putfield 22, 3) := by decide +kernel
theorem dX6_empty_10 : decode cX6_empty 10 = .ok (.aload_n 0, 1) := by decide +kernel
theorem dX6_empty_11 : decode cX6_empty 11 = .ok (.iconst 0, 1) := by decide +kernel
theorem dX6_empty_12 : decode cX6_empty 12 = .ok (.putfield 25, 3) := by decide +kernel
theorem dX6_empty_15 : decode cX6_empty 15 = .ok (.aload_n 0, 1) := by decide +kernel
theorem dX6_empty_16 : decode cX6_empty 16 = .ok (.iconst 0, 1) := by decide +kernel
theorem dX6_empty_17 : decode cX6_empty 17 = .ok (.putfield 28, 3) := by decide +kernel
theorem dX6_empty_20 : decode cX6_empty 20 = .ok (.aload_n 0, 1) := by decide +kernel
theorem dX6_empty_21 : decode cX6_empty 21 = .ok (.lconst 1, 1) := by decide +kernel
theorem dX6_empty_22 : decode cX6_empty 22 = .ok (.putfield 9, 3) := by decide +kernel
theorem dX6_empty_25 : decode cX6_empty 25 = .ok (.aload_n 0, 1) := by decide +kernel
theorem dX6_empty_26 : decode cX6_empty 26 = .ok (.lconst 1, 1) := by decide +kernel
theorem dX6_empty_27 : decode cX6_empty 27 = .ok (.putfield 15, 3) := by decide +kernel
theorem dX6_empty_30 : decode cX6_empty 30 = .ok (.return_, 1) := by decide +kernel
theorem dX6_copyFrom_0 : decode cX6_copyFrom 0 = .ok (.aload_n 0, 1) := by decide +kernel
theorem dX6_copyFrom_1 : decode cX6_copyFrom 1 = .ok (.aload_n 1, 1) := by decide +kernel
theorem dX6_copyFrom_2 : decode cX6_copyFrom 2 = .ok (.getfield 18, 3) := by decide +kernel
theorem dX6_copyFrom_5 : decode cX6_copyFrom 5 = .ok (.putfield 18, 3) := by decide +kernel
theorem dX6_copyFrom_8 : decode cX6_copyFrom 8 = .ok (.aload_n 0, 1) := by decide +kernel
theorem dX6_copyFrom_9 : decode cX6_copyFrom 9 = .ok (.aload_n 1, 1) := by decide +kernel
theorem dX6_copyFrom_10 : decode cX6_copyFrom 10 = .ok (.getfield 22, 3) := by decide +kernel
theorem dX6_copyFrom_13 : decode cX6_copyFrom 13 = .ok (.putfield 22, 3) := by decide +kernel
theorem dX6_copyFrom_16 : decode cX6_copyFrom 16 = .ok (.aload_n 0, 1) := by decide +kernel
theorem dX6_copyFrom_17 : decode cX6_copyFrom 17 = .ok (.aload_n 1, 1) := by decide +kernel
theorem dX6_copyFrom_18 : decode cX6_copyFrom 18 = .ok (.getfield 25, 3) := by decide +kernel
theorem dX6_copyFrom_21 : decode cX6_copyFrom 21 = .ok (.putfield 25, 3) := by decide +kernel
theorem dX6_copyFrom_24 : decode cX6_copyFrom 24 = .ok (.aload_n 0, 1) := by decide +kernel
theorem dX6_copyFrom_25 : decode cX6_copyFrom 25 = .ok (.aload_n 1, 1) := by decide +kernel
theorem dX6_copyFrom_26 : decode cX6_copyFrom 26 = .ok (.getfield 28, 3) := by decide +kernel
theorem dX6_copyFrom_29 : decode cX6_copyFrom 29 = .ok (.putfield 28, 3) := by decide +kernel
theorem dX6_copyFrom_32 : decode cX6_copyFrom 32 = .ok (.aload_n 0, 1) := by decide +kernel
theorem dX6_copyFrom_33 : decode cX6_copyFrom 33 = .ok (.aload_n 1, 1) := by decide +kernel
theorem dX6_copyFrom_34 : decode cX6_copyFrom 34 = .ok (.getfield 9, 3) := by decide +kernel
theorem dX6_copyFrom_37 : decode cX6_copyFrom 37 = .ok (.putfield 9, 3) := by decide +kernel
theorem dX6_copyFrom_40 : decode cX6_copyFrom 40 = .ok (.aload_n 0, 1) := by decide +kernel
theorem dX6_copyFrom_41 : decode cX6_copyFrom 41 = .ok (.aload_n 1, 1) := by decide +kernel
theorem dX6_copyFrom_42 : decode cX6_copyFrom 42 = .ok (.getfield 15, 3) := by decide +kernel
theorem dX6_copyFrom_45 : decode cX6_copyFrom 45 = .ok (.putfield 15, 3) := by decide +kernel
theorem dX6_copyFrom_48 : decode cX6_copyFrom 48 = .ok (.return_, 1) := by decide +kernel
theorem dX6_treated_0 : decode cX6_treated 0 = .ok (.aload_n 0, 1) := by decide +kernel
theorem dX6_treated_1 : decode cX6_treated 1 = .ok (.getfield 18, 3) := by decide +kernel
theorem dX6_treated_4 : decode cX6_treated 4 = .ok (.aload_n 0, 1) := by decide +kernel
theorem dX6_treated_5 : decode cX6_treated 5 = .ok (.getfield 22, 3) := by decide +kernel
theorem dX6_treated_8 : decode cX6_treated 8 = .ok (.iadd, 1) := by decide +kernel
theorem dX6_treated_9 : decode cX6_treated 9 = .ok (.ireturn, 1) := by decide +kernel
theorem dX6_control_0 : decode cX6_control 0 = .ok (.aload_n 0, 1) := by decide +kernel
theorem dX6_control_1 : decode cX6_control 1 = .ok (.getfield 25, 3) := by decide +kernel
theorem dX6_control_4 : decode cX6_control 4 = .ok (.aload_n 0, 1) := by decide +kernel
theorem dX6_control_5 : decode cX6_control 5 = .ok (.getfield 28, 3) := by decide +kernel
theorem dX6_control_8 : decode cX6_control 8 = .ok (.iadd, 1) := by decide +kernel
theorem dX6_control_9 : decode cX6_control 9 = .ok (.ireturn, 1) := by decide +kernel
theorem dX6_takesTreated_0 : decode cX6_takesTreated 0 = .ok (.aload_n 0, 1) := by decide +kernel
theorem dX6_takesTreated_1 : decode cX6_takesTreated 1 = .ok (.invokevirtual 31, 3) := by decide +kernel
theorem dX6_takesTreated_4 : decode cX6_takesTreated 4 = .ok (.iload_n 1, 1) := by decide +kernel
theorem dX6_takesTreated_5 : decode cX6_takesTreated 5 = .ok (.iadd, 1) := by decide +kernel
theorem dX6_takesTreated_6 : decode cX6_takesTreated 6 = .ok (.iload_n 2, 1) := by decide +kernel
theorem dX6_takesTreated_7 : decode cX6_takesTreated 7 = .ok (.iadd, 1) := by decide +kernel
theorem dX6_takesTreated_8 : decode cX6_takesTreated 8 = .ok (.bipush 25, 2) := by decide +kernel
theorem dX6_takesTreated_10 : decode cX6_takesTreated 10 = .ok (.if_icmp .le 5, 3) := by decide +kernel
theorem dX6_takesTreated_13 : decode cX6_takesTreated 13 = .ok (.iconst 0, 1) := by decide +kernel
theorem dX6_takesTreated_14 : decode cX6_takesTreated 14 = .ok (.ireturn, 1) := by decide +kernel
theorem dX6_takesTreated_15 : decode cX6_takesTreated 15 = .ok (.aload_n 0, 1) := by decide +kernel
theorem dX6_takesTreated_16 : decode cX6_takesTreated 16 = .ok (.dup, 1) := by decide +kernel
theorem dX6_takesTreated_17 : decode cX6_takesTreated 17 = .ok (.getfield 18, 3) := by decide +kernel
theorem dX6_takesTreated_20 : decode cX6_takesTreated 20 = .ok (.iload_n 1, 1) := by decide +kernel
theorem dX6_takesTreated_21 : decode cX6_takesTreated 21 = .ok (.iadd, 1) := by decide +kernel
theorem dX6_takesTreated_22 : decode cX6_takesTreated 22 = .ok (.putfield 18, 3) := by decide +kernel
theorem dX6_takesTreated_25 : decode cX6_takesTreated 25 = .ok (.aload_n 0, 1) := by decide +kernel
theorem dX6_takesTreated_26 : decode cX6_takesTreated 26 = .ok (.dup, 1) := by decide +kernel
theorem dX6_takesTreated_27 : decode cX6_takesTreated 27 = .ok (.getfield 22, 3) := by decide +kernel
theorem dX6_takesTreated_30 : decode cX6_takesTreated 30 = .ok (.iload_n 2, 1) := by decide +kernel
theorem dX6_takesTreated_31 : decode cX6_takesTreated 31 = .ok (.iadd, 1) := by decide +kernel
theorem dX6_takesTreated_32 : decode cX6_takesTreated 32 = .ok (.putfield 22, 3) := by decide +kernel
theorem dX6_takesTreated_35 : decode cX6_takesTreated 35 = .ok (.aload_n 0, 1) := by decide +kernel
theorem dX6_takesTreated_36 : decode cX6_takesTreated 36 = .ok (.invokevirtual 35, 3) := by decide +kernel
theorem dX6_takesTreated_39 : decode cX6_takesTreated 39 = .ok (.iconst 1, 1) := by decide +kernel
theorem dX6_takesTreated_40 : decode cX6_takesTreated 40 = .ok (.ireturn, 1) := by decide +kernel
theorem dX6_takesControl_0 : decode cX6_takesControl 0 = .ok (.aload_n 0, 1) := by decide +kernel
theorem dX6_takesControl_1 : decode cX6_takesControl 1 = .ok (.invokevirtual 38, 3) := by decide +kernel
theorem dX6_takesControl_4 : decode cX6_takesControl 4 = .ok (.iload_n 1, 1) := by decide +kernel
theorem dX6_takesControl_5 : decode cX6_takesControl 5 = .ok (.iadd, 1) := by decide +kernel
theorem dX6_takesControl_6 : decode cX6_takesControl 6 = .ok (.iload_n 2, 1) := by decide +kernel
theorem dX6_takesControl_7 : decode cX6_takesControl 7 = .ok (.iadd, 1) := by decide +kernel
theorem dX6_takesControl_8 : decode cX6_takesControl 8 = .ok (.bipush 25, 2) := by decide +kernel
theorem dX6_takesControl_10 : decode cX6_takesControl 10 = .ok (.if_icmp .le 5, 3) := by decide +kernel
theorem dX6_takesControl_13 : decode cX6_takesControl 13 = .ok (.iconst 0, 1) := by decide +kernel
theorem dX6_takesControl_14 : decode cX6_takesControl 14 = .ok (.ireturn, 1) := by decide +kernel
theorem dX6_takesControl_15 : decode cX6_takesControl 15 = .ok (.aload_n 0, 1) := by decide +kernel
theorem dX6_takesControl_16 : decode cX6_takesControl 16 = .ok (.dup, 1) := by decide +kernel
theorem dX6_takesControl_17 : decode cX6_takesControl 17 = .ok (.getfield 25, 3) := by decide +kernel
theorem dX6_takesControl_20 : decode cX6_takesControl 20 = .ok (.iload_n 1, 1) := by decide +kernel
theorem dX6_takesControl_21 : decode cX6_takesControl 21 = .ok (.iadd, 1) := by decide +kernel
theorem dX6_takesControl_22 : decode cX6_takesControl 22 = .ok (.putfield 25, 3) := by decide +kernel
theorem dX6_takesControl_25 : decode cX6_takesControl 25 = .ok (.aload_n 0, 1) := by decide +kernel
theorem dX6_takesControl_26 : decode cX6_takesControl 26 = .ok (.dup, 1) := by decide +kernel
theorem dX6_takesControl_27 : decode cX6_takesControl 27 = .ok (.getfield 28, 3) := by decide +kernel
theorem dX6_takesControl_30 : decode cX6_takesControl 30 = .ok (.iload_n 2, 1) := by decide +kernel
theorem dX6_takesControl_31 : decode cX6_takesControl 31 = .ok (.iadd, 1) := by decide +kernel
theorem dX6_takesControl_32 : decode cX6_takesControl 32 = .ok (.putfield 28, 3) := by decide +kernel
theorem dX6_takesControl_35 : decode cX6_takesControl 35 = .ok (.aload_n 0, 1) := by decide +kernel
theorem dX6_takesControl_36 : decode cX6_takesControl 36 = .ok (.invokevirtual 35, 3) := by decide +kernel
theorem dX6_takesControl_39 : decode cX6_takesControl 39 = .ok (.iconst 1, 1) := by decide +kernel
theorem dX6_takesControl_40 : decode cX6_takesControl 40 = .ok (.ireturn, 1) := by decide +kernel
theorem dX6_isAtMost_0 : decode cX6_isAtMost 0 = .ok (.aload_n 0, 1) := by decide +kernel
theorem dX6_isAtMost_1 : decode cX6_isAtMost 1 = .ok (.getfield 9, 3) := by decide +kernel
theorem dX6_isAtMost_4 : decode cX6_isAtMost 4 = .ok (.ldc2_w 41, 3) := by decide +kernel
theorem dX6_isAtMost_7 : decode cX6_isAtMost 7 = .ok (.lmul, 1) := by decide +kernel
theorem dX6_isAtMost_8 : decode cX6_isAtMost 8 = .ok (.iload_n 1, 1) := by decide +kernel
theorem dX6_isAtMost_9 : decode cX6_isAtMost 9 = .ok (.i2l, 1) := by decide +kernel
theorem dX6_isAtMost_10 : decode cX6_isAtMost 10 = .ok (.aload_n 0, 1) := by decide +kernel
theorem dX6_isAtMost_11 : decode cX6_isAtMost 11 = .ok (.getfield 15, 3) := by decide +kernel
theorem dX6_isAtMost_14 : decode cX6_isAtMost 14 = .ok (.lmul, 1) := by decide +kernel
theorem dX6_isAtMost_15 : decode cX6_isAtMost 15 = .ok (.lcmp, 1) := by decide +kernel
theorem dX6_isAtMost_16 : decode cX6_isAtMost 16 = .ok (.ifCond .gt 7, 3) := by decide +kernel
theorem dX6_isAtMost_19 : decode cX6_isAtMost 19 = .ok (.iconst 1, 1) := by decide +kernel
theorem dX6_isAtMost_20 : decode cX6_isAtMost 20 = .ok (.goto 4, 3) := by decide +kernel
theorem dX6_isAtMost_23 : decode cX6_isAtMost 23 = .ok (.iconst 0, 1) := by decide +kernel
theorem dX6_isAtMost_24 : decode cX6_isAtMost 24 = .ok (.ireturn, 1) := by decide +kernel
theorem dX6_computeChance_0 : decode cX6_computeChance 0 = .ok (.aload_n 0, 1) := by decide +kernel
theorem dX6_computeChance_1 : decode cX6_computeChance 1 = .ok (.invokevirtual 31, 3) := by decide +kernel
theorem dX6_computeChance_4 : decode cX6_computeChance 4 = .ok (.istore_n 1, 1) := by decide +kernel
theorem dX6_computeChance_5 : decode cX6_computeChance 5 = .ok (.aload_n 0, 1) := by decide +kernel
theorem dX6_computeChance_6 : decode cX6_computeChance 6 = .ok (.getfield 18, 3) := by decide +kernel
theorem dX6_computeChance_9 : decode cX6_computeChance 9 = .ok (.aload_n 0, 1) := by decide +kernel
theorem dX6_computeChance_10 : decode cX6_computeChance 10 = .ok (.getfield 25, 3) := by decide +kernel
theorem dX6_computeChance_13 : decode cX6_computeChance 13 = .ok (.iadd, 1) := by decide +kernel
theorem dX6_computeChance_14 : decode cX6_computeChance 14 = .ok (.istore_n 2, 1) := by decide +kernel
theorem dX6_computeChance_15 : decode cX6_computeChance 15 = .ok (.aload_n 0, 1) := by decide +kernel
theorem dX6_computeChance_16 : decode cX6_computeChance 16 = .ok (.getfield 22, 3) := by decide +kernel
theorem dX6_computeChance_19 : decode cX6_computeChance 19 = .ok (.aload_n 0, 1) := by decide +kernel
theorem dX6_computeChance_20 : decode cX6_computeChance 20 = .ok (.getfield 28, 3) := by decide +kernel
theorem dX6_computeChance_23 : decode cX6_computeChance 23 = .ok (.iadd, 1) := by decide +kernel
theorem dX6_computeChance_24 : decode cX6_computeChance 24 = .ok (.istore_n 3, 1) := by decide +kernel
theorem dX6_computeChance_25 : decode cX6_computeChance 25 = .ok (.lconst 0, 1) := by decide +kernel
theorem dX6_computeChance_26 : decode cX6_computeChance 26 = .ok (.lstore 4, 2) := by decide +kernel
theorem dX6_computeChance_28 : decode cX6_computeChance 28 = .ok (.aload_n 0, 1) := by decide +kernel
theorem dX6_computeChance_29 : decode cX6_computeChance 29 = .ok (.getfield 18, 3) := by decide +kernel
theorem dX6_computeChance_32 : decode cX6_computeChance 32 = .ok (.istore 6, 2) := by decide +kernel
theorem dX6_computeChance_34 : decode cX6_computeChance 34 = .ok (.iload 6, 2) := by decide +kernel
theorem dX6_computeChance_36 : decode cX6_computeChance 36 = .ok (.iload_n 1, 1) := by decide +kernel
theorem dX6_computeChance_37 : decode cX6_computeChance 37 = .ok (.if_icmp .gt 35, 3) := by decide +kernel
theorem dX6_computeChance_40 : decode cX6_computeChance 40 = .ok (.iload 6, 2) := by decide +kernel
theorem dX6_computeChance_42 : decode cX6_computeChance 42 = .ok (.iload_n 2, 1) := by decide +kernel
theorem dX6_computeChance_43 : decode cX6_computeChance 43 = .ok (.if_icmp .gt 29, 3) := by decide +kernel
theorem dX6_computeChance_46 : decode cX6_computeChance 46 = .ok (.lload 4, 2) := by decide +kernel
theorem dX6_computeChance_48 : decode cX6_computeChance 48 = .ok (.iload_n 2, 1) := by decide +kernel
theorem dX6_computeChance_49 : decode cX6_computeChance 49 = .ok (.iload 6, 2) := by decide +kernel
theorem dX6_computeChance_51 : decode cX6_computeChance 51 = .ok (.invokestatic 43, 3) := by decide +kernel
theorem dX6_computeChance_54 : decode cX6_computeChance 54 = .ok (.iload_n 3, 1) := by decide +kernel
theorem dX6_computeChance_55 : decode cX6_computeChance 55 = .ok (.iload_n 1, 1) := by decide +kernel
theorem dX6_computeChance_56 : decode cX6_computeChance 56 = .ok (.iload 6, 2) := by decide +kernel
theorem dX6_computeChance_58 : decode cX6_computeChance 58 = .ok (.isub, 1) := by decide +kernel
theorem dX6_computeChance_59 : decode cX6_computeChance 59 = .ok (.invokestatic 43, 3) := by decide +kernel
theorem dX6_computeChance_62 : decode cX6_computeChance 62 = .ok (.lmul, 1) := by decide +kernel
theorem dX6_computeChance_63 : decode cX6_computeChance 63 = .ok (.ladd, 1) := by decide +kernel
theorem dX6_computeChance_64 : decode cX6_computeChance 64 = .ok (.lstore 4, 2) := by decide +kernel
theorem dX6_computeChance_66 : decode cX6_computeChance 66 = .ok (.iinc 6 1, 3) := by decide +kernel
theorem dX6_computeChance_69 : decode cX6_computeChance 69 = .ok (.goto (-35), 3) := by decide +kernel
theorem dX6_computeChance_72 : decode cX6_computeChance 72 = .ok (.iload_n 2, 1) := by decide +kernel
theorem dX6_computeChance_73 : decode cX6_computeChance 73 = .ok (.iload_n 3, 1) := by decide +kernel
theorem dX6_computeChance_74 : decode cX6_computeChance 74 = .ok (.iadd, 1) := by decide +kernel
theorem dX6_computeChance_75 : decode cX6_computeChance 75 = .ok (.iload_n 1, 1) := by decide +kernel
theorem dX6_computeChance_76 : decode cX6_computeChance 76 = .ok (.invokestatic 43, 3) := by decide +kernel
theorem dX6_computeChance_79 : decode cX6_computeChance 79 = .ok (.lstore 6, 2) := by decide +kernel
theorem dX6_computeChance_81 : decode cX6_computeChance 81 = .ok (.lload 4, 2) := by decide +kernel
theorem dX6_computeChance_83 : decode cX6_computeChance 83 = .ok (.lload 6, 2) := by decide +kernel
theorem dX6_computeChance_85 : decode cX6_computeChance 85 = .ok (.invokestatic 47, 3) := by decide +kernel
theorem dX6_computeChance_88 : decode cX6_computeChance 88 = .ok (.lstore 8, 2) := by decide +kernel
theorem dX6_computeChance_90 : decode cX6_computeChance 90 = .ok (.aload_n 0, 1) := by decide +kernel
theorem dX6_computeChance_91 : decode cX6_computeChance 91 = .ok (.lload 4, 2) := by decide +kernel
theorem dX6_computeChance_93 : decode cX6_computeChance 93 = .ok (.lload 8, 2) := by decide +kernel
theorem dX6_computeChance_95 : decode cX6_computeChance 95 = .ok (.ldiv, 1) := by decide +kernel
theorem dX6_computeChance_96 : decode cX6_computeChance 96 = .ok (.putfield 9, 3) := by decide +kernel
theorem dX6_computeChance_99 : decode cX6_computeChance 99 = .ok (.aload_n 0, 1) := by decide +kernel
theorem dX6_computeChance_100 : decode cX6_computeChance 100 = .ok (.lload 6, 2) := by decide +kernel
theorem dX6_computeChance_102 : decode cX6_computeChance 102 = .ok (.lload 8, 2) := by decide +kernel
theorem dX6_computeChance_104 : decode cX6_computeChance 104 = .ok (.ldiv, 1) := by decide +kernel
theorem dX6_computeChance_105 : decode cX6_computeChance 105 = .ok (.putfield 15, 3) := by decide +kernel
theorem dX6_computeChance_108 : decode cX6_computeChance 108 = .ok (.return_, 1) := by decide +kernel
theorem dX6_setsOf_0 : decode cX6_setsOf 0 = .ok (.iload_n 1, 1) := by decide +kernel
theorem dX6_setsOf_1 : decode cX6_setsOf 1 = .ok (.iload_n 0, 1) := by decide +kernel
theorem dX6_setsOf_2 : decode cX6_setsOf 2 = .ok (.iload_n 1, 1) := by decide +kernel
theorem dX6_setsOf_3 : decode cX6_setsOf 3 = .ok (.isub, 1) := by decide +kernel
theorem dX6_setsOf_4 : decode cX6_setsOf 4 = .ok (.invokestatic 51, 3) := by decide +kernel
theorem dX6_setsOf_7 : decode cX6_setsOf 7 = .ok (.istore_n 2, 1) := by decide +kernel
theorem dX6_setsOf_8 : decode cX6_setsOf 8 = .ok (.iload_n 2, 1) := by decide +kernel
theorem dX6_setsOf_9 : decode cX6_setsOf 9 = .ok (.ifCond .ge 7, 3) := by decide +kernel
theorem dX6_setsOf_12 : decode cX6_setsOf 12 = .ok (.lconst 0, 1) := by decide +kernel
theorem dX6_setsOf_13 : decode cX6_setsOf 13 = .ok (.goto 4, 3) := by decide +kernel
theorem dX6_setsOf_16 : decode cX6_setsOf 16 = .ok (.lconst 1, 1) := by decide +kernel
theorem dX6_setsOf_17 : decode cX6_setsOf 17 = .ok (.lstore_n 3, 1) := by decide +kernel
theorem dX6_setsOf_18 : decode cX6_setsOf 18 = .ok (.iconst 1, 1) := by decide +kernel
theorem dX6_setsOf_19 : decode cX6_setsOf 19 = .ok (.istore 5, 2) := by decide +kernel
theorem dX6_setsOf_21 : decode cX6_setsOf 21 = .ok (.iload 5, 2) := by decide +kernel
theorem dX6_setsOf_23 : decode cX6_setsOf 23 = .ok (.iload_n 2, 1) := by decide +kernel
theorem dX6_setsOf_24 : decode cX6_setsOf 24 = .ok (.if_icmp .gt 23, 3) := by decide +kernel
theorem dX6_setsOf_27 : decode cX6_setsOf 27 = .ok (.lload_n 3, 1) := by decide +kernel
theorem dX6_setsOf_28 : decode cX6_setsOf 28 = .ok (.iload_n 0, 1) := by decide +kernel
theorem dX6_setsOf_29 : decode cX6_setsOf 29 = .ok (.iload_n 2, 1) := by decide +kernel
theorem dX6_setsOf_30 : decode cX6_setsOf 30 = .ok (.isub, 1) := by decide +kernel
theorem dX6_setsOf_31 : decode cX6_setsOf 31 = .ok (.iload 5, 2) := by decide +kernel
theorem dX6_setsOf_33 : decode cX6_setsOf 33 = .ok (.iadd, 1) := by decide +kernel
theorem dX6_setsOf_34 : decode cX6_setsOf 34 = .ok (.i2l, 1) := by decide +kernel
theorem dX6_setsOf_35 : decode cX6_setsOf 35 = .ok (.lmul, 1) := by decide +kernel
theorem dX6_setsOf_36 : decode cX6_setsOf 36 = .ok (.iload 5, 2) := by decide +kernel
theorem dX6_setsOf_38 : decode cX6_setsOf 38 = .ok (.i2l, 1) := by decide +kernel
theorem dX6_setsOf_39 : decode cX6_setsOf 39 = .ok (.ldiv, 1) := by decide +kernel
theorem dX6_setsOf_40 : decode cX6_setsOf 40 = .ok (.lstore_n 3, 1) := by decide +kernel
theorem dX6_setsOf_41 : decode cX6_setsOf 41 = .ok (.iinc 5 1, 3) := by decide +kernel
theorem dX6_setsOf_44 : decode cX6_setsOf 44 = .ok (.goto (-23), 3) := by decide +kernel
theorem dX6_setsOf_47 : decode cX6_setsOf 47 = .ok (.lload_n 3, 1) := by decide +kernel
theorem dX6_setsOf_48 : decode cX6_setsOf 48 = .ok (.lreturn, 1) := by decide +kernel
theorem dX6_commonDivisor_0 : decode cX6_commonDivisor 0 = .ok (.lload_n 0, 1) := by decide +kernel
theorem dX6_commonDivisor_1 : decode cX6_commonDivisor 1 = .ok (.lstore 4, 2) := by decide +kernel
theorem dX6_commonDivisor_3 : decode cX6_commonDivisor 3 = .ok (.lload_n 2, 1) := by decide +kernel
theorem dX6_commonDivisor_4 : decode cX6_commonDivisor 4 = .ok (.lstore 6, 2) := by decide +kernel
theorem dX6_commonDivisor_6 : decode cX6_commonDivisor 6 = .ok (.iconst 0, 1) := by decide +kernel
theorem dX6_commonDivisor_7 : decode cX6_commonDivisor 7 = .ok (.istore 8, 2) := by decide +kernel
theorem dX6_commonDivisor_9 : decode cX6_commonDivisor 9 = .ok (.iload 8, 2) := by decide +kernel
theorem dX6_commonDivisor_11 : decode cX6_commonDivisor 11 = .ok (.sipush 1000, 3) := by decide +kernel
theorem dX6_commonDivisor_14 : decode cX6_commonDivisor 14 = .ok (.if_icmp .ge 31, 3) := by decide +kernel
theorem dX6_commonDivisor_17 : decode cX6_commonDivisor 17 = .ok (.lload 6, 2) := by decide +kernel
theorem dX6_commonDivisor_19 : decode cX6_commonDivisor 19 = .ok (.lconst 0, 1) := by decide +kernel
theorem dX6_commonDivisor_20 : decode cX6_commonDivisor 20 = .ok (.lcmp, 1) := by decide +kernel
theorem dX6_commonDivisor_21 : decode cX6_commonDivisor 21 = .ok (.ifCond .eq 24, 3) := by decide +kernel
theorem dX6_commonDivisor_24 : decode cX6_commonDivisor 24 = .ok (.lload 4, 2) := by decide +kernel
theorem dX6_commonDivisor_26 : decode cX6_commonDivisor 26 = .ok (.lload 6, 2) := by decide +kernel
theorem dX6_commonDivisor_28 : decode cX6_commonDivisor 28 = .ok (.lrem, 1) := by decide +kernel
theorem dX6_commonDivisor_29 : decode cX6_commonDivisor 29 = .ok (.lstore 9, 2) := by decide +kernel
theorem dX6_commonDivisor_31 : decode cX6_commonDivisor 31 = .ok (.lload 6, 2) := by decide +kernel
theorem dX6_commonDivisor_33 : decode cX6_commonDivisor 33 = .ok (.lstore 4, 2) := by decide +kernel
theorem dX6_commonDivisor_35 : decode cX6_commonDivisor 35 = .ok (.lload 9, 2) := by decide +kernel
theorem dX6_commonDivisor_37 : decode cX6_commonDivisor 37 = .ok (.lstore 6, 2) := by decide +kernel
theorem dX6_commonDivisor_39 : decode cX6_commonDivisor 39 = .ok (.iinc 8 1, 3) := by decide +kernel
theorem dX6_commonDivisor_42 : decode cX6_commonDivisor 42 = .ok (.goto (-33), 3) := by decide +kernel
theorem dX6_commonDivisor_45 : decode cX6_commonDivisor 45 = .ok (.lload 4, 2) := by decide +kernel
theorem dX6_commonDivisor_47 : decode cX6_commonDivisor 47 = .ok (.lconst 1, 1) := by decide +kernel
theorem dX6_commonDivisor_48 : decode cX6_commonDivisor 48 = .ok (.invokestatic 57, 3) := by decide +kernel
theorem dX6_commonDivisor_51 : decode cX6_commonDivisor 51 = .ok (.lreturn, 1) := by decide +kernel
theorem dX7_init_0 : decode cX7_init 0 = .ok (.aload_n 0, 1) := by decide +kernel
theorem dX7_init_1 : decode cX7_init 1 = .ok (.invokespecial 1, 3) := by decide +kernel
theorem dX7_init_4 : decode cX7_init 4 = .ok (.aload_n 0, 1) := by decide +kernel
theorem dX7_init_5 : decode cX7_init 5 = .ok (.new 7, 3) := by decide +kernel
theorem dX7_init_8 : decode cX7_init 8 = .ok (.dup, 1) := by decide +kernel
theorem dX7_init_9 : decode cX7_init 9 = .ok (.iconst 0, 1) := by decide +kernel
theorem dX7_init_10 : decode cX7_init 10 = .ok (.invokespecial 9, 3) := by decide +kernel
theorem dX7_init_13 : decode cX7_init 13 = .ok (.putfield 12, 3) := by decide +kernel
theorem dX7_init_16 : decode cX7_init 16 = .ok (.aload_n 0, 1) := by decide +kernel
theorem dX7_init_17 : decode cX7_init 17 = .ok (.new 7, 3) := by decide +kernel
theorem dX7_init_20 : decode cX7_init 20 = .ok (.dup, 1) := by decide +kernel
theorem dX7_init_21 : decode cX7_init 21 = .ok (.iconst 1, 1) := by decide +kernel
theorem dX7_init_22 : decode cX7_init 22 = .ok (.invokespecial 9, 3) := by decide +kernel
theorem dX7_init_25 : decode cX7_init 25 = .ok (.putfield 18, 3) := by decide +kernel
theorem dX7_init_28 : decode cX7_init 28 = .ok (.aload_n 0, 1) := by decide +kernel
theorem dX7_init_29 : decode cX7_init 29 = .ok (.iconst 2, 1) := by decide +kernel
theorem dX7_init_30 : decode cX7_init 30 = .ok (.anewarray 7, 3) := by decide +kernel
theorem dX7_init_33 : decode cX7_init 33 = .ok (.putfield 21, 3) := by decide +kernel
theorem dX7_init_36 : decode cX7_init 36 = .ok (.aload_n 0, 1) := by decide +kernel
theorem dX7_init_37 : decode cX7_init 37 = .ok (.iconst 2, 1) := by decide +kernel
theorem dX7_init_38 : decode cX7_init 38 = .ok (.newarray .boolean, 2) := by decide +kernel
theorem dX7_init_40 : decode cX7_init 40 = .ok (.putfield 25, 3) := by decide +kernel
theorem dX7_init_43 : decode cX7_init 43 = .ok (.iconst 0, 1) := by decide +kernel
theorem dX7_init_44 : decode cX7_init 44 = .ok (.istore_n 1, 1) := by decide +kernel
theorem dX7_init_45 : decode cX7_init 45 = .ok (.iload_n 1, 1) := by decide +kernel
theorem dX7_init_46 : decode cX7_init 46 = .ok (.iconst 2, 1) := by decide +kernel
theorem dX7_init_47 : decode cX7_init 47 = .ok (.if_icmp .ge 23, 3) := by decide +kernel
theorem dX7_init_50 : decode cX7_init 50 = .ok (.aload_n 0, 1) := by decide +kernel
theorem dX7_init_51 : decode cX7_init 51 = .ok (.getfield 21, 3) := by decide +kernel
theorem dX7_init_54 : decode cX7_init 54 = .ok (.iload_n 1, 1) := by decide +kernel
end
section
theorem dX7_init_55 : decode cX7_init 55 = .ok (.new 7, 3) := by decide +kernel
theorem dX7_init_58 : decode cX7_init 58 = .ok (.dup, 1) := by decide +kernel
theorem dX7_init_59 : decode cX7_init 59 = .ok (.iconst 0, 1) := by decide +kernel
theorem dX7_init_60 : decode cX7_init 60 = .ok (.invokespecial 9, 3) := by decide +kernel
theorem dX7_init_63 : decode cX7_init 63 = .ok (.aastore, 1) := by decide +kernel
theorem dX7_init_64 : decode cX7_init 64 = .ok (.iinc 1 1, 3) := by decide +kernel
theorem dX7_init_67 : decode cX7_init 67 = .ok (.goto (-22), 3) := by decide +kernel
theorem dX7_init_70 : decode cX7_init 70 = .ok (.aload_n 0, 1) := by decide +kernel
theorem dX7_init_71 : decode cX7_init 71 = .ok (.new 29, 3) := by decide +kernel
theorem dX7_init_74 : decode cX7_init 74 = .ok (.dup, 1) := by decide +kernel
theorem dX7_init_75 : decode cX7_init 75 = .ok (.invokespecial 31, 3) := by decide +kernel
theorem dX7_init_78 : decode cX7_init 78 = .ok (.putfield 32, 3) := by decide +kernel
theorem dX7_init_81 : decode cX7_init 81 = .ok (.return_, 1) := by decide +kernel
theorem dX7_begin_0 : decode cX7_begin 0 = .ok (.iload_n 1, 1) := by decide +kernel
theorem dX7_begin_1 : decode cX7_begin 1 = .ok (.iconst 1, 1) := by decide +kernel
theorem dX7_begin_2 : decode cX7_begin 2 = .ok (.bipush 8, 2) := by decide +kernel
theorem dX7_begin_4 : decode cX7_begin 4 = .ok (.invokestatic 36, 3) := by decide +kernel
theorem dX7_begin_7 : decode cX7_begin 7 = .ok (.ifCond .ne 6, 3) := by decide +kernel
theorem dX7_begin_10 : decode cX7_begin 10 = .ok (.bipush (-12), 2) := by decide +kernel
theorem dX7_begin_12 : decode cX7_begin 12 = .ok (.ireturn, 1) := by decide +kernel
theorem dX7_begin_13 : decode cX7_begin 13 = .ok (.aload_n 0, 1) := by decide +kernel
theorem dX7_begin_14 : decode cX7_begin 14 = .ok (.getfield 12, 3) := by decide +kernel
theorem dX7_begin_17 : decode cX7_begin 17 = .ok (.getfield 40, 3) := by decide +kernel
theorem dX7_begin_20 : decode cX7_begin 20 = .ok (.istore_n 2, 1) := by decide +kernel
theorem dX7_begin_21 : decode cX7_begin 21 = .ok (.aload_n 0, 1) := by decide +kernel
theorem dX7_begin_22 : decode cX7_begin 22 = .ok (.getfield 12, 3) := by decide +kernel
theorem dX7_begin_25 : decode cX7_begin 25 = .ok (.iload_n 1, 1) := by decide +kernel
theorem dX7_begin_26 : decode cX7_begin 26 = .ok (.invokevirtual 44, 3) := by decide +kernel
theorem dX7_begin_29 : decode cX7_begin 29 = .ok (.iload_n 2, 1) := by decide +kernel
theorem dX7_begin_30 : decode cX7_begin 30 = .ok (.ireturn, 1) := by decide +kernel
theorem dX7_setLimit_0 : decode cX7_setLimit 0 = .ok (.iload_n 1, 1) := by decide +kernel
theorem dX7_setLimit_1 : decode cX7_setLimit 1 = .ok (.iconst 0, 1) := by decide +kernel
theorem dX7_setLimit_2 : decode cX7_setLimit 2 = .ok (.sipush 1000, 3) := by decide +kernel
theorem dX7_setLimit_5 : decode cX7_setLimit 5 = .ok (.invokestatic 36, 3) := by decide +kernel
theorem dX7_setLimit_8 : decode cX7_setLimit 8 = .ok (.ifCond .ne 6, 3) := by decide +kernel
theorem dX7_setLimit_11 : decode cX7_setLimit 11 = .ok (.bipush (-12), 2) := by decide +kernel
theorem dX7_setLimit_13 : decode cX7_setLimit 13 = .ok (.ireturn, 1) := by decide +kernel
theorem dX7_setLimit_14 : decode cX7_setLimit 14 = .ok (.aload_n 0, 1) := by decide +kernel
theorem dX7_setLimit_15 : decode cX7_setLimit 15 = .ok (.getfield 12, 3) := by decide +kernel
theorem dX7_setLimit_18 : decode cX7_setLimit 18 = .ok (.getfield 48, 3) := by decide +kernel
theorem dX7_setLimit_21 : decode cX7_setLimit 21 = .ok (.istore_n 2, 1) := by decide +kernel
theorem dX7_setLimit_22 : decode cX7_setLimit 22 = .ok (.aload_n 0, 1) := by decide +kernel
theorem dX7_setLimit_23 : decode cX7_setLimit 23 = .ok (.getfield 12, 3) := by decide +kernel
theorem dX7_setLimit_26 : decode cX7_setLimit 26 = .ok (.iload_n 1, 1) := by decide +kernel
theorem dX7_setLimit_27 : decode cX7_setLimit 27 = .ok (.putfield 48, 3) := by decide +kernel
theorem dX7_setLimit_30 : decode cX7_setLimit 30 = .ok (.iload_n 2, 1) := by decide +kernel
theorem dX7_setLimit_31 : decode cX7_setLimit 31 = .ok (.ireturn, 1) := by decide +kernel
theorem dX7_freeze_0 : decode cX7_freeze 0 = .ok (.iload_n 1, 1) := by decide +kernel
theorem dX7_freeze_1 : decode cX7_freeze 1 = .ok (.iconst 0, 1) := by decide +kernel
theorem dX7_freeze_2 : decode cX7_freeze 2 = .ok (.sipush 167, 3) := by decide +kernel
theorem dX7_freeze_5 : decode cX7_freeze 5 = .ok (.invokestatic 36, 3) := by decide +kernel
theorem dX7_freeze_8 : decode cX7_freeze 8 = .ok (.ifCond .eq 16, 3) := by decide +kernel
theorem dX7_freeze_11 : decode cX7_freeze 11 = .ok (.iload_n 2, 1) := by decide +kernel
theorem dX7_freeze_12 : decode cX7_freeze 12 = .ok (.iload_n 1, 1) := by decide +kernel
theorem dX7_freeze_13 : decode cX7_freeze 13 = .ok (.iconst 1, 1) := by decide +kernel
theorem dX7_freeze_14 : decode cX7_freeze 14 = .ok (.iadd, 1) := by decide +kernel
theorem dX7_freeze_15 : decode cX7_freeze 15 = .ok (.sipush 168, 3) := by decide +kernel
theorem dX7_freeze_18 : decode cX7_freeze 18 = .ok (.invokestatic 36, 3) := by decide +kernel
theorem dX7_freeze_21 : decode cX7_freeze 21 = .ok (.ifCond .ne 6, 3) := by decide +kernel
theorem dX7_freeze_24 : decode cX7_freeze 24 = .ok (.bipush (-12), 2) := by decide +kernel
theorem dX7_freeze_26 : decode cX7_freeze 26 = .ok (.ireturn, 1) := by decide +kernel
theorem dX7_freeze_27 : decode cX7_freeze 27 = .ok (.aload_n 0, 1) := by decide +kernel
theorem dX7_freeze_28 : decode cX7_freeze 28 = .ok (.getfield 12, 3) := by decide +kernel
theorem dX7_freeze_31 : decode cX7_freeze 31 = .ok (.getfield 51, 3) := by decide +kernel
theorem dX7_freeze_34 : decode cX7_freeze 34 = .ok (.iload_n 1, 1) := by decide +kernel
theorem dX7_freeze_35 : decode cX7_freeze 35 = .ok (.iload_n 2, 1) := by decide +kernel
theorem dX7_freeze_36 : decode cX7_freeze 36 = .ok (.invokevirtual 55, 3) := by decide +kernel
theorem dX7_freeze_39 : decode cX7_freeze 39 = .ok (.ifCond .eq 16, 3) := by decide +kernel
theorem dX7_freeze_42 : decode cX7_freeze 42 = .ok (.aload_n 0, 1) := by decide +kernel
theorem dX7_freeze_43 : decode cX7_freeze 43 = .ok (.getfield 12, 3) := by decide +kernel
theorem dX7_freeze_46 : decode cX7_freeze 46 = .ok (.getfield 51, 3) := by decide +kernel
theorem dX7_freeze_49 : decode cX7_freeze 49 = .ok (.getfield 61, 3) := by decide +kernel
theorem dX7_freeze_52 : decode cX7_freeze 52 = .ok (.goto 5, 3) := by decide +kernel
theorem dX7_freeze_55 : decode cX7_freeze 55 = .ok (.bipush (-14), 2) := by decide +kernel
theorem dX7_freeze_57 : decode cX7_freeze 57 = .ok (.ireturn, 1) := by decide +kernel
theorem dX7_thaw_0 : decode cX7_thaw 0 = .ok (.aload_n 0, 1) := by decide +kernel
theorem dX7_thaw_1 : decode cX7_thaw 1 = .ok (.getfield 12, 3) := by decide +kernel
theorem dX7_thaw_4 : decode cX7_thaw 4 = .ok (.getfield 51, 3) := by decide +kernel
theorem dX7_thaw_7 : decode cX7_thaw 7 = .ok (.getfield 61, 3) := by decide +kernel
theorem dX7_thaw_10 : decode cX7_thaw 10 = .ok (.istore_n 1, 1) := by decide +kernel
theorem dX7_thaw_11 : decode cX7_thaw 11 = .ok (.aload_n 0, 1) := by decide +kernel
theorem dX7_thaw_12 : decode cX7_thaw 12 = .ok (.getfield 12, 3) := by decide +kernel
theorem dX7_thaw_15 : decode cX7_thaw 15 = .ok (.getfield 51, 3) := by decide +kernel
theorem dX7_thaw_18 : decode cX7_thaw 18 = .ok (.iconst 0, 1) := by decide +kernel
theorem dX7_thaw_19 : decode cX7_thaw 19 = .ok (.putfield 61, 3) := by decide +kernel
theorem dX7_thaw_22 : decode cX7_thaw 22 = .ok (.iload_n 1, 1) := by decide +kernel
theorem dX7_thaw_23 : decode cX7_thaw 23 = .ok (.ireturn, 1) := by decide +kernel
theorem dX7_addChange_0 : decode cX7_addChange 0 = .ok (.aload_n 0, 1) := by decide +kernel
theorem dX7_addChange_1 : decode cX7_addChange 1 = .ok (.getfield 12, 3) := by decide +kernel
theorem dX7_addChange_4 : decode cX7_addChange 4 = .ok (.iload_n 1, 1) := by decide +kernel
theorem dX7_addChange_5 : decode cX7_addChange 5 = .ok (.invokevirtual 64, 3) := by decide +kernel
theorem dX7_addChange_8 : decode cX7_addChange 8 = .ok (.ifCond .eq 15, 3) := by decide +kernel
theorem dX7_addChange_11 : decode cX7_addChange 11 = .ok (.aload_n 0, 1) := by decide +kernel
theorem dX7_addChange_12 : decode cX7_addChange 12 = .ok (.getfield 12, 3) := by decide +kernel
theorem dX7_addChange_15 : decode cX7_addChange 15 = .ok (.getfield 68, 3) := by decide +kernel
theorem dX7_addChange_18 : decode cX7_addChange 18 = .ok (.iconst 1, 1) := by decide +kernel
theorem dX7_addChange_19 : decode cX7_addChange 19 = .ok (.isub, 1) := by decide +kernel
theorem dX7_addChange_20 : decode cX7_addChange 20 = .ok (.goto 5, 3) := by decide +kernel
theorem dX7_addChange_23 : decode cX7_addChange 23 = .ok (.bipush (-14), 2) := by decide +kernel
theorem dX7_addChange_25 : decode cX7_addChange 25 = .ok (.ireturn, 1) := by decide +kernel
theorem dX7_addStage_0 : decode cX7_addStage 0 = .ok (.aload_n 0, 1) := by decide +kernel
theorem dX7_addStage_1 : decode cX7_addStage 1 = .ok (.getfield 12, 3) := by decide +kernel
theorem dX7_addStage_4 : decode cX7_addStage 4 = .ok (.iload_n 1, 1) := by decide +kernel
theorem dX7_addStage_5 : decode cX7_addStage 5 = .ok (.invokevirtual 69, 3) := by decide +kernel
theorem dX7_addStage_8 : decode cX7_addStage 8 = .ok (.astore 5, 2) := by decide +kernel
theorem dX7_addStage_10 : decode cX7_addStage 10 = .ok (.aload 5, 2) := by decide +kernel
theorem dX7_addStage_12 : decode cX7_addStage 12 = .ok (.ifnonnull 6, 3) := by decide +kernel
theorem dX7_addStage_15 : decode cX7_addStage 15 = .ok (.bipush (-11), 2) := by decide +kernel
theorem dX7_addStage_17 : decode cX7_addStage 17 = .ok (.ireturn, 1) := by decide +kernel
theorem dX7_addStage_18 : decode cX7_addStage 18 = .ok (.iload_n 2, 1) := by decide +kernel
theorem dX7_addStage_19 : decode cX7_addStage 19 = .ok (.iconst 1, 1) := by decide +kernel
theorem dX7_addStage_20 : decode cX7_addStage 20 = .ok (.aload_n 0, 1) := by decide +kernel
theorem dX7_addStage_21 : decode cX7_addStage 21 = .ok (.getfield 12, 3) := by decide +kernel
theorem dX7_addStage_24 : decode cX7_addStage 24 = .ok (.invokevirtual 73, 3) := by decide +kernel
theorem dX7_addStage_27 : decode cX7_addStage 27 = .ok (.invokestatic 36, 3) := by decide +kernel
theorem dX7_addStage_30 : decode cX7_addStage 30 = .ok (.ifCond .eq 24, 3) := by decide +kernel
theorem dX7_addStage_33 : decode cX7_addStage 33 = .ok (.iload_n 3, 1) := by decide +kernel
theorem dX7_addStage_34 : decode cX7_addStage 34 = .ok (.iconst 0, 1) := by decide +kernel
theorem dX7_addStage_35 : decode cX7_addStage 35 = .ok (.bipush 48, 2) := by decide +kernel
theorem dX7_addStage_37 : decode cX7_addStage 37 = .ok (.invokestatic 36, 3) := by decide +kernel
theorem dX7_addStage_40 : decode cX7_addStage 40 = .ok (.ifCond .eq 14, 3) := by decide +kernel
theorem dX7_addStage_43 : decode cX7_addStage 43 = .ok (.iload 4, 2) := by decide +kernel
theorem dX7_addStage_45 : decode cX7_addStage 45 = .ok (.iconst 0, 1) := by decide +kernel
theorem dX7_addStage_46 : decode cX7_addStage 46 = .ok (.bipush 25, 2) := by decide +kernel
theorem dX7_addStage_48 : decode cX7_addStage 48 = .ok (.invokestatic 36, 3) := by decide +kernel
theorem dX7_addStage_51 : decode cX7_addStage 51 = .ok (.ifCond .ne 6, 3) := by decide +kernel
theorem dX7_addStage_54 : decode cX7_addStage 54 = .ok (.bipush (-12), 2) := by decide +kernel
theorem dX7_addStage_56 : decode cX7_addStage 56 = .ok (.ireturn, 1) := by decide +kernel
theorem dX7_addStage_57 : decode cX7_addStage 57 = .ok (.aload 5, 2) := by decide +kernel
theorem dX7_addStage_59 : decode cX7_addStage 59 = .ok (.getfield 77, 3) := by decide +kernel
theorem dX7_addStage_62 : decode cX7_addStage 62 = .ok (.ifCond .ne 18, 3) := by decide +kernel
theorem dX7_addStage_65 : decode cX7_addStage 65 = .ok (.aload 5, 2) := by decide +kernel
theorem dX7_addStage_67 : decode cX7_addStage 67 = .ok (.getfield 82, 3) := by decide +kernel
theorem dX7_addStage_70 : decode cX7_addStage 70 = .ok (.bipush 6, 2) := by decide +kernel
theorem dX7_addStage_72 : decode cX7_addStage 72 = .ok (.invokevirtual 86, 3) := by decide +kernel
theorem dX7_addStage_75 : decode cX7_addStage 75 = .ok (.iload_n 2, 1) := by decide +kernel
theorem dX7_addStage_76 : decode cX7_addStage 76 = .ok (.iand, 1) := by decide +kernel
theorem dX7_addStage_77 : decode cX7_addStage 77 = .ok (.ifCond .eq 6, 3) := by decide +kernel
theorem dX7_addStage_80 : decode cX7_addStage 80 = .ok (.bipush (-13), 2) := by decide +kernel
theorem dX7_addStage_82 : decode cX7_addStage 82 = .ok (.ireturn, 1) := by decide +kernel
theorem dX7_addStage_83 : decode cX7_addStage 83 = .ok (.aload 5, 2) := by decide +kernel
theorem dX7_addStage_85 : decode cX7_addStage 85 = .ok (.getfield 82, 3) := by decide +kernel
theorem dX7_addStage_88 : decode cX7_addStage 88 = .ok (.iload_n 2, 1) := by decide +kernel
theorem dX7_addStage_89 : decode cX7_addStage 89 = .ok (.iload_n 3, 1) := by decide +kernel
theorem dX7_addStage_90 : decode cX7_addStage 90 = .ok (.iload 4, 2) := by decide +kernel
theorem dX7_addStage_92 : decode cX7_addStage 92 = .ok (.invokevirtual 92, 3) := by decide +kernel
theorem dX7_addStage_95 : decode cX7_addStage 95 = .ok (.ifCond .eq 14, 3) := by decide +kernel
theorem dX7_addStage_98 : decode cX7_addStage 98 = .ok (.aload 5, 2) := by decide +kernel
theorem dX7_addStage_100 : decode cX7_addStage 100 = .ok (.getfield 82, 3) := by decide +kernel
theorem dX7_addStage_103 : decode cX7_addStage 103 = .ok (.getfield 94, 3) := by decide +kernel
theorem dX7_addStage_106 : decode cX7_addStage 106 = .ok (.goto 5, 3) := by decide +kernel
theorem dX7_addStage_109 : decode cX7_addStage 109 = .ok (.bipush (-14), 2) := by decide +kernel
theorem dX7_addStage_111 : decode cX7_addStage 111 = .ok (.ireturn, 1) := by decide +kernel
theorem dX7_putAfter_0 : decode cX7_putAfter 0 = .ok (.aload_n 0, 1) := by decide +kernel
theorem dX7_putAfter_1 : decode cX7_putAfter 1 = .ok (.getfield 12, 3) := by decide +kernel
theorem dX7_putAfter_4 : decode cX7_putAfter 4 = .ok (.iload_n 1, 1) := by decide +kernel
theorem dX7_putAfter_5 : decode cX7_putAfter 5 = .ok (.invokevirtual 69, 3) := by decide +kernel
theorem dX7_putAfter_8 : decode cX7_putAfter 8 = .ok (.astore_n 3, 1) := by decide +kernel
theorem dX7_putAfter_9 : decode cX7_putAfter 9 = .ok (.aload_n 3, 1) := by decide +kernel
theorem dX7_putAfter_10 : decode cX7_putAfter 10 = .ok (.ifnull 14, 3) := by decide +kernel
theorem dX7_putAfter_13 : decode cX7_putAfter 13 = .ok (.iload_n 2, 1) := by decide +kernel
theorem dX7_putAfter_14 : decode cX7_putAfter 14 = .ok (.iconst 0, 1) := by decide +kernel
theorem dX7_putAfter_15 : decode cX7_putAfter 15 = .ok (.iload_n 1, 1) := by decide +kernel
theorem dX7_putAfter_16 : decode cX7_putAfter 16 = .ok (.iconst 1, 1) := by decide +kernel
theorem dX7_putAfter_17 : decode cX7_putAfter 17 = .ok (.isub, 1) := by decide +kernel
theorem dX7_putAfter_18 : decode cX7_putAfter 18 = .ok (.invokestatic 36, 3) := by decide +kernel
theorem dX7_putAfter_21 : decode cX7_putAfter 21 = .ok (.ifCond .ne 6, 3) := by decide +kernel
theorem dX7_putAfter_24 : decode cX7_putAfter 24 = .ok (.bipush (-11), 2) := by decide +kernel
theorem dX7_putAfter_26 : decode cX7_putAfter 26 = .ok (.ireturn, 1) := by decide +kernel
theorem dX7_putAfter_27 : decode cX7_putAfter 27 = .ok (.aload_n 3, 1) := by decide +kernel
theorem dX7_putAfter_28 : decode cX7_putAfter 28 = .ok (.getfield 77, 3) := by decide +kernel
theorem dX7_putAfter_31 : decode cX7_putAfter 31 = .ok (.ifCond .eq 6, 3) := by decide +kernel
theorem dX7_putAfter_34 : decode cX7_putAfter 34 = .ok (.bipush (-13), 2) := by decide +kernel
theorem dX7_putAfter_36 : decode cX7_putAfter 36 = .ok (.ireturn, 1) := by decide +kernel
theorem dX7_putAfter_37 : decode cX7_putAfter 37 = .ok (.aload_n 3, 1) := by decide +kernel
theorem dX7_putAfter_38 : decode cX7_putAfter 38 = .ok (.dup, 1) := by decide +kernel
theorem dX7_putAfter_39 : decode cX7_putAfter 39 = .ok (.getfield 95, 3) := by decide +kernel
theorem dX7_putAfter_42 : decode cX7_putAfter 42 = .ok (.iconst 1, 1) := by decide +kernel
theorem dX7_putAfter_43 : decode cX7_putAfter 43 = .ok (.iload_n 2, 1) := by decide +kernel
theorem dX7_putAfter_44 : decode cX7_putAfter 44 = .ok (.ishl, 1) := by decide +kernel
theorem dX7_putAfter_45 : decode cX7_putAfter 45 = .ok (.ior, 1) := by decide +kernel
theorem dX7_putAfter_46 : decode cX7_putAfter 46 = .ok (.putfield 95, 3) := by decide +kernel
theorem dX7_putAfter_49 : decode cX7_putAfter 49 = .ok (.aload_n 3, 1) := by decide +kernel
theorem dX7_putAfter_50 : decode cX7_putAfter 50 = .ok (.getfield 95, 3) := by decide +kernel
theorem dX7_putAfter_53 : decode cX7_putAfter 53 = .ok (.invokestatic 98, 3) := by decide +kernel
theorem dX7_putAfter_56 : decode cX7_putAfter 56 = .ok (.ireturn, 1) := by decide +kernel
theorem dX7_changes_0 : decode cX7_changes 0 = .ok (.aload_n 0, 1) := by decide +kernel
theorem dX7_changes_1 : decode cX7_changes 1 = .ok (.getfield 12, 3) := by decide +kernel
theorem dX7_changes_4 : decode cX7_changes 4 = .ok (.getfield 68, 3) := by decide +kernel
theorem dX7_changes_7 : decode cX7_changes 7 = .ok (.ireturn, 1) := by decide +kernel
theorem dX7_stage_0 : decode cX7_stage 0 = .ok (.aload_n 0, 1) := by decide +kernel
theorem dX7_stage_1 : decode cX7_stage 1 = .ok (.getfield 12, 3) := by decide +kernel
theorem dX7_stage_4 : decode cX7_stage 4 = .ok (.iload_n 1, 1) := by decide +kernel
theorem dX7_stage_5 : decode cX7_stage 5 = .ok (.invokevirtual 69, 3) := by decide +kernel
theorem dX7_stage_8 : decode cX7_stage 8 = .ok (.astore 4, 2) := by decide +kernel
theorem dX7_stage_10 : decode cX7_stage 10 = .ok (.aload 4, 2) := by decide +kernel
theorem dX7_stage_12 : decode cX7_stage 12 = .ok (.ifnull 21, 3) := by decide +kernel
theorem dX7_stage_15 : decode cX7_stage 15 = .ok (.iload_n 2, 1) := by decide +kernel
theorem dX7_stage_16 : decode cX7_stage 16 = .ok (.iconst 0, 1) := by decide +kernel
theorem dX7_stage_17 : decode cX7_stage 17 = .ok (.aload 4, 2) := by decide +kernel
theorem dX7_stage_19 : decode cX7_stage 19 = .ok (.getfield 82, 3) := by decide +kernel
theorem dX7_stage_22 : decode cX7_stage 22 = .ok (.getfield 94, 3) := by decide +kernel
theorem dX7_stage_25 : decode cX7_stage 25 = .ok (.iconst 1, 1) := by decide +kernel
theorem dX7_stage_26 : decode cX7_stage 26 = .ok (.isub, 1) := by decide +kernel
theorem dX7_stage_27 : decode cX7_stage 27 = .ok (.invokestatic 36, 3) := by decide +kernel
theorem dX7_stage_30 : decode cX7_stage 30 = .ok (.ifCond .ne 6, 3) := by decide +kernel
theorem dX7_stage_33 : decode cX7_stage 33 = .ok (.bipush (-11), 2) := by decide +kernel
theorem dX7_stage_35 : decode cX7_stage 35 = .ok (.ireturn, 1) := by decide +kernel
theorem dX7_stage_36 : decode cX7_stage 36 = .ok (.iload_n 3, 1) := by decide +kernel
theorem dX7_stage_37 : decode cX7_stage 37 = .ok (.iconst 0, 1) := by decide +kernel
theorem dX7_stage_38 : decode cX7_stage 38 = .ok (.iconst 2, 1) := by decide +kernel
theorem dX7_stage_39 : decode cX7_stage 39 = .ok (.invokestatic 36, 3) := by decide +kernel
theorem dX7_stage_42 : decode cX7_stage 42 = .ok (.ifCond .ne 6, 3) := by decide +kernel
theorem dX7_stage_45 : decode cX7_stage 45 = .ok (.bipush (-12), 2) := by decide +kernel
theorem dX7_stage_47 : decode cX7_stage 47 = .ok (.ireturn, 1) := by decide +kernel
theorem dX7_stage_48 : decode cX7_stage 48 = .ok (.aload 4, 2) := by decide +kernel
theorem dX7_stage_50 : decode cX7_stage 50 = .ok (.getfield 82, 3) := by decide +kernel
theorem dX7_stage_53 : decode cX7_stage 53 = .ok (.iload_n 2, 1) := by decide +kernel
theorem dX7_stage_54 : decode cX7_stage 54 = .ok (.iload_n 3, 1) := by decide +kernel
theorem dX7_stage_55 : decode cX7_stage 55 = .ok (.invokevirtual 103, 3) := by decide +kernel
theorem dX7_stage_58 : decode cX7_stage 58 = .ok (.ireturn, 1) := by decide +kernel
theorem dX7_append_0 : decode cX7_append 0 = .ok (.iload_n 1, 1) := by decide +kernel
theorem dX7_append_1 : decode cX7_append 1 = .ok (.iconst 0, 1) := by decide +kernel
theorem dX7_append_2 : decode cX7_append 2 = .ok (.bipush 127, 2) := by decide +kernel
theorem dX7_append_4 : decode cX7_append 4 = .ok (.invokestatic 36, 3) := by decide +kernel
theorem dX7_append_7 : decode cX7_append 7 = .ok (.ifCond .ne 6, 3) := by decide +kernel
theorem dX7_append_10 : decode cX7_append 10 = .ok (.bipush (-12), 2) := by decide +kernel
theorem dX7_append_12 : decode cX7_append 12 = .ok (.ireturn, 1) := by decide +kernel
theorem dX7_append_13 : decode cX7_append 13 = .ok (.aload_n 0, 1) := by decide +kernel
theorem dX7_append_14 : decode cX7_append 14 = .ok (.getfield 32, 3) := by decide +kernel
theorem dX7_append_17 : decode cX7_append 17 = .ok (.iload_n 1, 1) := by decide +kernel
theorem dX7_append_18 : decode cX7_append 18 = .ok (.invokevirtual 107, 3) := by decide +kernel
theorem dX7_append_21 : decode cX7_append 21 = .ok (.ifCond .eq 13, 3) := by decide +kernel
theorem dX7_append_24 : decode cX7_append 24 = .ok (.aload_n 0, 1) := by decide +kernel
theorem dX7_append_25 : decode cX7_append 25 = .ok (.getfield 32, 3) := by decide +kernel
theorem dX7_append_28 : decode cX7_append 28 = .ok (.getfield 110, 3) := by decide +kernel
theorem dX7_append_31 : decode cX7_append 31 = .ok (.goto 5, 3) := by decide +kernel
theorem dX7_append_34 : decode cX7_append 34 = .ok (.bipush (-14), 2) := by decide +kernel
theorem dX7_append_36 : decode cX7_append 36 = .ok (.ireturn, 1) := by decide +kernel
theorem dX7_clearText_0 : decode cX7_clearText 0 = .ok (.aload_n 0, 1) := by decide +kernel
theorem dX7_clearText_1 : decode cX7_clearText 1 = .ok (.getfield 32, 3) := by decide +kernel
theorem dX7_clearText_4 : decode cX7_clearText 4 = .ok (.getfield 110, 3) := by decide +kernel
theorem dX7_clearText_7 : decode cX7_clearText 7 = .ok (.istore_n 1, 1) := by decide +kernel
theorem dX7_clearText_8 : decode cX7_clearText 8 = .ok (.aload_n 0, 1) := by decide +kernel
theorem dX7_clearText_9 : decode cX7_clearText 9 = .ok (.getfield 32, 3) := by decide +kernel
theorem dX7_clearText_12 : decode cX7_clearText 12 = .ok (.iconst 0, 1) := by decide +kernel
theorem dX7_clearText_13 : decode cX7_clearText 13 = .ok (.putfield 110, 3) := by decide +kernel
theorem dX7_clearText_16 : decode cX7_clearText 16 = .ok (.iload_n 1, 1) := by decide +kernel
theorem dX7_clearText_17 : decode cX7_clearText 17 = .ok (.ireturn, 1) := by decide +kernel
theorem dX7_faultPosition_0 : decode cX7_faultPosition 0 = .ok (.aload_n 0, 1) := by decide +kernel
theorem dX7_faultPosition_1 : decode cX7_faultPosition 1 = .ok (.getfield 32, 3) := by decide +kernel
theorem dX7_faultPosition_4 : decode cX7_faultPosition 4 = .ok (.aload_n 0, 1) := by decide +kernel
theorem dX7_faultPosition_5 : decode cX7_faultPosition 5 = .ok (.getfield 12, 3) := by decide +kernel
theorem dX7_faultPosition_8 : decode cX7_faultPosition 8 = .ok (.getfield 40, 3) := by decide +kernel
theorem dX7_faultPosition_11 : decode cX7_faultPosition 11 = .ok (.invokevirtual 113, 3) := by decide +kernel
theorem dX7_faultPosition_14 : decode cX7_faultPosition 14 = .ok (.ifCond .eq 8, 3) := by decide +kernel
theorem dX7_faultPosition_17 : decode cX7_faultPosition 17 = .ok (.bipush (-15), 2) := by decide +kernel
theorem dX7_faultPosition_19 : decode cX7_faultPosition 19 = .ok (.goto 10, 3) := by decide +kernel
theorem dX7_faultPosition_22 : decode cX7_faultPosition 22 = .ok (.aload_n 0, 1) := by decide +kernel
theorem dX7_faultPosition_23 : decode cX7_faultPosition 23 = .ok (.getfield 32, 3) := by decide +kernel
theorem dX7_faultPosition_26 : decode cX7_faultPosition 26 = .ok (.getfield 116, 3) := by decide +kernel
theorem dX7_faultPosition_29 : decode cX7_faultPosition 29 = .ok (.ireturn, 1) := by decide +kernel
theorem dX7_read_0 : decode cX7_read 0 = .ok (.aload_n 0, 1) := by decide +kernel
theorem dX7_read_1 : decode cX7_read 1 = .ok (.getfield 12, 3) := by decide +kernel
theorem dX7_read_4 : decode cX7_read 4 = .ok (.iload_n 1, 1) := by decide +kernel
theorem dX7_read_5 : decode cX7_read 5 = .ok (.invokevirtual 69, 3) := by decide +kernel
theorem dX7_read_8 : decode cX7_read 8 = .ok (.astore_n 2, 1) := by decide +kernel
theorem dX7_read_9 : decode cX7_read 9 = .ok (.aload_n 2, 1) := by decide +kernel
theorem dX7_read_10 : decode cX7_read 10 = .ok (.ifnonnull 6, 3) := by decide +kernel
theorem dX7_read_13 : decode cX7_read 13 = .ok (.bipush (-11), 2) := by decide +kernel
theorem dX7_read_15 : decode cX7_read 15 = .ok (.ireturn, 1) := by decide +kernel
theorem dX7_read_16 : decode cX7_read 16 = .ok (.aload_n 2, 1) := by decide +kernel
theorem dX7_read_17 : decode cX7_read 17 = .ok (.getfield 77, 3) := by decide +kernel
theorem dX7_read_20 : decode cX7_read 20 = .ok (.ifCond .ne 20, 3) := by decide +kernel
theorem dX7_read_23 : decode cX7_read 23 = .ok (.aload_n 0, 1) := by decide +kernel
theorem dX7_read_24 : decode cX7_read 24 = .ok (.getfield 32, 3) := by decide +kernel
theorem dX7_read_27 : decode cX7_read 27 = .ok (.aload_n 0, 1) := by decide +kernel
theorem dX7_read_28 : decode cX7_read 28 = .ok (.getfield 12, 3) := by decide +kernel
theorem dX7_read_31 : decode cX7_read 31 = .ok (.getfield 40, 3) := by decide +kernel
theorem dX7_read_34 : decode cX7_read 34 = .ok (.invokevirtual 113, 3) := by decide +kernel
theorem dX7_read_37 : decode cX7_read 37 = .ok (.ifCond .ne 6, 3) := by decide +kernel
theorem dX7_read_40 : decode cX7_read 40 = .ok (.bipush (-13), 2) := by decide +kernel
theorem dX7_read_42 : decode cX7_read 42 = .ok (.ireturn, 1) := by decide +kernel
theorem dX7_read_43 : decode cX7_read 43 = .ok (.aload_n 2, 1) := by decide +kernel
theorem dX7_read_44 : decode cX7_read 44 = .ok (.getfield 82, 3) := by decide +kernel
theorem dX7_read_47 : decode cX7_read 47 = .ok (.aload_n 0, 1) := by decide +kernel
theorem dX7_read_48 : decode cX7_read 48 = .ok (.getfield 32, 3) := by decide +kernel
theorem dX7_read_51 : decode cX7_read 51 = .ok (.getfield 119, 3) := by decide +kernel
theorem dX7_read_54 : decode cX7_read 54 = .ok (.invokevirtual 120, 3) := by decide +kernel
theorem dX7_read_57 : decode cX7_read 57 = .ok (.aload_n 2, 1) := by decide +kernel
theorem dX7_read_58 : decode cX7_read 58 = .ok (.getfield 82, 3) := by decide +kernel
theorem dX7_read_61 : decode cX7_read 61 = .ok (.getfield 94, 3) := by decide +kernel
theorem dX7_read_64 : decode cX7_read 64 = .ok (.ireturn, 1) := by decide +kernel
theorem dX7_start_0 : decode cX7_start 0 = .ok (.aload_n 0, 1) := by decide +kernel
theorem dX7_start_1 : decode cX7_start 1 = .ok (.getfield 12, 3) := by decide +kernel
theorem dX7_start_4 : decode cX7_start 4 = .ok (.iload_n 1, 1) := by decide +kernel
theorem dX7_start_5 : decode cX7_start 5 = .ok (.invokevirtual 69, 3) := by decide +kernel
theorem dX7_start_8 : decode cX7_start 8 = .ok (.astore_n 2, 1) := by decide +kernel
theorem dX7_start_9 : decode cX7_start 9 = .ok (.aload_n 2, 1) := by decide +kernel
theorem dX7_start_10 : decode cX7_start 10 = .ok (.ifnonnull 6, 3) := by decide +kernel
theorem dX7_start_13 : decode cX7_start 13 = .ok (.bipush (-11), 2) := by decide +kernel
theorem dX7_start_15 : decode cX7_start 15 = .ok (.ireturn, 1) := by decide +kernel
theorem dX7_start_16 : decode cX7_start 16 = .ok (.aload_n 2, 1) := by decide +kernel
theorem dX7_start_17 : decode cX7_start 17 = .ok (.getfield 77, 3) := by decide +kernel
theorem dX7_start_20 : decode cX7_start 20 = .ok (.ifCond .ne 13, 3) := by decide +kernel
theorem dX7_start_23 : decode cX7_start 23 = .ok (.aload_n 2, 1) := by decide +kernel
theorem dX7_start_24 : decode cX7_start 24 = .ok (.getfield 82, 3) := by decide +kernel
theorem dX7_start_27 : decode cX7_start 27 = .ok (.getfield 94, 3) := by decide +kernel
theorem dX7_start_30 : decode cX7_start 30 = .ok (.ifCond .ne 6, 3) := by decide +kernel
theorem dX7_start_33 : decode cX7_start 33 = .ok (.bipush (-13), 2) := by decide +kernel
theorem dX7_start_35 : decode cX7_start 35 = .ok (.ireturn, 1) := by decide +kernel
theorem dX7_start_36 : decode cX7_start 36 = .ok (.aload_n 2, 1) := by decide +kernel
theorem dX7_start_37 : decode cX7_start 37 = .ok (.iconst 1, 1) := by decide +kernel
theorem dX7_start_38 : decode cX7_start 38 = .ok (.putfield 77, 3) := by decide +kernel
theorem dX7_start_41 : decode cX7_start 41 = .ok (.aload_n 2, 1) := by decide +kernel
theorem dX7_start_42 : decode cX7_start 42 = .ok (.getfield 82, 3) := by decide +kernel
theorem dX7_start_45 : decode cX7_start 45 = .ok (.getfield 94, 3) := by decide +kernel
theorem dX7_start_48 : decode cX7_start 48 = .ok (.ireturn, 1) := by decide +kernel
theorem dX7_hold_0 : decode cX7_hold 0 = .ok (.aload_n 0, 1) := by decide +kernel
theorem dX7_hold_1 : decode cX7_hold 1 = .ok (.iload_n 1, 1) := by decide +kernel
theorem dX7_hold_2 : decode cX7_hold 2 = .ok (.iconst 2, 1) := by decide +kernel
theorem dX7_hold_3 : decode cX7_hold 3 = .ok (.iconst 2, 1) := by decide +kernel
theorem dX7_hold_4 : decode cX7_hold 4 = .ok (.bipush 6, 2) := by decide +kernel
theorem dX7_hold_6 : decode cX7_hold 6 = .ok (.invokevirtual 124, 3) := by decide +kernel
theorem dX7_hold_9 : decode cX7_hold 9 = .ok (.ireturn, 1) := by decide +kernel
theorem dX7_resume_0 : decode cX7_resume 0 = .ok (.aload_n 0, 1) := by decide +kernel
theorem dX7_resume_1 : decode cX7_resume 1 = .ok (.iload_n 1, 1) := by decide +kernel
theorem dX7_resume_2 : decode cX7_resume 2 = .ok (.iconst 4, 1) := by decide +kernel
theorem dX7_resume_3 : decode cX7_resume 3 = .ok (.iconst 1, 1) := by decide +kernel
theorem dX7_resume_4 : decode cX7_resume 4 = .ok (.bipush 7, 2) := by decide +kernel
theorem dX7_resume_6 : decode cX7_resume 6 = .ok (.invokevirtual 124, 3) := by decide +kernel
theorem dX7_resume_9 : decode cX7_resume 9 = .ok (.ireturn, 1) := by decide +kernel
theorem dX7_turnBack_0 : decode cX7_turnBack 0 = .ok (.aload_n 0, 1) := by decide +kernel
theorem dX7_turnBack_1 : decode cX7_turnBack 1 = .ok (.iload_n 1, 1) := by decide +kernel
theorem dX7_turnBack_2 : decode cX7_turnBack 2 = .ok (.bipush 14, 2) := by decide +kernel
theorem dX7_turnBack_4 : decode cX7_turnBack 4 = .ok (.iconst 4, 1) := by decide +kernel
theorem dX7_turnBack_5 : decode cX7_turnBack 5 = .ok (.iconst 3, 1) := by decide +kernel
theorem dX7_turnBack_6 : decode cX7_turnBack 6 = .ok (.invokevirtual 124, 3) := by decide +kernel
theorem dX7_turnBack_9 : decode cX7_turnBack 9 = .ok (.ireturn, 1) := by decide +kernel
theorem dX7_move_0 : decode cX7_move 0 = .ok (.aload_n 0, 1) := by decide +kernel
theorem dX7_move_1 : decode cX7_move 1 = .ok (.getfield 12, 3) := by decide +kernel
theorem dX7_move_4 : decode cX7_move 4 = .ok (.iload_n 1, 1) := by decide +kernel
theorem dX7_move_5 : decode cX7_move 5 = .ok (.invokevirtual 69, 3) := by decide +kernel
theorem dX7_move_8 : decode cX7_move 8 = .ok (.astore 5, 2) := by decide +kernel
theorem dX7_move_10 : decode cX7_move 10 = .ok (.aload 5, 2) := by decide +kernel
theorem dX7_move_12 : decode cX7_move 12 = .ok (.ifnonnull 6, 3) := by decide +kernel
theorem dX7_move_15 : decode cX7_move 15 = .ok (.bipush (-11), 2) := by decide +kernel
theorem dX7_move_17 : decode cX7_move 17 = .ok (.ireturn, 1) := by decide +kernel
theorem dX7_move_18 : decode cX7_move 18 = .ok (.iload_n 2, 1) := by decide +kernel
theorem dX7_move_19 : decode cX7_move 19 = .ok (.aload 5, 2) := by decide +kernel
theorem dX7_move_21 : decode cX7_move 21 = .ok (.getfield 77, 3) := by decide +kernel
theorem dX7_move_24 : decode cX7_move 24 = .ok (.ishr, 1) := by decide +kernel
theorem dX7_move_25 : decode cX7_move 25 = .ok (.iconst 1, 1) := by decide +kernel
theorem dX7_move_26 : decode cX7_move 26 = .ok (.iand, 1) := by decide +kernel
theorem dX7_move_27 : decode cX7_move 27 = .ok (.ifCond .ne 6, 3) := by decide +kernel
theorem dX7_move_30 : decode cX7_move 30 = .ok (.bipush (-13), 2) := by decide +kernel
theorem dX7_move_32 : decode cX7_move 32 = .ok (.ireturn, 1) := by decide +kernel
theorem dX7_move_33 : decode cX7_move 33 = .ok (.aload_n 0, 1) := by decide +kernel
theorem dX7_move_34 : decode cX7_move 34 = .ok (.getfield 12, 3) := by decide +kernel
theorem dX7_move_37 : decode cX7_move 37 = .ok (.aload 5, 2) := by decide +kernel
theorem dX7_move_39 : decode cX7_move 39 = .ok (.iload_n 3, 1) := by decide +kernel
theorem dX7_move_40 : decode cX7_move 40 = .ok (.iload 4, 2) := by decide +kernel
theorem dX7_move_42 : decode cX7_move 42 = .ok (.invokevirtual 128, 3) := by decide +kernel
theorem dX7_move_45 : decode cX7_move 45 = .ok (.aload 5, 2) := by decide +kernel
theorem dX7_move_47 : decode cX7_move 47 = .ok (.getfield 132, 3) := by decide +kernel
theorem dX7_move_50 : decode cX7_move 50 = .ok (.ireturn, 1) := by decide +kernel
theorem dX7_report_0 : decode cX7_report 0 = .ok (.aload_n 0, 1) := by decide +kernel
theorem dX7_report_1 : decode cX7_report 1 = .ok (.getfield 12, 3) := by decide +kernel
theorem dX7_report_4 : decode cX7_report 4 = .ok (.iload_n 1, 1) := by decide +kernel
theorem dX7_report_5 : decode cX7_report 5 = .ok (.invokevirtual 135, 3) := by decide +kernel
theorem dX7_report_8 : decode cX7_report 8 = .ok (.ifCond .ne 6, 3) := by decide +kernel
theorem dX7_report_11 : decode cX7_report 11 = .ok (.bipush (-11), 2) := by decide +kernel
theorem dX7_report_13 : decode cX7_report 13 = .ok (.ireturn, 1) := by decide +kernel
theorem dX7_report_14 : decode cX7_report 14 = .ok (.iload_n 2, 1) := by decide +kernel
theorem dX7_report_15 : decode cX7_report 15 = .ok (.iconst 0, 1) := by decide +kernel
theorem dX7_report_16 : decode cX7_report 16 = .ok (.bipush 9, 2) := by decide +kernel
theorem dX7_report_18 : decode cX7_report 18 = .ok (.invokestatic 36, 3) := by decide +kernel
theorem dX7_report_21 : decode cX7_report 21 = .ok (.ifCond .eq 13, 3) := by decide +kernel
theorem dX7_report_24 : decode cX7_report 24 = .ok (.iload_n 3, 1) := by decide +kernel
theorem dX7_report_25 : decode cX7_report 25 = .ok (.iconst 0, 1) := by decide +kernel
theorem dX7_report_26 : decode cX7_report 26 = .ok (.bipush 9, 2) := by decide +kernel
theorem dX7_report_28 : decode cX7_report 28 = .ok (.invokestatic 36, 3) := by decide +kernel
theorem dX7_report_31 : decode cX7_report 31 = .ok (.ifCond .ne 6, 3) := by decide +kernel
theorem dX7_report_34 : decode cX7_report 34 = .ok (.bipush (-12), 2) := by decide +kernel
theorem dX7_report_36 : decode cX7_report 36 = .ok (.ireturn, 1) := by decide +kernel
theorem dX7_report_37 : decode cX7_report 37 = .ok (.aload_n 0, 1) := by decide +kernel
theorem dX7_report_38 : decode cX7_report 38 = .ok (.getfield 12, 3) := by decide +kernel
theorem dX7_report_41 : decode cX7_report 41 = .ok (.iload_n 1, 1) := by decide +kernel
theorem dX7_report_42 : decode cX7_report 42 = .ok (.iload_n 2, 1) := by decide +kernel
theorem dX7_report_43 : decode cX7_report 43 = .ok (.iload_n 3, 1) := by decide +kernel
theorem dX7_report_44 : decode cX7_report 44 = .ok (.invokevirtual 138, 3) := by decide +kernel
theorem dX7_report_47 : decode cX7_report 47 = .ok (.ireturn, 1) := by decide +kernel
theorem dX7_pass_0 : decode cX7_pass 0 = .ok (.iload_n 1, 1) := by decide +kernel
theorem dX7_pass_1 : decode cX7_pass 1 = .ok (.iconst 1, 1) := by decide +kernel
theorem dX7_pass_2 : decode cX7_pass 2 = .ok (.bipush 100, 2) := by decide +kernel
theorem dX7_pass_4 : decode cX7_pass 4 = .ok (.invokestatic 36, 3) := by decide +kernel
theorem dX7_pass_7 : decode cX7_pass 7 = .ok (.ifCond .ne 6, 3) := by decide +kernel
theorem dX7_pass_10 : decode cX7_pass 10 = .ok (.bipush (-12), 2) := by decide +kernel
theorem dX7_pass_12 : decode cX7_pass 12 = .ok (.ireturn, 1) := by decide +kernel
theorem dX7_pass_13 : decode cX7_pass 13 = .ok (.aload_n 0, 1) := by decide +kernel
theorem dX7_pass_14 : decode cX7_pass 14 = .ok (.getfield 12, 3) := by decide +kernel
theorem dX7_pass_17 : decode cX7_pass 17 = .ok (.getfield 142, 3) := by decide +kernel
theorem dX7_pass_20 : decode cX7_pass 20 = .ok (.getfield 146, 3) := by decide +kernel
theorem dX7_pass_23 : decode cX7_pass 23 = .ok (.istore_n 2, 1) := by decide +kernel
theorem dX7_pass_24 : decode cX7_pass 24 = .ok (.iconst 0, 1) := by decide +kernel
theorem dX7_pass_25 : decode cX7_pass 25 = .ok (.istore_n 3, 1) := by decide +kernel
theorem dX7_pass_26 : decode cX7_pass 26 = .ok (.iload_n 3, 1) := by decide +kernel
theorem dX7_pass_27 : decode cX7_pass 27 = .ok (.iload_n 1, 1) := by decide +kernel
theorem dX7_pass_28 : decode cX7_pass 28 = .ok (.if_icmp .ge 16, 3) := by decide +kernel
theorem dX7_pass_31 : decode cX7_pass 31 = .ok (.aload_n 0, 1) := by decide +kernel
theorem dX7_pass_32 : decode cX7_pass 32 = .ok (.getfield 12, 3) := by decide +kernel
theorem dX7_pass_35 : decode cX7_pass 35 = .ok (.invokevirtual 151, 3) := by decide +kernel
theorem dX7_pass_38 : decode cX7_pass 38 = .ok (.iinc 3 1, 3) := by decide +kernel
theorem dX7_pass_41 : decode cX7_pass 41 = .ok (.goto (-15), 3) := by decide +kernel
theorem dX7_pass_44 : decode cX7_pass 44 = .ok (.aload_n 0, 1) := by decide +kernel
theorem dX7_pass_45 : decode cX7_pass 45 = .ok (.getfield 12, 3) := by decide +kernel
theorem dX7_pass_48 : decode cX7_pass 48 = .ok (.getfield 142, 3) := by decide +kernel
theorem dX7_pass_51 : decode cX7_pass 51 = .ok (.getfield 146, 3) := by decide +kernel
theorem dX7_pass_54 : decode cX7_pass 54 = .ok (.iload_n 2, 1) := by decide +kernel
theorem dX7_pass_55 : decode cX7_pass 55 = .ok (.isub, 1) := by decide +kernel
theorem dX7_pass_56 : decode cX7_pass 56 = .ok (.ireturn, 1) := by decide +kernel
theorem dX7_time_0 : decode cX7_time 0 = .ok (.aload_n 0, 1) := by decide +kernel
theorem dX7_time_1 : decode cX7_time 1 = .ok (.getfield 12, 3) := by decide +kernel
theorem dX7_time_4 : decode cX7_time 4 = .ok (.getfield 154, 3) := by decide +kernel
theorem dX7_time_7 : decode cX7_time 7 = .ok (.ireturn, 1) := by decide +kernel
theorem dX7_change_0 : decode cX7_change 0 = .ok (.aload_n 0, 1) := by decide +kernel
theorem dX7_change_1 : decode cX7_change 1 = .ok (.getfield 12, 3) := by decide +kernel
theorem dX7_change_4 : decode cX7_change 4 = .ok (.iload_n 1, 1) := by decide +kernel
theorem dX7_change_5 : decode cX7_change 5 = .ok (.invokevirtual 69, 3) := by decide +kernel
theorem dX7_change_8 : decode cX7_change 8 = .ok (.astore_n 3, 1) := by decide +kernel
theorem dX7_change_9 : decode cX7_change 9 = .ok (.aload_n 3, 1) := by decide +kernel
theorem dX7_change_10 : decode cX7_change 10 = .ok (.ifnonnull 6, 3) := by decide +kernel
theorem dX7_change_13 : decode cX7_change 13 = .ok (.bipush (-11), 2) := by decide +kernel
theorem dX7_change_15 : decode cX7_change 15 = .ok (.ireturn, 1) := by decide +kernel
theorem dX7_change_16 : decode cX7_change 16 = .ok (.iload_n 2, 1) := by decide +kernel
theorem dX7_change_17 : decode cX7_change 17 = .ok (.tableswitch 100 0 6 #[43, 48, 56, 61, 73, 82, 87], 43) := by decide +kernel
theorem dX7_change_60 : decode cX7_change 60 = .ok (.aload_n 3, 1) := by decide +kernel
theorem dX7_change_61 : decode cX7_change 61 = .ok (.getfield 77, 3) := by decide +kernel
theorem dX7_change_64 : decode cX7_change 64 = .ok (.ireturn, 1) := by decide +kernel
theorem dX7_change_65 : decode cX7_change 65 = .ok (.aload_n 3, 1) := by decide +kernel
theorem dX7_change_66 : decode cX7_change 66 = .ok (.getfield 82, 3) := by decide +kernel
theorem dX7_change_69 : decode cX7_change 69 = .ok (.getfield 94, 3) := by decide +kernel
theorem dX7_change_72 : decode cX7_change 72 = .ok (.ireturn, 1) := by decide +kernel
theorem dX7_change_73 : decode cX7_change 73 = .ok (.aload_n 3, 1) := by decide +kernel
theorem dX7_change_74 : decode cX7_change 74 = .ok (.getfield 132, 3) := by decide +kernel
theorem dX7_change_77 : decode cX7_change 77 = .ok (.ireturn, 1) := by decide +kernel
theorem dX7_change_78 : decode cX7_change 78 = .ok (.aload_n 3, 1) := by decide +kernel
theorem dX7_change_79 : decode cX7_change 79 = .ok (.aload_n 0, 1) := by decide +kernel
theorem dX7_change_80 : decode cX7_change 80 = .ok (.getfield 12, 3) := by decide +kernel
theorem dX7_change_83 : decode cX7_change 83 = .ok (.getfield 154, 3) := by decide +kernel
theorem dX7_change_86 : decode cX7_change 86 = .ok (.invokevirtual 157, 3) := by decide +kernel
theorem dX7_change_89 : decode cX7_change 89 = .ok (.ireturn, 1) := by decide +kernel
theorem dX7_change_90 : decode cX7_change 90 = .ok (.aload_n 0, 1) := by decide +kernel
theorem dX7_change_91 : decode cX7_change 91 = .ok (.getfield 12, 3) := by decide +kernel
theorem dX7_change_94 : decode cX7_change 94 = .ok (.aload_n 3, 1) := by decide +kernel
theorem dX7_change_95 : decode cX7_change 95 = .ok (.invokevirtual 160, 3) := by decide +kernel
theorem dX7_change_98 : decode cX7_change 98 = .ok (.ireturn, 1) := by decide +kernel
theorem dX7_change_99 : decode cX7_change 99 = .ok (.aload_n 3, 1) := by decide +kernel
theorem dX7_change_100 : decode cX7_change 100 = .ok (.getfield 95, 3) := by decide +kernel
theorem dX7_change_103 : decode cX7_change 103 = .ok (.ireturn, 1) := by decide +kernel
theorem dX7_change_104 : decode cX7_change 104 = .ok (.aload_n 3, 1) := by decide +kernel
theorem dX7_change_105 : decode cX7_change 105 = .ok (.getfield 164, 3) := by decide +kernel
theorem dX7_change_108 : decode cX7_change 108 = .ok (.ifCond .eq 7, 3) := by decide +kernel
theorem dX7_change_111 : decode cX7_change 111 = .ok (.iconst 1, 1) := by decide +kernel
theorem dX7_change_112 : decode cX7_change 112 = .ok (.goto 4, 3) := by decide +kernel
theorem dX7_change_115 : decode cX7_change 115 = .ok (.iconst 0, 1) := by decide +kernel
theorem dX7_change_116 : decode cX7_change 116 = .ok (.ireturn, 1) := by decide +kernel
theorem dX7_change_117 : decode cX7_change 117 = .ok (.bipush (-12), 2) := by decide +kernel
theorem dX7_change_119 : decode cX7_change 119 = .ok (.ireturn, 1) := by decide +kernel
theorem dX7_probes_0 : decode cX7_probes 0 = .ok (.aload_n 0, 1) := by decide +kernel
theorem dX7_probes_1 : decode cX7_probes 1 = .ok (.getfield 12, 3) := by decide +kernel
theorem dX7_probes_4 : decode cX7_probes 4 = .ok (.iload_n 1, 1) := by decide +kernel
theorem dX7_probes_5 : decode cX7_probes 5 = .ok (.invokevirtual 69, 3) := by decide +kernel
theorem dX7_probes_8 : decode cX7_probes 8 = .ok (.astore_n 3, 1) := by decide +kernel
theorem dX7_probes_9 : decode cX7_probes 9 = .ok (.aload_n 3, 1) := by decide +kernel
theorem dX7_probes_10 : decode cX7_probes 10 = .ok (.ifnonnull 6, 3) := by decide +kernel
theorem dX7_probes_13 : decode cX7_probes 13 = .ok (.bipush (-11), 2) := by decide +kernel
theorem dX7_probes_15 : decode cX7_probes 15 = .ok (.ireturn, 1) := by decide +kernel
theorem dX7_probes_16 : decode cX7_probes 16 = .ok (.iload_n 2, 1) := by decide +kernel
theorem dX7_probes_17 : decode cX7_probes 17 = .ok (.tableswitch 63 0 3 #[31, 39, 47, 55], 31) := by decide +kernel
theorem dX7_probes_48 : decode cX7_probes 48 = .ok (.aload_n 3, 1) := by decide +kernel
theorem dX7_probes_49 : decode cX7_probes 49 = .ok (.getfield 168, 3) := by decide +kernel
theorem dX7_probes_52 : decode cX7_probes 52 = .ok (.getfield 172, 3) := by decide +kernel
theorem dX7_probes_55 : decode cX7_probes 55 = .ok (.ireturn, 1) := by decide +kernel
theorem dX7_probes_56 : decode cX7_probes 56 = .ok (.aload_n 3, 1) := by decide +kernel
theorem dX7_probes_57 : decode cX7_probes 57 = .ok (.getfield 168, 3) := by decide +kernel
theorem dX7_probes_60 : decode cX7_probes 60 = .ok (.getfield 177, 3) := by decide +kernel
theorem dX7_probes_63 : decode cX7_probes 63 = .ok (.ireturn, 1) := by decide +kernel
theorem dX7_probes_64 : decode cX7_probes 64 = .ok (.aload_n 3, 1) := by decide +kernel
theorem dX7_probes_65 : decode cX7_probes 65 = .ok (.getfield 168, 3) := by decide +kernel
theorem dX7_probes_68 : decode cX7_probes 68 = .ok (.getfield 180, 3) := by decide +kernel
theorem dX7_probes_71 : decode cX7_probes 71 = .ok (.ireturn, 1) := by decide +kernel
theorem dX7_probes_72 : decode cX7_probes 72 = .ok (.aload_n 3, 1) := by decide +kernel
theorem dX7_probes_73 : decode cX7_probes 73 = .ok (.getfield 168, 3) := by decide +kernel
theorem dX7_probes_76 : decode cX7_probes 76 = .ok (.getfield 183, 3) := by decide +kernel
theorem dX7_probes_79 : decode cX7_probes 79 = .ok (.ireturn, 1) := by decide +kernel
theorem dX7_probes_80 : decode cX7_probes 80 = .ok (.bipush (-12), 2) := by decide +kernel
theorem dX7_probes_82 : decode cX7_probes 82 = .ok (.ireturn, 1) := by decide +kernel
theorem dX7_chance_0 : decode cX7_chance 0 = .ok (.aload_n 0, 1) := by decide +kernel
theorem dX7_chance_1 : decode cX7_chance 1 = .ok (.getfield 12, 3) := by decide +kernel
theorem dX7_chance_4 : decode cX7_chance 4 = .ok (.iload_n 1, 1) := by decide +kernel
theorem dX7_chance_5 : decode cX7_chance 5 = .ok (.invokevirtual 69, 3) := by decide +kernel
theorem dX7_chance_8 : decode cX7_chance 8 = .ok (.astore_n 3, 1) := by decide +kernel
theorem dX7_chance_9 : decode cX7_chance 9 = .ok (.aload_n 3, 1) := by decide +kernel
theorem dX7_chance_10 : decode cX7_chance 10 = .ok (.ifnonnull 7, 3) := by decide +kernel
theorem dX7_chance_13 : decode cX7_chance 13 = .ok (.ldc2_w 186, 3) := by decide +kernel
theorem dX7_chance_16 : decode cX7_chance 16 = .ok (.lreturn, 1) := by decide +kernel
theorem dX7_chance_17 : decode cX7_chance 17 = .ok (.iload_n 2, 1) := by decide +kernel
theorem dX7_chance_18 : decode cX7_chance 18 = .ok (.ifCond .eq 13, 3) := by decide +kernel
theorem dX7_chance_21 : decode cX7_chance 21 = .ok (.aload_n 3, 1) := by decide +kernel
theorem dX7_chance_22 : decode cX7_chance 22 = .ok (.getfield 168, 3) := by decide +kernel
theorem dX7_chance_25 : decode cX7_chance 25 = .ok (.getfield 188, 3) := by decide +kernel
theorem dX7_chance_28 : decode cX7_chance 28 = .ok (.goto 10, 3) := by decide +kernel
theorem dX7_chance_31 : decode cX7_chance 31 = .ok (.aload_n 3, 1) := by decide +kernel
theorem dX7_chance_32 : decode cX7_chance 32 = .ok (.getfield 168, 3) := by decide +kernel
theorem dX7_chance_35 : decode cX7_chance 35 = .ok (.getfield 192, 3) := by decide +kernel
theorem dX7_chance_38 : decode cX7_chance 38 = .ok (.lreturn, 1) := by decide +kernel
theorem dX7_has_0 : decode cX7_has 0 = .ok (.aload_n 0, 1) := by decide +kernel
theorem dX7_has_1 : decode cX7_has 1 = .ok (.getfield 12, 3) := by decide +kernel
theorem dX7_has_4 : decode cX7_has 4 = .ok (.iload_n 1, 1) := by decide +kernel
theorem dX7_has_5 : decode cX7_has 5 = .ok (.invokevirtual 135, 3) := by decide +kernel
theorem dX7_has_8 : decode cX7_has 8 = .ok (.ifCond .eq 14, 3) := by decide +kernel
theorem dX7_has_11 : decode cX7_has 11 = .ok (.aload_n 0, 1) := by decide +kernel
theorem dX7_has_12 : decode cX7_has 12 = .ok (.getfield 12, 3) := by decide +kernel
theorem dX7_has_15 : decode cX7_has 15 = .ok (.iload_n 1, 1) := by decide +kernel
theorem dX7_has_16 : decode cX7_has 16 = .ok (.invokevirtual 195, 3) := by decide +kernel
theorem dX7_has_19 : decode cX7_has 19 = .ok (.goto 5, 3) := by decide +kernel
theorem dX7_has_22 : decode cX7_has 22 = .ok (.bipush (-11), 2) := by decide +kernel
theorem dX7_has_24 : decode cX7_has 24 = .ok (.ireturn, 1) := by decide +kernel
theorem dX7_isFrozen_0 : decode cX7_isFrozen 0 = .ok (.iload_n 1, 1) := by decide +kernel
theorem dX7_isFrozen_1 : decode cX7_isFrozen 1 = .ok (.iconst 0, 1) := by decide +kernel
theorem dX7_isFrozen_2 : decode cX7_isFrozen 2 = .ok (.sipush 167, 3) := by decide +kernel
theorem dX7_isFrozen_5 : decode cX7_isFrozen 5 = .ok (.invokestatic 36, 3) := by decide +kernel
theorem dX7_isFrozen_8 : decode cX7_isFrozen 8 = .ok (.ifCond .ne 6, 3) := by decide +kernel
theorem dX7_isFrozen_11 : decode cX7_isFrozen 11 = .ok (.bipush (-12), 2) := by decide +kernel
theorem dX7_isFrozen_13 : decode cX7_isFrozen 13 = .ok (.ireturn, 1) := by decide +kernel
theorem dX7_isFrozen_14 : decode cX7_isFrozen 14 = .ok (.aload_n 0, 1) := by decide +kernel
theorem dX7_isFrozen_15 : decode cX7_isFrozen 15 = .ok (.getfield 12, 3) := by decide +kernel
theorem dX7_isFrozen_18 : decode cX7_isFrozen 18 = .ok (.getfield 51, 3) := by decide +kernel
theorem dX7_isFrozen_21 : decode cX7_isFrozen 21 = .ok (.iload_n 1, 1) := by decide +kernel
theorem dX7_isFrozen_22 : decode cX7_isFrozen 22 = .ok (.invokevirtual 198, 3) := by decide +kernel
theorem dX7_isFrozen_25 : decode cX7_isFrozen 25 = .ok (.ifCond .eq 7, 3) := by decide +kernel
theorem dX7_isFrozen_28 : decode cX7_isFrozen 28 = .ok (.iconst 1, 1) := by decide +kernel
theorem dX7_isFrozen_29 : decode cX7_isFrozen 29 = .ok (.goto 4, 3) := by decide +kernel
theorem dX7_isFrozen_32 : decode cX7_isFrozen 32 = .ok (.iconst 0, 1) := by decide +kernel
theorem dX7_isFrozen_33 : decode cX7_isFrozen 33 = .ok (.ireturn, 1) := by decide +kernel
theorem dX7_forecast_0 : decode cX7_forecast 0 = .ok (.aload_n 0, 1) := by decide +kernel
theorem dX7_forecast_1 : decode cX7_forecast 1 = .ok (.getfield 12, 3) := by decide +kernel
theorem dX7_forecast_4 : decode cX7_forecast 4 = .ok (.iload_n 1, 1) := by decide +kernel
theorem dX7_forecast_5 : decode cX7_forecast 5 = .ok (.invokevirtual 69, 3) := by decide +kernel
theorem dX7_forecast_8 : decode cX7_forecast 8 = .ok (.astore_n 2, 1) := by decide +kernel
theorem dX7_forecast_9 : decode cX7_forecast 9 = .ok (.aload_n 2, 1) := by decide +kernel
theorem dX7_forecast_10 : decode cX7_forecast 10 = .ok (.ifnonnull 6, 3) := by decide +kernel
theorem dX7_forecast_13 : decode cX7_forecast 13 = .ok (.bipush (-11), 2) := by decide +kernel
theorem dX7_forecast_15 : decode cX7_forecast 15 = .ok (.ireturn, 1) := by decide +kernel
theorem dX7_forecast_16 : decode cX7_forecast 16 = .ok (.aload_n 2, 1) := by decide +kernel
theorem dX7_forecast_17 : decode cX7_forecast 17 = .ok (.getfield 77, 3) := by decide +kernel
theorem dX7_forecast_20 : decode cX7_forecast 20 = .ok (.ifCond .eq 11, 3) := by decide +kernel
theorem dX7_forecast_23 : decode cX7_forecast 23 = .ok (.aload_n 2, 1) := by decide +kernel
theorem dX7_forecast_24 : decode cX7_forecast 24 = .ok (.getfield 77, 3) := by decide +kernel
theorem dX7_forecast_27 : decode cX7_forecast 27 = .ok (.iconst 2, 1) := by decide +kernel
theorem dX7_forecast_28 : decode cX7_forecast 28 = .ok (.if_icmp .ne 6, 3) := by decide +kernel
theorem dX7_forecast_31 : decode cX7_forecast 31 = .ok (.bipush (-15), 2) := by decide +kernel
theorem dX7_forecast_33 : decode cX7_forecast 33 = .ok (.ireturn, 1) := by decide +kernel
theorem dX7_forecast_34 : decode cX7_forecast 34 = .ok (.aload_n 0, 1) := by decide +kernel
theorem dX7_forecast_35 : decode cX7_forecast 35 = .ok (.getfield 18, 3) := by decide +kernel
theorem dX7_forecast_38 : decode cX7_forecast 38 = .ok (.aload_n 0, 1) := by decide +kernel
theorem dX7_forecast_39 : decode cX7_forecast 39 = .ok (.getfield 12, 3) := by decide +kernel
theorem dX7_forecast_42 : decode cX7_forecast 42 = .ok (.invokevirtual 201, 3) := by decide +kernel
theorem dX7_forecast_45 : decode cX7_forecast 45 = .ok (.iconst 0, 1) := by decide +kernel
theorem dX7_forecast_46 : decode cX7_forecast 46 = .ok (.istore_n 3, 1) := by decide +kernel
theorem dX7_forecast_47 : decode cX7_forecast 47 = .ok (.iload_n 3, 1) := by decide +kernel
theorem dX7_forecast_48 : decode cX7_forecast 48 = .ok (.sipush 400, 3) := by decide +kernel
theorem dX7_forecast_51 : decode cX7_forecast 51 = .ok (.if_icmp .gt 29, 3) := by decide +kernel
theorem dX7_forecast_54 : decode cX7_forecast 54 = .ok (.aload_n 0, 1) := by decide +kernel
theorem dX7_forecast_55 : decode cX7_forecast 55 = .ok (.getfield 18, 3) := by decide +kernel
theorem dX7_forecast_58 : decode cX7_forecast 58 = .ok (.iload_n 1, 1) := by decide +kernel
theorem dX7_forecast_59 : decode cX7_forecast 59 = .ok (.invokevirtual 204, 3) := by decide +kernel
theorem dX7_forecast_62 : decode cX7_forecast 62 = .ok (.ifCond .eq 5, 3) := by decide +kernel
theorem dX7_forecast_65 : decode cX7_forecast 65 = .ok (.iload_n 3, 1) := by decide +kernel
theorem dX7_forecast_66 : decode cX7_forecast 66 = .ok (.ireturn, 1) := by decide +kernel
theorem dX7_forecast_67 : decode cX7_forecast 67 = .ok (.aload_n 0, 1) := by decide +kernel
theorem dX7_forecast_68 : decode cX7_forecast 68 = .ok (.getfield 18, 3) := by decide +kernel
theorem dX7_forecast_71 : decode cX7_forecast 71 = .ok (.invokevirtual 151, 3) := by decide +kernel
theorem dX7_forecast_74 : decode cX7_forecast 74 = .ok (.iinc 3 1, 3) := by decide +kernel
theorem dX7_forecast_77 : decode cX7_forecast 77 = .ok (.goto (-30), 3) := by decide +kernel
theorem dX7_forecast_80 : decode cX7_forecast 80 = .ok (.bipush (-15), 2) := by decide +kernel
theorem dX7_forecast_82 : decode cX7_forecast 82 = .ok (.ireturn, 1) := by decide +kernel
theorem dX7_entries_0 : decode cX7_entries 0 = .ok (.aload_n 0, 1) := by decide +kernel
theorem dX7_entries_1 : decode cX7_entries 1 = .ok (.getfield 12, 3) := by decide +kernel
theorem dX7_entries_4 : decode cX7_entries 4 = .ok (.getfield 142, 3) := by decide +kernel
theorem dX7_entries_7 : decode cX7_entries 7 = .ok (.getfield 207, 3) := by decide +kernel
theorem dX7_entries_10 : decode cX7_entries 10 = .ok (.ireturn, 1) := by decide +kernel
theorem dX7_entry_0 : decode cX7_entry 0 = .ok (.iload_n 1, 1) := by decide +kernel
theorem dX7_entry_1 : decode cX7_entry 1 = .ok (.iconst 0, 1) := by decide +kernel
theorem dX7_entry_2 : decode cX7_entry 2 = .ok (.aload_n 0, 1) := by decide +kernel
theorem dX7_entry_3 : decode cX7_entry 3 = .ok (.getfield 12, 3) := by decide +kernel
theorem dX7_entry_6 : decode cX7_entry 6 = .ok (.getfield 142, 3) := by decide +kernel
theorem dX7_entry_9 : decode cX7_entry 9 = .ok (.getfield 207, 3) := by decide +kernel
theorem dX7_entry_12 : decode cX7_entry 12 = .ok (.iconst 1, 1) := by decide +kernel
theorem dX7_entry_13 : decode cX7_entry 13 = .ok (.isub, 1) := by decide +kernel
theorem dX7_entry_14 : decode cX7_entry 14 = .ok (.invokestatic 36, 3) := by decide +kernel
theorem dX7_entry_17 : decode cX7_entry 17 = .ok (.ifCond .ne 6, 3) := by decide +kernel
theorem dX7_entry_20 : decode cX7_entry 20 = .ok (.bipush (-11), 2) := by decide +kernel
theorem dX7_entry_22 : decode cX7_entry 22 = .ok (.ireturn, 1) := by decide +kernel
theorem dX7_entry_23 : decode cX7_entry 23 = .ok (.iload_n 2, 1) := by decide +kernel
theorem dX7_entry_24 : decode cX7_entry 24 = .ok (.iconst 0, 1) := by decide +kernel
theorem dX7_entry_25 : decode cX7_entry 25 = .ok (.iconst 3, 1) := by decide +kernel
theorem dX7_entry_26 : decode cX7_entry 26 = .ok (.invokestatic 36, 3) := by decide +kernel
theorem dX7_entry_29 : decode cX7_entry 29 = .ok (.ifCond .ne 6, 3) := by decide +kernel
theorem dX7_entry_32 : decode cX7_entry 32 = .ok (.bipush (-12), 2) := by decide +kernel
theorem dX7_entry_34 : decode cX7_entry 34 = .ok (.ireturn, 1) := by decide +kernel
theorem dX7_entry_35 : decode cX7_entry 35 = .ok (.aload_n 0, 1) := by decide +kernel
theorem dX7_entry_36 : decode cX7_entry 36 = .ok (.getfield 12, 3) := by decide +kernel
theorem dX7_entry_39 : decode cX7_entry 39 = .ok (.getfield 142, 3) := by decide +kernel
theorem dX7_entry_42 : decode cX7_entry 42 = .ok (.iload_n 1, 1) := by decide +kernel
theorem dX7_entry_43 : decode cX7_entry 43 = .ok (.iload_n 2, 1) := by decide +kernel
theorem dX7_entry_44 : decode cX7_entry 44 = .ok (.invokevirtual 208, 3) := by decide +kernel
theorem dX7_entry_47 : decode cX7_entry 47 = .ok (.ireturn, 1) := by decide +kernel
theorem dX7_count_0 : decode cX7_count 0 = .ok (.iload_n 1, 1) := by decide +kernel
theorem dX7_count_1 : decode cX7_count 1 = .ok (.iconst 1, 1) := by decide +kernel
theorem dX7_count_2 : decode cX7_count 2 = .ok (.bipush 7, 2) := by decide +kernel
theorem dX7_count_4 : decode cX7_count 4 = .ok (.invokestatic 36, 3) := by decide +kernel
theorem dX7_count_7 : decode cX7_count 7 = .ok (.ifCond .ne 6, 3) := by decide +kernel
theorem dX7_count_10 : decode cX7_count 10 = .ok (.bipush (-12), 2) := by decide +kernel
theorem dX7_count_12 : decode cX7_count 12 = .ok (.ireturn, 1) := by decide +kernel
theorem dX7_count_13 : decode cX7_count 13 = .ok (.iload_n 2, 1) := by decide +kernel
theorem dX7_count_14 : decode cX7_count 14 = .ok (.iconst (-1), 1) := by decide +kernel
theorem dX7_count_15 : decode cX7_count 15 = .ok (.aload_n 0, 1) := by decide +kernel
theorem dX7_count_16 : decode cX7_count 16 = .ok (.getfield 12, 3) := by decide +kernel
theorem dX7_count_19 : decode cX7_count 19 = .ok (.getfield 68, 3) := by decide +kernel
theorem dX7_count_22 : decode cX7_count 22 = .ok (.iconst 1, 1) := by decide +kernel
theorem dX7_count_23 : decode cX7_count 23 = .ok (.isub, 1) := by decide +kernel
theorem dX7_count_24 : decode cX7_count 24 = .ok (.invokestatic 36, 3) := by decide +kernel
theorem dX7_count_27 : decode cX7_count 27 = .ok (.ifCond .ne 6, 3) := by decide +kernel
theorem dX7_count_30 : decode cX7_count 30 = .ok (.bipush (-11), 2) := by decide +kernel
theorem dX7_count_32 : decode cX7_count 32 = .ok (.ireturn, 1) := by decide +kernel
theorem dX7_count_33 : decode cX7_count 33 = .ok (.aload_n 0, 1) := by decide +kernel
theorem dX7_count_34 : decode cX7_count 34 = .ok (.getfield 12, 3) := by decide +kernel
theorem dX7_count_37 : decode cX7_count 37 = .ok (.getfield 142, 3) := by decide +kernel
theorem dX7_count_40 : decode cX7_count 40 = .ok (.iload_n 1, 1) := by decide +kernel
theorem dX7_count_41 : decode cX7_count 41 = .ok (.iload_n 2, 1) := by decide +kernel
theorem dX7_count_42 : decode cX7_count 42 = .ok (.invokevirtual 209, 3) := by decide +kernel
theorem dX7_count_45 : decode cX7_count 45 = .ok (.ireturn, 1) := by decide +kernel
theorem dX7_save_0 : decode cX7_save 0 = .ok (.iload_n 1, 1) := by decide +kernel
theorem dX7_save_1 : decode cX7_save 1 = .ok (.iconst 0, 1) := by decide +kernel
theorem dX7_save_2 : decode cX7_save 2 = .ok (.iconst 1, 1) := by decide +kernel
theorem dX7_save_3 : decode cX7_save 3 = .ok (.invokestatic 36, 3) := by decide +kernel
theorem dX7_save_6 : decode cX7_save 6 = .ok (.ifCond .ne 6, 3) := by decide +kernel
theorem dX7_save_9 : decode cX7_save 9 = .ok (.bipush (-11), 2) := by decide +kernel
theorem dX7_save_11 : decode cX7_save 11 = .ok (.ireturn, 1) := by decide +kernel
theorem dX7_save_12 : decode cX7_save 12 = .ok (.aload_n 0, 1) := by decide +kernel
theorem dX7_save_13 : decode cX7_save 13 = .ok (.getfield 21, 3) := by decide +kernel
theorem dX7_save_16 : decode cX7_save 16 = .ok (.iload_n 1, 1) := by decide +kernel
theorem dX7_save_17 : decode cX7_save 17 = .ok (.aaload, 1) := by decide +kernel
theorem dX7_save_18 : decode cX7_save 18 = .ok (.aload_n 0, 1) := by decide +kernel
theorem dX7_save_19 : decode cX7_save 19 = .ok (.getfield 12, 3) := by decide +kernel
theorem dX7_save_22 : decode cX7_save 22 = .ok (.invokevirtual 201, 3) := by decide +kernel
theorem dX7_save_25 : decode cX7_save 25 = .ok (.aload_n 0, 1) := by decide +kernel
theorem dX7_save_26 : decode cX7_save 26 = .ok (.getfield 25, 3) := by decide +kernel
theorem dX7_save_29 : decode cX7_save 29 = .ok (.iload_n 1, 1) := by decide +kernel
theorem dX7_save_30 : decode cX7_save 30 = .ok (.iconst 1, 1) := by decide +kernel
theorem dX7_save_31 : decode cX7_save 31 = .ok (.bastore, 1) := by decide +kernel
theorem dX7_save_32 : decode cX7_save 32 = .ok (.aload_n 0, 1) := by decide +kernel
theorem dX7_save_33 : decode cX7_save 33 = .ok (.getfield 12, 3) := by decide +kernel
theorem dX7_save_36 : decode cX7_save 36 = .ok (.getfield 154, 3) := by decide +kernel
theorem dX7_save_39 : decode cX7_save 39 = .ok (.ireturn, 1) := by decide +kernel
theorem dX7_restore_0 : decode cX7_restore 0 = .ok (.iload_n 1, 1) := by decide +kernel
theorem dX7_restore_1 : decode cX7_restore 1 = .ok (.iconst 0, 1) := by decide +kernel
theorem dX7_restore_2 : decode cX7_restore 2 = .ok (.iconst 1, 1) := by decide +kernel
theorem dX7_restore_3 : decode cX7_restore 3 = .ok (.invokestatic 36, 3) := by decide +kernel
theorem dX7_restore_6 : decode cX7_restore 6 = .ok (.ifCond .ne 6, 3) := by decide +kernel
theorem dX7_restore_9 : decode cX7_restore 9 = .ok (.bipush (-11), 2) := by decide +kernel
theorem dX7_restore_11 : decode cX7_restore 11 = .ok (.ireturn, 1) := by decide +kernel
theorem dX7_restore_12 : decode cX7_restore 12 = .ok (.aload_n 0, 1) := by decide +kernel
theorem dX7_restore_13 : decode cX7_restore 13 = .ok (.getfield 25, 3) := by decide +kernel
theorem dX7_restore_16 : decode cX7_restore 16 = .ok (.iload_n 1, 1) := by decide +kernel
theorem dX7_restore_17 : decode cX7_restore 17 = .ok (.baload, 1) := by decide +kernel
theorem dX7_restore_18 : decode cX7_restore 18 = .ok (.ifCond .ne 6, 3) := by decide +kernel
theorem dX7_restore_21 : decode cX7_restore 21 = .ok (.bipush (-13), 2) := by decide +kernel
theorem dX7_restore_23 : decode cX7_restore 23 = .ok (.ireturn, 1) := by decide +kernel
theorem dX7_restore_24 : decode cX7_restore 24 = .ok (.aload_n 0, 1) := by decide +kernel
theorem dX7_restore_25 : decode cX7_restore 25 = .ok (.getfield 12, 3) := by decide +kernel
theorem dX7_restore_28 : decode cX7_restore 28 = .ok (.aload_n 0, 1) := by decide +kernel
theorem dX7_restore_29 : decode cX7_restore 29 = .ok (.getfield 21, 3) := by decide +kernel
theorem dX7_restore_32 : decode cX7_restore 32 = .ok (.iload_n 1, 1) := by decide +kernel
theorem dX7_restore_33 : decode cX7_restore 33 = .ok (.aaload, 1) := by decide +kernel
theorem dX7_restore_34 : decode cX7_restore 34 = .ok (.invokevirtual 201, 3) := by decide +kernel
theorem dX7_restore_37 : decode cX7_restore 37 = .ok (.aload_n 0, 1) := by decide +kernel
theorem dX7_restore_38 : decode cX7_restore 38 = .ok (.getfield 12, 3) := by decide +kernel
theorem dX7_restore_41 : decode cX7_restore 41 = .ok (.getfield 154, 3) := by decide +kernel
theorem dX7_restore_44 : decode cX7_restore 44 = .ok (.ireturn, 1) := by decide +kernel
theorem dX7_checksum_0 : decode cX7_checksum 0 = .ok (.ldc2_w 212, 3) := by decide +kernel
theorem dX7_checksum_3 : decode cX7_checksum 3 = .ok (.lstore_n 1, 1) := by decide +kernel
theorem dX7_checksum_4 : decode cX7_checksum 4 = .ok (.lload_n 1, 1) := by decide +kernel
theorem dX7_checksum_5 : decode cX7_checksum 5 = .ok (.aload_n 0, 1) := by decide +kernel
theorem dX7_checksum_6 : decode cX7_checksum 6 = .ok (.getfield 12, 3) := by decide +kernel
theorem dX7_checksum_9 : decode cX7_checksum 9 = .ok (.getfield 154, 3) := by decide +kernel
theorem dX7_checksum_12 : decode cX7_checksum 12 = .ok (.i2l, 1) := by decide +kernel
theorem dX7_checksum_13 : decode cX7_checksum 13 = .ok (.invokestatic 214, 3) := by decide +kernel
theorem dX7_checksum_16 : decode cX7_checksum 16 = .ok (.lstore_n 1, 1) := by decide +kernel
theorem dX7_checksum_17 : decode cX7_checksum 17 = .ok (.lload_n 1, 1) := by decide +kernel
theorem dX7_checksum_18 : decode cX7_checksum 18 = .ok (.aload_n 0, 1) := by decide +kernel
theorem dX7_checksum_19 : decode cX7_checksum 19 = .ok (.getfield 12, 3) := by decide +kernel
theorem dX7_checksum_22 : decode cX7_checksum 22 = .ok (.getfield 68, 3) := by decide +kernel
theorem dX7_checksum_25 : decode cX7_checksum 25 = .ok (.i2l, 1) := by decide +kernel
theorem dX7_checksum_26 : decode cX7_checksum 26 = .ok (.invokestatic 214, 3) := by decide +kernel
theorem dX7_checksum_29 : decode cX7_checksum 29 = .ok (.lstore_n 1, 1) := by decide +kernel
theorem dX7_checksum_30 : decode cX7_checksum 30 = .ok (.iconst 0, 1) := by decide +kernel
theorem dX7_checksum_31 : decode cX7_checksum 31 = .ok (.istore_n 3, 1) := by decide +kernel
theorem dX7_checksum_32 : decode cX7_checksum 32 = .ok (.iload_n 3, 1) := by decide +kernel
theorem dX7_checksum_33 : decode cX7_checksum 33 = .ok (.aload_n 0, 1) := by decide +kernel
theorem dX7_checksum_34 : decode cX7_checksum 34 = .ok (.getfield 12, 3) := by decide +kernel
theorem dX7_checksum_37 : decode cX7_checksum 37 = .ok (.getfield 68, 3) := by decide +kernel
theorem dX7_checksum_40 : decode cX7_checksum 40 = .ok (.if_icmp .ge 16, 3) := by decide +kernel
theorem dX7_checksum_43 : decode cX7_checksum 43 = .ok (.aload_n 0, 1) := by decide +kernel
theorem dX7_checksum_44 : decode cX7_checksum 44 = .ok (.lload_n 1, 1) := by decide +kernel
theorem dX7_checksum_45 : decode cX7_checksum 45 = .ok (.iload_n 3, 1) := by decide +kernel
theorem dX7_checksum_46 : decode cX7_checksum 46 = .ok (.invokevirtual 218, 3) := by decide +kernel
theorem dX7_checksum_49 : decode cX7_checksum 49 = .ok (.lstore_n 1, 1) := by decide +kernel
theorem dX7_checksum_50 : decode cX7_checksum 50 = .ok (.iinc 3 1, 3) := by decide +kernel
theorem dX7_checksum_53 : decode cX7_checksum 53 = .ok (.goto (-21), 3) := by decide +kernel
theorem dX7_checksum_56 : decode cX7_checksum 56 = .ok (.iconst 0, 1) := by decide +kernel
theorem dX7_checksum_57 : decode cX7_checksum 57 = .ok (.istore_n 3, 1) := by decide +kernel
theorem dX7_checksum_58 : decode cX7_checksum 58 = .ok (.iload_n 3, 1) := by decide +kernel
theorem dX7_checksum_59 : decode cX7_checksum 59 = .ok (.aload_n 0, 1) := by decide +kernel
theorem dX7_checksum_60 : decode cX7_checksum 60 = .ok (.getfield 12, 3) := by decide +kernel
theorem dX7_checksum_63 : decode cX7_checksum 63 = .ok (.getfield 40, 3) := by decide +kernel
theorem dX7_checksum_66 : decode cX7_checksum 66 = .ok (.if_icmp .ge 23, 3) := by decide +kernel
theorem dX7_checksum_69 : decode cX7_checksum 69 = .ok (.lload_n 1, 1) := by decide +kernel
theorem dX7_checksum_70 : decode cX7_checksum 70 = .ok (.aload_n 0, 1) := by decide +kernel
theorem dX7_checksum_71 : decode cX7_checksum 71 = .ok (.getfield 12, 3) := by decide +kernel
theorem dX7_checksum_74 : decode cX7_checksum 74 = .ok (.iload_n 3, 1) := by decide +kernel
theorem dX7_checksum_75 : decode cX7_checksum 75 = .ok (.invokevirtual 195, 3) := by decide +kernel
theorem dX7_checksum_78 : decode cX7_checksum 78 = .ok (.i2l, 1) := by decide +kernel
theorem dX7_checksum_79 : decode cX7_checksum 79 = .ok (.invokestatic 214, 3) := by decide +kernel
theorem dX7_checksum_82 : decode cX7_checksum 82 = .ok (.lstore_n 1, 1) := by decide +kernel
theorem dX7_checksum_83 : decode cX7_checksum 83 = .ok (.iinc 3 1, 3) := by decide +kernel
theorem dX7_checksum_86 : decode cX7_checksum 86 = .ok (.goto (-28), 3) := by decide +kernel
theorem dX7_checksum_89 : decode cX7_checksum 89 = .ok (.lload_n 1, 1) := by decide +kernel
theorem dX7_checksum_90 : decode cX7_checksum 90 = .ok (.aload_n 0, 1) := by decide +kernel
theorem dX7_checksum_91 : decode cX7_checksum 91 = .ok (.getfield 12, 3) := by decide +kernel
theorem dX7_checksum_94 : decode cX7_checksum 94 = .ok (.getfield 142, 3) := by decide +kernel
theorem dX7_checksum_97 : decode cX7_checksum 97 = .ok (.getfield 207, 3) := by decide +kernel
theorem dX7_checksum_100 : decode cX7_checksum 100 = .ok (.i2l, 1) := by decide +kernel
theorem dX7_checksum_101 : decode cX7_checksum 101 = .ok (.invokestatic 214, 3) := by decide +kernel
theorem dX7_checksum_104 : decode cX7_checksum 104 = .ok (.lstore_n 1, 1) := by decide +kernel
theorem dX7_checksum_105 : decode cX7_checksum 105 = .ok (.iconst 0, 1) := by decide +kernel
theorem dX7_checksum_106 : decode cX7_checksum 106 = .ok (.istore_n 3, 1) := by decide +kernel
theorem dX7_checksum_107 : decode cX7_checksum 107 = .ok (.iload_n 3, 1) := by decide +kernel
theorem dX7_checksum_108 : decode cX7_checksum 108 = .ok (.aload_n 0, 1) := by decide +kernel
theorem dX7_checksum_109 : decode cX7_checksum 109 = .ok (.getfield 12, 3) := by decide +kernel
theorem dX7_checksum_112 : decode cX7_checksum 112 = .ok (.getfield 142, 3) := by decide +kernel
theorem dX7_checksum_115 : decode cX7_checksum 115 = .ok (.getfield 207, 3) := by decide +kernel
theorem dX7_checksum_118 : decode cX7_checksum 118 = .ok (.if_icmp .ge 43, 3) := by decide +kernel
theorem dX7_checksum_121 : decode cX7_checksum 121 = .ok (.iconst 0, 1) := by decide +kernel
theorem dX7_checksum_122 : decode cX7_checksum 122 = .ok (.istore 4, 2) := by decide +kernel
theorem dX7_checksum_124 : decode cX7_checksum 124 = .ok (.iload 4, 2) := by decide +kernel
theorem dX7_checksum_126 : decode cX7_checksum 126 = .ok (.iconst 4, 1) := by decide +kernel
theorem dX7_checksum_127 : decode cX7_checksum 127 = .ok (.if_icmp .ge 28, 3) := by decide +kernel
theorem dX7_checksum_130 : decode cX7_checksum 130 = .ok (.lload_n 1, 1) := by decide +kernel
theorem dX7_checksum_131 : decode cX7_checksum 131 = .ok (.aload_n 0, 1) := by decide +kernel
theorem dX7_checksum_132 : decode cX7_checksum 132 = .ok (.getfield 12, 3) := by decide +kernel
theorem dX7_checksum_135 : decode cX7_checksum 135 = .ok (.getfield 142, 3) := by decide +kernel
theorem dX7_checksum_138 : decode cX7_checksum 138 = .ok (.iload_n 3, 1) := by decide +kernel
theorem dX7_checksum_139 : decode cX7_checksum 139 = .ok (.iload 4, 2) := by decide +kernel
theorem dX7_checksum_141 : decode cX7_checksum 141 = .ok (.invokevirtual 208, 3) := by decide +kernel
theorem dX7_checksum_144 : decode cX7_checksum 144 = .ok (.i2l, 1) := by decide +kernel
theorem dX7_checksum_145 : decode cX7_checksum 145 = .ok (.invokestatic 214, 3) := by decide +kernel
theorem dX7_checksum_148 : decode cX7_checksum 148 = .ok (.lstore_n 1, 1) := by decide +kernel
theorem dX7_checksum_149 : decode cX7_checksum 149 = .ok (.iinc 4 1, 3) := by decide +kernel
theorem dX7_checksum_152 : decode cX7_checksum 152 = .ok (.goto (-28), 3) := by decide +kernel
theorem dX7_checksum_155 : decode cX7_checksum 155 = .ok (.iinc 3 1, 3) := by decide +kernel
theorem dX7_checksum_158 : decode cX7_checksum 158 = .ok (.goto (-51), 3) := by decide +kernel
theorem dX7_checksum_161 : decode cX7_checksum 161 = .ok (.lload_n 1, 1) := by decide +kernel
theorem dX7_checksum_162 : decode cX7_checksum 162 = .ok (.lreturn, 1) := by decide +kernel
theorem dX7_mixChange_0 : decode cX7_mixChange 0 = .ok (.lload_n 1, 1) := by decide +kernel
theorem dX7_mixChange_1 : decode cX7_mixChange 1 = .ok (.lstore 4, 2) := by decide +kernel
theorem dX7_mixChange_3 : decode cX7_mixChange 3 = .ok (.iconst 0, 1) := by decide +kernel
theorem dX7_mixChange_4 : decode cX7_mixChange 4 = .ok (.istore 6, 2) := by decide +kernel
theorem dX7_mixChange_6 : decode cX7_mixChange 6 = .ok (.iload 6, 2) := by decide +kernel
theorem dX7_mixChange_8 : decode cX7_mixChange 8 = .ok (.bipush 7, 2) := by decide +kernel
theorem dX7_mixChange_10 : decode cX7_mixChange 10 = .ok (.if_icmp .ge 24, 3) := by decide +kernel
theorem dX7_mixChange_13 : decode cX7_mixChange 13 = .ok (.lload 4, 2) := by decide +kernel
theorem dX7_mixChange_15 : decode cX7_mixChange 15 = .ok (.aload_n 0, 1) := by decide +kernel
theorem dX7_mixChange_16 : decode cX7_mixChange 16 = .ok (.iload_n 3, 1) := by decide +kernel
theorem dX7_mixChange_17 : decode cX7_mixChange 17 = .ok (.iload 6, 2) := by decide +kernel
theorem dX7_mixChange_19 : decode cX7_mixChange 19 = .ok (.invokevirtual 222, 3) := by decide +kernel
theorem dX7_mixChange_22 : decode cX7_mixChange 22 = .ok (.i2l, 1) := by decide +kernel
theorem dX7_mixChange_23 : decode cX7_mixChange 23 = .ok (.invokestatic 214, 3) := by decide +kernel
theorem dX7_mixChange_26 : decode cX7_mixChange 26 = .ok (.lstore 4, 2) := by decide +kernel
theorem dX7_mixChange_28 : decode cX7_mixChange 28 = .ok (.iinc 6 1, 3) := by decide +kernel
theorem dX7_mixChange_31 : decode cX7_mixChange 31 = .ok (.goto (-25), 3) := by decide +kernel
theorem dX7_mixChange_34 : decode cX7_mixChange 34 = .ok (.iconst 0, 1) := by decide +kernel
theorem dX7_mixChange_35 : decode cX7_mixChange 35 = .ok (.istore 6, 2) := by decide +kernel
theorem dX7_mixChange_37 : decode cX7_mixChange 37 = .ok (.iload 6, 2) := by decide +kernel
theorem dX7_mixChange_39 : decode cX7_mixChange 39 = .ok (.iconst 4, 1) := by decide +kernel
theorem dX7_mixChange_40 : decode cX7_mixChange 40 = .ok (.if_icmp .ge 24, 3) := by decide +kernel
theorem dX7_mixChange_43 : decode cX7_mixChange 43 = .ok (.lload 4, 2) := by decide +kernel
theorem dX7_mixChange_45 : decode cX7_mixChange 45 = .ok (.aload_n 0, 1) := by decide +kernel
theorem dX7_mixChange_46 : decode cX7_mixChange 46 = .ok (.iload_n 3, 1) := by decide +kernel
theorem dX7_mixChange_47 : decode cX7_mixChange 47 = .ok (.iload 6, 2) := by decide +kernel
theorem dX7_mixChange_49 : decode cX7_mixChange 49 = .ok (.invokevirtual 225, 3) := by decide +kernel
theorem dX7_mixChange_52 : decode cX7_mixChange 52 = .ok (.i2l, 1) := by decide +kernel
theorem dX7_mixChange_53 : decode cX7_mixChange 53 = .ok (.invokestatic 214, 3) := by decide +kernel
theorem dX7_mixChange_56 : decode cX7_mixChange 56 = .ok (.lstore 4, 2) := by decide +kernel
theorem dX7_mixChange_58 : decode cX7_mixChange 58 = .ok (.iinc 6 1, 3) := by decide +kernel
theorem dX7_mixChange_61 : decode cX7_mixChange 61 = .ok (.goto (-24), 3) := by decide +kernel
theorem dX7_mixChange_64 : decode cX7_mixChange 64 = .ok (.lload 4, 2) := by decide +kernel
theorem dX7_mixChange_66 : decode cX7_mixChange 66 = .ok (.aload_n 0, 1) := by decide +kernel
theorem dX7_mixChange_67 : decode cX7_mixChange 67 = .ok (.iload_n 3, 1) := by decide +kernel
theorem dX7_mixChange_68 : decode cX7_mixChange 68 = .ok (.iconst 0, 1) := by decide +kernel
theorem dX7_mixChange_69 : decode cX7_mixChange 69 = .ok (.invokevirtual 228, 3) := by decide +kernel
theorem dX7_mixChange_72 : decode cX7_mixChange 72 = .ok (.invokestatic 214, 3) := by decide +kernel
theorem dX7_mixChange_75 : decode cX7_mixChange 75 = .ok (.lstore 4, 2) := by decide +kernel
theorem dX7_mixChange_77 : decode cX7_mixChange 77 = .ok (.lload 4, 2) := by decide +kernel
theorem dX7_mixChange_79 : decode cX7_mixChange 79 = .ok (.aload_n 0, 1) := by decide +kernel
theorem dX7_mixChange_80 : decode cX7_mixChange 80 = .ok (.iload_n 3, 1) := by decide +kernel
theorem dX7_mixChange_81 : decode cX7_mixChange 81 = .ok (.iconst 1, 1) := by decide +kernel
theorem dX7_mixChange_82 : decode cX7_mixChange 82 = .ok (.invokevirtual 228, 3) := by decide +kernel
theorem dX7_mixChange_85 : decode cX7_mixChange 85 = .ok (.invokestatic 214, 3) := by decide +kernel
theorem dX7_mixChange_88 : decode cX7_mixChange 88 = .ok (.lreturn, 1) := by decide +kernel
theorem dX7_mix_0 : decode cX7_mix 0 = .ok (.ldc2_w 232, 3) := by decide +kernel
theorem dX7_mix_3 : decode cX7_mix 3 = .ok (.lload_n 0, 1) := by decide +kernel
theorem dX7_mix_4 : decode cX7_mix 4 = .ok (.lmul, 1) := by decide +kernel
theorem dX7_mix_5 : decode cX7_mix 5 = .ok (.lload_n 2, 1) := by decide +kernel
theorem dX7_mix_6 : decode cX7_mix 6 = .ok (.ladd, 1) := by decide +kernel
theorem dX7_mix_7 : decode cX7_mix 7 = .ok (.lreturn, 1) := by decide +kernel
theorem dX7_isWithin_0 : decode cX7_isWithin 0 = .ok (.iload_n 0, 1) := by decide +kernel
theorem dX7_isWithin_1 : decode cX7_isWithin 1 = .ok (.iload_n 1, 1) := by decide +kernel
theorem dX7_isWithin_2 : decode cX7_isWithin 2 = .ok (.if_icmp .lt 12, 3) := by decide +kernel
theorem dX7_isWithin_5 : decode cX7_isWithin 5 = .ok (.iload_n 0, 1) := by decide +kernel
theorem dX7_isWithin_6 : decode cX7_isWithin 6 = .ok (.iload_n 2, 1) := by decide +kernel
theorem dX7_isWithin_7 : decode cX7_isWithin 7 = .ok (.if_icmp .gt 7, 3) := by decide +kernel
theorem dX7_isWithin_10 : decode cX7_isWithin 10 = .ok (.iconst 1, 1) := by decide +kernel
theorem dX7_isWithin_11 : decode cX7_isWithin 11 = .ok (.goto 4, 3) := by decide +kernel
theorem dX7_isWithin_14 : decode cX7_isWithin 14 = .ok (.iconst 0, 1) := by decide +kernel
theorem dX7_isWithin_15 : decode cX7_isWithin 15 = .ok (.ireturn, 1) := by decide +kernel
theorem dX8_init_0 : decode cX8_init 0 = .ok (.aload_n 0, 1) := by decide +kernel
theorem dX8_init_1 : decode cX8_init 1 = .ok (.invokespecial 1, 3) := by decide +kernel
theorem dX8_init_4 : decode cX8_init 4 = .ok (.aload_n 0, 1) := by decide +kernel
theorem dX8_init_5 : decode cX8_init 5 = .ok (.sipush 257, 3) := by decide +kernel
theorem dX8_init_8 : decode cX8_init 8 = .ok (.newarray .int, 2) := by decide +kernel
theorem dX8_init_10 : decode cX8_init 10 = .ok (.putfield 7, 3) := by decide +kernel
theorem dX8_init_13 : decode cX8_init 13 = .ok (.aload_n 0, 1) := by decide +kernel
theorem dX8_init_14 : decode cX8_init 14 = .ok (.sipush 257, 3) := by decide +kernel
theorem dX8_init_17 : decode cX8_init 17 = .ok (.newarray .int, 2) := by decide +kernel
theorem dX8_init_19 : decode cX8_init 19 = .ok (.putfield 13, 3) := by decide +kernel
theorem dX8_init_22 : decode cX8_init 22 = .ok (.aload_n 0, 1) := by decide +kernel
theorem dX8_init_23 : decode cX8_init 23 = .ok (.sipush 514, 3) := by decide +kernel
theorem dX8_init_26 : decode cX8_init 26 = .ok (.newarray .int, 2) := by decide +kernel
theorem dX8_init_28 : decode cX8_init 28 = .ok (.putfield 16, 3) := by decide +kernel
theorem dX8_init_31 : decode cX8_init 31 = .ok (.aload_n 0, 1) := by decide +kernel
theorem dX8_init_32 : decode cX8_init 32 = .ok (.iconst 2, 1) := by decide +kernel
theorem dX8_init_33 : decode cX8_init 33 = .ok (.newarray .boolean, 2) := by decide +kernel
theorem dX8_init_35 : decode cX8_init 35 = .ok (.putfield 19, 3) := by decide +kernel
theorem dX8_init_38 : decode cX8_init 38 = .ok (.aload_n 0, 1) := by decide +kernel
theorem dX8_init_39 : decode cX8_init 39 = .ok (.bipush 60, 2) := by decide +kernel
theorem dX8_init_41 : decode cX8_init 41 = .ok (.newarray .int, 2) := by decide +kernel
theorem dX8_init_43 : decode cX8_init 43 = .ok (.putfield 23, 3) := by decide +kernel
theorem dX8_init_46 : decode cX8_init 46 = .ok (.aload_n 0, 1) := by decide +kernel
theorem dX8_init_47 : decode cX8_init 47 = .ok (.bipush 18, 2) := by decide +kernel
theorem dX8_init_49 : decode cX8_init 49 = .ok (.newarray .int, 2) := by decide +kernel
theorem dX8_init_51 : decode cX8_init 51 = .ok (.putfield 26, 3) := by decide +kernel
theorem dX8_init_54 : decode cX8_init 54 = .ok (.aload_n 0, 1) := by decide +kernel
theorem dX8_init_55 : decode cX8_init 55 = .ok (.sipush 2601, 3) := by decide +kernel
theorem dX8_init_58 : decode cX8_init 58 = .ok (.newarray .long, 2) := by decide +kernel
theorem dX8_init_60 : decode cX8_init 60 = .ok (.putfield 29, 3) := by decide +kernel
theorem dX8_init_63 : decode cX8_init 63 = .ok (.aload_n 0, 1) := by decide +kernel
theorem dX8_init_64 : decode cX8_init 64 = .ok (.getfield 7, 3) := by decide +kernel
theorem dX8_init_67 : decode cX8_init 67 = .ok (.iconst 0, 1) := by decide +kernel
theorem dX8_init_68 : decode cX8_init 68 = .ok (.iconst 4, 1) := by decide +kernel
theorem dX8_init_69 : decode cX8_init 69 = .ok (.iastore, 1) := by decide +kernel
theorem dX8_init_70 : decode cX8_init 70 = .ok (.aload_n 0, 1) := by decide +kernel
theorem dX8_init_71 : decode cX8_init 71 = .ok (.getfield 7, 3) := by decide +kernel
theorem dX8_init_74 : decode cX8_init 74 = .ok (.iconst 2, 1) := by decide +kernel
theorem dX8_init_75 : decode cX8_init 75 = .ok (.bipush 50, 2) := by decide +kernel
theorem dX8_init_77 : decode cX8_init 77 = .ok (.iastore, 1) := by decide +kernel
theorem dX8_init_78 : decode cX8_init 78 = .ok (.return_, 1) := by decide +kernel
theorem dX8_in_0 : decode cX8_in 0 = .ok (.iload_n 0, 1) := by decide +kernel
theorem dX8_in_1 : decode cX8_in 1 = .ok (.iload_n 1, 1) := by decide +kernel
theorem dX8_in_2 : decode cX8_in 2 = .ok (.if_icmp .lt 12, 3) := by decide +kernel
theorem dX8_in_5 : decode cX8_in 5 = .ok (.iload_n 0, 1) := by decide +kernel
theorem dX8_in_6 : decode cX8_in 6 = .ok (.iload_n 2, 1) := by decide +kernel
theorem dX8_in_7 : decode cX8_in 7 = .ok (.if_icmp .gt 7, 3) := by decide +kernel
theorem dX8_in_10 : decode cX8_in 10 = .ok (.iconst 1, 1) := by decide +kernel
theorem dX8_in_11 : decode cX8_in 11 = .ok (.goto 4, 3) := by decide +kernel
theorem dX8_in_14 : decode cX8_in 14 = .ok (.iconst 0, 1) := by decide +kernel
theorem dX8_in_15 : decode cX8_in 15 = .ok (.ireturn, 1) := by decide +kernel
theorem dX8_at_0 : decode cX8_at 0 = .ok (.bipush 92, 2) := by decide +kernel
theorem dX8_at_2 : decode cX8_at 2 = .ok (.bipush 33, 2) := by decide +kernel
theorem dX8_at_4 : decode cX8_at 4 = .ok (.iload_n 0, 1) := by decide +kernel
theorem dX8_at_5 : decode cX8_at 5 = .ok (.imul, 1) := by decide +kernel
theorem dX8_at_6 : decode cX8_at 6 = .ok (.iadd, 1) := by decide +kernel
theorem dX8_at_7 : decode cX8_at 7 = .ok (.iload_n 1, 1) := by decide +kernel
theorem dX8_at_8 : decode cX8_at 8 = .ok (.iadd, 1) := by decide +kernel
theorem dX8_at_9 : decode cX8_at 9 = .ok (.ireturn, 1) := by decide +kernel
theorem dX8_stageAt_0 : decode cX8_stageAt 0 = .ok (.iload_n 0, 1) := by decide +kernel
theorem dX8_stageAt_1 : decode cX8_stageAt 1 = .ok (.bipush 9, 2) := by decide +kernel
theorem dX8_stageAt_3 : decode cX8_stageAt 3 = .ok (.iconst 4, 1) := by decide +kernel
theorem dX8_stageAt_4 : decode cX8_stageAt 4 = .ok (.iload_n 1, 1) := by decide +kernel
theorem dX8_stageAt_5 : decode cX8_stageAt 5 = .ok (.imul, 1) := by decide +kernel
theorem dX8_stageAt_6 : decode cX8_stageAt 6 = .ok (.iadd, 1) := by decide +kernel
theorem dX8_stageAt_7 : decode cX8_stageAt 7 = .ok (.iload_n 2, 1) := by decide +kernel
theorem dX8_stageAt_8 : decode cX8_stageAt 8 = .ok (.iadd, 1) := by decide +kernel
theorem dX8_stageAt_9 : decode cX8_stageAt 9 = .ok (.invokestatic 33, 3) := by decide +kernel
theorem dX8_stageAt_12 : decode cX8_stageAt 12 = .ok (.ireturn, 1) := by decide +kernel
theorem dX8_isChange_0 : decode cX8_isChange 0 = .ok (.iload_n 1, 1) := by decide +kernel
theorem dX8_isChange_1 : decode cX8_isChange 1 = .ok (.iconst 0, 1) := by decide +kernel
theorem dX8_isChange_2 : decode cX8_isChange 2 = .ok (.aload_n 0, 1) := by decide +kernel
theorem dX8_isChange_3 : decode cX8_isChange 3 = .ok (.getfield 7, 3) := by decide +kernel
theorem dX8_isChange_6 : decode cX8_isChange 6 = .ok (.bipush 10, 2) := by decide +kernel
theorem dX8_isChange_8 : decode cX8_isChange 8 = .ok (.iaload, 1) := by decide +kernel
theorem dX8_isChange_9 : decode cX8_isChange 9 = .ok (.iconst 1, 1) := by decide +kernel
theorem dX8_isChange_10 : decode cX8_isChange 10 = .ok (.isub, 1) := by decide +kernel
theorem dX8_isChange_11 : decode cX8_isChange 11 = .ok (.invokestatic 37, 3) := by decide +kernel
theorem dX8_isChange_14 : decode cX8_isChange 14 = .ok (.ireturn, 1) := by decide +kernel
theorem dX8_isCell_0 : decode cX8_isCell 0 = .ok (.iload_n 1, 1) := by decide +kernel
theorem dX8_isCell_1 : decode cX8_isCell 1 = .ok (.iconst 0, 1) := by decide +kernel
theorem dX8_isCell_2 : decode cX8_isCell 2 = .ok (.aload_n 0, 1) := by decide +kernel
theorem dX8_isCell_3 : decode cX8_isCell 3 = .ok (.getfield 7, 3) := by decide +kernel
theorem dX8_isCell_6 : decode cX8_isCell 6 = .ok (.iconst 0, 1) := by decide +kernel
theorem dX8_isCell_7 : decode cX8_isCell 7 = .ok (.iaload, 1) := by decide +kernel
theorem dX8_isCell_8 : decode cX8_isCell 8 = .ok (.iconst 1, 1) := by decide +kernel
theorem dX8_isCell_9 : decode cX8_isCell 9 = .ok (.isub, 1) := by decide +kernel
theorem dX8_isCell_10 : decode cX8_isCell 10 = .ok (.invokestatic 37, 3) := by decide +kernel
theorem dX8_isCell_13 : decode cX8_isCell 13 = .ok (.ireturn, 1) := by decide +kernel
theorem dX8_puts_0 : decode cX8_puts 0 = .ok (.aload_n 0, 1) := by decide +kernel
theorem dX8_puts_1 : decode cX8_puts 1 = .ok (.getfield 7, 3) := by decide +kernel
theorem dX8_puts_4 : decode cX8_puts 4 = .ok (.iload_n 1, 1) := by decide +kernel
theorem dX8_puts_5 : decode cX8_puts 5 = .ok (.iaload, 1) := by decide +kernel
theorem dX8_puts_6 : decode cX8_puts 6 = .ok (.istore_n 3, 1) := by decide +kernel
theorem dX8_puts_7 : decode cX8_puts 7 = .ok (.aload_n 0, 1) := by decide +kernel
theorem dX8_puts_8 : decode cX8_puts 8 = .ok (.getfield 7, 3) := by decide +kernel
theorem dX8_puts_11 : decode cX8_puts 11 = .ok (.iload_n 1, 1) := by decide +kernel
theorem dX8_puts_12 : decode cX8_puts 12 = .ok (.iload_n 2, 1) := by decide +kernel
theorem dX8_puts_13 : decode cX8_puts 13 = .ok (.iastore, 1) := by decide +kernel
theorem dX8_puts_14 : decode cX8_puts 14 = .ok (.iload_n 3, 1) := by decide +kernel
theorem dX8_puts_15 : decode cX8_puts 15 = .ok (.ireturn, 1) := by decide +kernel
theorem dX8_begin_0 : decode cX8_begin 0 = .ok (.iload_n 1, 1) := by decide +kernel
theorem dX8_begin_1 : decode cX8_begin 1 = .ok (.iconst 1, 1) := by decide +kernel
theorem dX8_begin_2 : decode cX8_begin 2 = .ok (.bipush 8, 2) := by decide +kernel
theorem dX8_begin_4 : decode cX8_begin 4 = .ok (.invokestatic 37, 3) := by decide +kernel
theorem dX8_begin_7 : decode cX8_begin 7 = .ok (.ifCond .ne 6, 3) := by decide +kernel
theorem dX8_begin_10 : decode cX8_begin 10 = .ok (.bipush (-12), 2) := by decide +kernel
theorem dX8_begin_12 : decode cX8_begin 12 = .ok (.ireturn, 1) := by decide +kernel
theorem dX8_begin_13 : decode cX8_begin 13 = .ok (.aload_n 0, 1) := by decide +kernel
theorem dX8_begin_14 : decode cX8_begin 14 = .ok (.getfield 7, 3) := by decide +kernel
theorem dX8_begin_17 : decode cX8_begin 17 = .ok (.iconst 2, 1) := by decide +kernel
theorem dX8_begin_18 : decode cX8_begin 18 = .ok (.iaload, 1) := by decide +kernel
theorem dX8_begin_19 : decode cX8_begin 19 = .ok (.istore_n 2, 1) := by decide +kernel
theorem dX8_begin_20 : decode cX8_begin 20 = .ok (.aload_n 0, 1) := by decide +kernel
theorem dX8_begin_21 : decode cX8_begin 21 = .ok (.getfield 7, 3) := by decide +kernel
theorem dX8_begin_24 : decode cX8_begin 24 = .ok (.iconst 0, 1) := by decide +kernel
theorem dX8_begin_25 : decode cX8_begin 25 = .ok (.iaload, 1) := by decide +kernel
theorem dX8_begin_26 : decode cX8_begin 26 = .ok (.istore_n 3, 1) := by decide +kernel
theorem dX8_begin_27 : decode cX8_begin 27 = .ok (.iconst 0, 1) := by decide +kernel
theorem dX8_begin_28 : decode cX8_begin 28 = .ok (.istore 4, 2) := by decide +kernel
theorem dX8_begin_30 : decode cX8_begin 30 = .ok (.iload 4, 2) := by decide +kernel
theorem dX8_begin_32 : decode cX8_begin 32 = .ok (.sipush 257, 3) := by decide +kernel
theorem dX8_begin_35 : decode cX8_begin 35 = .ok (.if_icmp .ge 17, 3) := by decide +kernel
theorem dX8_begin_38 : decode cX8_begin 38 = .ok (.aload_n 0, 1) := by decide +kernel
theorem dX8_begin_39 : decode cX8_begin 39 = .ok (.getfield 7, 3) := by decide +kernel
theorem dX8_begin_42 : decode cX8_begin 42 = .ok (.iload 4, 2) := by decide +kernel
theorem dX8_begin_44 : decode cX8_begin 44 = .ok (.iconst 0, 1) := by decide +kernel
theorem dX8_begin_45 : decode cX8_begin 45 = .ok (.iastore, 1) := by decide +kernel
theorem dX8_begin_46 : decode cX8_begin 46 = .ok (.iinc 4 1, 3) := by decide +kernel
theorem dX8_begin_49 : decode cX8_begin 49 = .ok (.goto (-19), 3) := by decide +kernel
theorem dX8_begin_52 : decode cX8_begin 52 = .ok (.aload_n 0, 1) := by decide +kernel
theorem dX8_begin_53 : decode cX8_begin 53 = .ok (.getfield 7, 3) := by decide +kernel
theorem dX8_begin_56 : decode cX8_begin 56 = .ok (.iconst 0, 1) := by decide +kernel
theorem dX8_begin_57 : decode cX8_begin 57 = .ok (.iload_n 1, 1) := by decide +kernel
theorem dX8_begin_58 : decode cX8_begin 58 = .ok (.iastore, 1) := by decide +kernel
theorem dX8_begin_59 : decode cX8_begin 59 = .ok (.aload_n 0, 1) := by decide +kernel
theorem dX8_begin_60 : decode cX8_begin 60 = .ok (.getfield 7, 3) := by decide +kernel
theorem dX8_begin_63 : decode cX8_begin 63 = .ok (.iconst 2, 1) := by decide +kernel
theorem dX8_begin_64 : decode cX8_begin 64 = .ok (.iload_n 2, 1) := by decide +kernel
theorem dX8_begin_65 : decode cX8_begin 65 = .ok (.iastore, 1) := by decide +kernel
theorem dX8_begin_66 : decode cX8_begin 66 = .ok (.iload_n 3, 1) := by decide +kernel
theorem dX8_begin_67 : decode cX8_begin 67 = .ok (.ireturn, 1) := by decide +kernel
theorem dX8_setLimit_0 : decode cX8_setLimit 0 = .ok (.iload_n 1, 1) := by decide +kernel
theorem dX8_setLimit_1 : decode cX8_setLimit 1 = .ok (.iconst 0, 1) := by decide +kernel
theorem dX8_setLimit_2 : decode cX8_setLimit 2 = .ok (.sipush 1000, 3) := by decide +kernel
theorem dX8_setLimit_5 : decode cX8_setLimit 5 = .ok (.invokestatic 37, 3) := by decide +kernel
theorem dX8_setLimit_8 : decode cX8_setLimit 8 = .ok (.ifCond .eq 12, 3) := by decide +kernel
theorem dX8_setLimit_11 : decode cX8_setLimit 11 = .ok (.aload_n 0, 1) := by decide +kernel
theorem dX8_setLimit_12 : decode cX8_setLimit 12 = .ok (.iconst 2, 1) := by decide +kernel
theorem dX8_setLimit_13 : decode cX8_setLimit 13 = .ok (.iload_n 1, 1) := by decide +kernel
theorem dX8_setLimit_14 : decode cX8_setLimit 14 = .ok (.invokevirtual 41, 3) := by decide +kernel
theorem dX8_setLimit_17 : decode cX8_setLimit 17 = .ok (.goto 5, 3) := by decide +kernel
theorem dX8_setLimit_20 : decode cX8_setLimit 20 = .ok (.bipush (-12), 2) := by decide +kernel
theorem dX8_setLimit_22 : decode cX8_setLimit 22 = .ok (.ireturn, 1) := by decide +kernel
theorem dX8_freeze_0 : decode cX8_freeze 0 = .ok (.iload_n 1, 1) := by decide +kernel
theorem dX8_freeze_1 : decode cX8_freeze 1 = .ok (.iconst 0, 1) := by decide +kernel
theorem dX8_freeze_2 : decode cX8_freeze 2 = .ok (.sipush 167, 3) := by decide +kernel
theorem dX8_freeze_5 : decode cX8_freeze 5 = .ok (.invokestatic 37, 3) := by decide +kernel
theorem dX8_freeze_8 : decode cX8_freeze 8 = .ok (.ifCond .eq 16, 3) := by decide +kernel
theorem dX8_freeze_11 : decode cX8_freeze 11 = .ok (.iload_n 2, 1) := by decide +kernel
theorem dX8_freeze_12 : decode cX8_freeze 12 = .ok (.iload_n 1, 1) := by decide +kernel
theorem dX8_freeze_13 : decode cX8_freeze 13 = .ok (.iconst 1, 1) := by decide +kernel
theorem dX8_freeze_14 : decode cX8_freeze 14 = .ok (.iadd, 1) := by decide +kernel
theorem dX8_freeze_15 : decode cX8_freeze 15 = .ok (.sipush 168, 3) := by decide +kernel
theorem dX8_freeze_18 : decode cX8_freeze 18 = .ok (.invokestatic 37, 3) := by decide +kernel
theorem dX8_freeze_21 : decode cX8_freeze 21 = .ok (.ifCond .ne 6, 3) := by decide +kernel
theorem dX8_freeze_24 : decode cX8_freeze 24 = .ok (.bipush (-12), 2) := by decide +kernel
theorem dX8_freeze_26 : decode cX8_freeze 26 = .ok (.ireturn, 1) := by decide +kernel
theorem dX8_freeze_27 : decode cX8_freeze 27 = .ok (.aload_n 0, 1) := by decide +kernel
theorem dX8_freeze_28 : decode cX8_freeze 28 = .ok (.getfield 7, 3) := by decide +kernel
theorem dX8_freeze_31 : decode cX8_freeze 31 = .ok (.iconst 3, 1) := by decide +kernel
theorem dX8_freeze_32 : decode cX8_freeze 32 = .ok (.iaload, 1) := by decide +kernel
theorem dX8_freeze_33 : decode cX8_freeze 33 = .ok (.iconst 3, 1) := by decide +kernel
theorem dX8_freeze_34 : decode cX8_freeze 34 = .ok (.if_icmp .ne 6, 3) := by decide +kernel
theorem dX8_freeze_37 : decode cX8_freeze 37 = .ok (.bipush (-14), 2) := by decide +kernel
theorem dX8_freeze_39 : decode cX8_freeze 39 = .ok (.ireturn, 1) := by decide +kernel
theorem dX8_freeze_40 : decode cX8_freeze 40 = .ok (.aload_n 0, 1) := by decide +kernel
theorem dX8_freeze_41 : decode cX8_freeze 41 = .ok (.getfield 7, 3) := by decide +kernel
theorem dX8_freeze_44 : decode cX8_freeze 44 = .ok (.iconst 4, 1) := by decide +kernel
theorem dX8_freeze_45 : decode cX8_freeze 45 = .ok (.iconst 2, 1) := by decide +kernel
theorem dX8_freeze_46 : decode cX8_freeze 46 = .ok (.aload_n 0, 1) := by decide +kernel
theorem dX8_freeze_47 : decode cX8_freeze 47 = .ok (.getfield 7, 3) := by decide +kernel
theorem dX8_freeze_50 : decode cX8_freeze 50 = .ok (.iconst 3, 1) := by decide +kernel
theorem dX8_freeze_51 : decode cX8_freeze 51 = .ok (.iaload, 1) := by decide +kernel
theorem dX8_freeze_52 : decode cX8_freeze 52 = .ok (.imul, 1) := by decide +kernel
theorem dX8_freeze_53 : decode cX8_freeze 53 = .ok (.iadd, 1) := by decide +kernel
theorem dX8_freeze_54 : decode cX8_freeze 54 = .ok (.iload_n 1, 1) := by decide +kernel
theorem dX8_freeze_55 : decode cX8_freeze 55 = .ok (.iastore, 1) := by decide +kernel
theorem dX8_freeze_56 : decode cX8_freeze 56 = .ok (.aload_n 0, 1) := by decide +kernel
theorem dX8_freeze_57 : decode cX8_freeze 57 = .ok (.getfield 7, 3) := by decide +kernel
theorem dX8_freeze_60 : decode cX8_freeze 60 = .ok (.iconst 4, 1) := by decide +kernel
theorem dX8_freeze_61 : decode cX8_freeze 61 = .ok (.iconst 2, 1) := by decide +kernel
theorem dX8_freeze_62 : decode cX8_freeze 62 = .ok (.aload_n 0, 1) := by decide +kernel
theorem dX8_freeze_63 : decode cX8_freeze 63 = .ok (.getfield 7, 3) := by decide +kernel
theorem dX8_freeze_66 : decode cX8_freeze 66 = .ok (.iconst 3, 1) := by decide +kernel
theorem dX8_freeze_67 : decode cX8_freeze 67 = .ok (.iaload, 1) := by decide +kernel
theorem dX8_freeze_68 : decode cX8_freeze 68 = .ok (.imul, 1) := by decide +kernel
theorem dX8_freeze_69 : decode cX8_freeze 69 = .ok (.iadd, 1) := by decide +kernel
theorem dX8_freeze_70 : decode cX8_freeze 70 = .ok (.iconst 1, 1) := by decide +kernel
theorem dX8_freeze_71 : decode cX8_freeze 71 = .ok (.iadd, 1) := by decide +kernel
theorem dX8_freeze_72 : decode cX8_freeze 72 = .ok (.iload_n 2, 1) := by decide +kernel
theorem dX8_freeze_73 : decode cX8_freeze 73 = .ok (.iastore, 1) := by decide +kernel
theorem dX8_freeze_74 : decode cX8_freeze 74 = .ok (.aload_n 0, 1) := by decide +kernel
theorem dX8_freeze_75 : decode cX8_freeze 75 = .ok (.getfield 7, 3) := by decide +kernel
theorem dX8_freeze_78 : decode cX8_freeze 78 = .ok (.iconst 3, 1) := by decide +kernel
theorem dX8_freeze_79 : decode cX8_freeze 79 = .ok (.dup2, 1) := by decide +kernel
theorem dX8_freeze_80 : decode cX8_freeze 80 = .ok (.iaload, 1) := by decide +kernel
theorem dX8_freeze_81 : decode cX8_freeze 81 = .ok (.iconst 1, 1) := by decide +kernel
theorem dX8_freeze_82 : decode cX8_freeze 82 = .ok (.iadd, 1) := by decide +kernel
theorem dX8_freeze_83 : decode cX8_freeze 83 = .ok (.iastore, 1) := by decide +kernel
theorem dX8_freeze_84 : decode cX8_freeze 84 = .ok (.aload_n 0, 1) := by decide +kernel
theorem dX8_freeze_85 : decode cX8_freeze 85 = .ok (.getfield 7, 3) := by decide +kernel
theorem dX8_freeze_88 : decode cX8_freeze 88 = .ok (.iconst 3, 1) := by decide +kernel
theorem dX8_freeze_89 : decode cX8_freeze 89 = .ok (.iaload, 1) := by decide +kernel
theorem dX8_freeze_90 : decode cX8_freeze 90 = .ok (.ireturn, 1) := by decide +kernel
theorem dX8_thaw_0 : decode cX8_thaw 0 = .ok (.aload_n 0, 1) := by decide +kernel
theorem dX8_thaw_1 : decode cX8_thaw 1 = .ok (.iconst 3, 1) := by decide +kernel
theorem dX8_thaw_2 : decode cX8_thaw 2 = .ok (.iconst 0, 1) := by decide +kernel
theorem dX8_thaw_3 : decode cX8_thaw 3 = .ok (.invokevirtual 41, 3) := by decide +kernel
theorem dX8_thaw_6 : decode cX8_thaw 6 = .ok (.ireturn, 1) := by decide +kernel
theorem dX8_addChange_0 : decode cX8_addChange 0 = .ok (.aload_n 0, 1) := by decide +kernel
theorem dX8_addChange_1 : decode cX8_addChange 1 = .ok (.getfield 7, 3) := by decide +kernel
theorem dX8_addChange_4 : decode cX8_addChange 4 = .ok (.bipush 10, 2) := by decide +kernel
theorem dX8_addChange_6 : decode cX8_addChange 6 = .ok (.iaload, 1) := by decide +kernel
theorem dX8_addChange_7 : decode cX8_addChange 7 = .ok (.iconst 5, 1) := by decide +kernel
theorem dX8_addChange_8 : decode cX8_addChange 8 = .ok (.if_icmp .ne 6, 3) := by decide +kernel
theorem dX8_addChange_11 : decode cX8_addChange 11 = .ok (.bipush (-14), 2) := by decide +kernel
theorem dX8_addChange_13 : decode cX8_addChange 13 = .ok (.ireturn, 1) := by decide +kernel
theorem dX8_addChange_14 : decode cX8_addChange 14 = .ok (.aload_n 0, 1) := by decide +kernel
theorem dX8_addChange_15 : decode cX8_addChange 15 = .ok (.getfield 7, 3) := by decide +kernel
theorem dX8_addChange_18 : decode cX8_addChange 18 = .ok (.bipush 10, 2) := by decide +kernel
theorem dX8_addChange_20 : decode cX8_addChange 20 = .ok (.iaload, 1) := by decide +kernel
theorem dX8_addChange_21 : decode cX8_addChange 21 = .ok (.istore_n 2, 1) := by decide +kernel
theorem dX8_addChange_22 : decode cX8_addChange 22 = .ok (.iconst 0, 1) := by decide +kernel
theorem dX8_addChange_23 : decode cX8_addChange 23 = .ok (.istore_n 3, 1) := by decide +kernel
theorem dX8_addChange_24 : decode cX8_addChange 24 = .ok (.iload_n 3, 1) := by decide +kernel
theorem dX8_addChange_25 : decode cX8_addChange 25 = .ok (.bipush 33, 2) := by decide +kernel
theorem dX8_addChange_27 : decode cX8_addChange 27 = .ok (.if_icmp .ge 20, 3) := by decide +kernel
theorem dX8_addChange_30 : decode cX8_addChange 30 = .ok (.aload_n 0, 1) := by decide +kernel
theorem dX8_addChange_31 : decode cX8_addChange 31 = .ok (.getfield 7, 3) := by decide +kernel
theorem dX8_addChange_34 : decode cX8_addChange 34 = .ok (.iload_n 2, 1) := by decide +kernel
theorem dX8_addChange_35 : decode cX8_addChange 35 = .ok (.iload_n 3, 1) := by decide +kernel
theorem dX8_addChange_36 : decode cX8_addChange 36 = .ok (.invokestatic 33, 3) := by decide +kernel
theorem dX8_addChange_39 : decode cX8_addChange 39 = .ok (.iconst 0, 1) := by decide +kernel
theorem dX8_addChange_40 : decode cX8_addChange 40 = .ok (.iastore, 1) := by decide +kernel
theorem dX8_addChange_41 : decode cX8_addChange 41 = .ok (.iinc 3 1, 3) := by decide +kernel
theorem dX8_addChange_44 : decode cX8_addChange 44 = .ok (.goto (-20), 3) := by decide +kernel
theorem dX8_addChange_47 : decode cX8_addChange 47 = .ok (.aload_n 0, 1) := by decide +kernel
theorem dX8_addChange_48 : decode cX8_addChange 48 = .ok (.getfield 7, 3) := by decide +kernel
theorem dX8_addChange_51 : decode cX8_addChange 51 = .ok (.iload_n 2, 1) := by decide +kernel
theorem dX8_addChange_52 : decode cX8_addChange 52 = .ok (.iconst 0, 1) := by decide +kernel
theorem dX8_addChange_53 : decode cX8_addChange 53 = .ok (.invokestatic 33, 3) := by decide +kernel
theorem dX8_addChange_56 : decode cX8_addChange 56 = .ok (.iload_n 1, 1) := by decide +kernel
theorem dX8_addChange_57 : decode cX8_addChange 57 = .ok (.ifCond .eq 7, 3) := by decide +kernel
theorem dX8_addChange_60 : decode cX8_addChange 60 = .ok (.iconst 1, 1) := by decide +kernel
theorem dX8_addChange_61 : decode cX8_addChange 61 = .ok (.goto 4, 3) := by decide +kernel
theorem dX8_addChange_64 : decode cX8_addChange 64 = .ok (.iconst 0, 1) := by decide +kernel
theorem dX8_addChange_65 : decode cX8_addChange 65 = .ok (.iastore, 1) := by decide +kernel
theorem dX8_addChange_66 : decode cX8_addChange 66 = .ok (.aload_n 0, 1) := by decide +kernel
theorem dX8_addChange_67 : decode cX8_addChange 67 = .ok (.getfield 7, 3) := by decide +kernel
theorem dX8_addChange_70 : decode cX8_addChange 70 = .ok (.bipush 10, 2) := by decide +kernel
theorem dX8_addChange_72 : decode cX8_addChange 72 = .ok (.dup2, 1) := by decide +kernel
theorem dX8_addChange_73 : decode cX8_addChange 73 = .ok (.iaload, 1) := by decide +kernel
theorem dX8_addChange_74 : decode cX8_addChange 74 = .ok (.iconst 1, 1) := by decide +kernel
theorem dX8_addChange_75 : decode cX8_addChange 75 = .ok (.iadd, 1) := by decide +kernel
theorem dX8_addChange_76 : decode cX8_addChange 76 = .ok (.iastore, 1) := by decide +kernel
theorem dX8_addChange_77 : decode cX8_addChange 77 = .ok (.iload_n 2, 1) := by decide +kernel
theorem dX8_addChange_78 : decode cX8_addChange 78 = .ok (.ireturn, 1) := by decide +kernel
theorem dX8_cellsOf_0 : decode cX8_cellsOf 0 = .ok (.iconst 0, 1) := by decide +kernel
theorem dX8_cellsOf_1 : decode cX8_cellsOf 1 = .ok (.istore_n 3, 1) := by decide +kernel
theorem dX8_cellsOf_2 : decode cX8_cellsOf 2 = .ok (.iconst 0, 1) := by decide +kernel
theorem dX8_cellsOf_3 : decode cX8_cellsOf 3 = .ok (.istore 4, 2) := by decide +kernel
theorem dX8_cellsOf_5 : decode cX8_cellsOf 5 = .ok (.iload 4, 2) := by decide +kernel
theorem dX8_cellsOf_7 : decode cX8_cellsOf 7 = .ok (.iload_n 2, 1) := by decide +kernel
theorem dX8_cellsOf_8 : decode cX8_cellsOf 8 = .ok (.if_icmp .ge 24, 3) := by decide +kernel
theorem dX8_cellsOf_11 : decode cX8_cellsOf 11 = .ok (.iload_n 3, 1) := by decide +kernel
theorem dX8_cellsOf_12 : decode cX8_cellsOf 12 = .ok (.aload_n 0, 1) := by decide +kernel
theorem dX8_cellsOf_13 : decode cX8_cellsOf 13 = .ok (.getfield 7, 3) := by decide +kernel
theorem dX8_cellsOf_16 : decode cX8_cellsOf 16 = .ok (.iload_n 1, 1) := by decide +kernel
theorem dX8_cellsOf_17 : decode cX8_cellsOf 17 = .ok (.iload 4, 2) := by decide +kernel
theorem dX8_cellsOf_19 : decode cX8_cellsOf 19 = .ok (.iconst 0, 1) := by decide +kernel
theorem dX8_cellsOf_20 : decode cX8_cellsOf 20 = .ok (.invokestatic 44, 3) := by decide +kernel
theorem dX8_cellsOf_23 : decode cX8_cellsOf 23 = .ok (.iaload, 1) := by decide +kernel
theorem dX8_cellsOf_24 : decode cX8_cellsOf 24 = .ok (.ior, 1) := by decide +kernel
theorem dX8_cellsOf_25 : decode cX8_cellsOf 25 = .ok (.istore_n 3, 1) := by decide +kernel
theorem dX8_cellsOf_26 : decode cX8_cellsOf 26 = .ok (.iinc 4 1, 3) := by decide +kernel
theorem dX8_cellsOf_29 : decode cX8_cellsOf 29 = .ok (.goto (-24), 3) := by decide +kernel
theorem dX8_cellsOf_32 : decode cX8_cellsOf 32 = .ok (.iload_n 3, 1) := by decide +kernel
theorem dX8_cellsOf_33 : decode cX8_cellsOf 33 = .ok (.ireturn, 1) := by decide +kernel
theorem dX8_adds_0 : decode cX8_adds 0 = .ok (.aload_n 0, 1) := by decide +kernel
theorem dX8_adds_1 : decode cX8_adds 1 = .ok (.getfield 7, 3) := by decide +kernel
theorem dX8_adds_4 : decode cX8_adds 4 = .ok (.iload_n 1, 1) := by decide +kernel
theorem dX8_adds_5 : decode cX8_adds 5 = .ok (.iconst 2, 1) := by decide +kernel
theorem dX8_adds_6 : decode cX8_adds 6 = .ok (.invokestatic 33, 3) := by decide +kernel
theorem dX8_adds_9 : decode cX8_adds 9 = .ok (.iaload, 1) := by decide +kernel
theorem dX8_adds_10 : decode cX8_adds 10 = .ok (.istore 5, 2) := by decide +kernel
theorem dX8_adds_12 : decode cX8_adds 12 = .ok (.aload_n 0, 1) := by decide +kernel
theorem dX8_adds_13 : decode cX8_adds 13 = .ok (.getfield 7, 3) := by decide +kernel
theorem dX8_adds_16 : decode cX8_adds 16 = .ok (.iload_n 1, 1) := by decide +kernel
theorem dX8_adds_17 : decode cX8_adds 17 = .ok (.iload 5, 2) := by decide +kernel
theorem dX8_adds_19 : decode cX8_adds 19 = .ok (.iconst 0, 1) := by decide +kernel
theorem dX8_adds_20 : decode cX8_adds 20 = .ok (.invokestatic 44, 3) := by decide +kernel
theorem dX8_adds_23 : decode cX8_adds 23 = .ok (.iload_n 2, 1) := by decide +kernel
theorem dX8_adds_24 : decode cX8_adds 24 = .ok (.iastore, 1) := by decide +kernel
theorem dX8_adds_25 : decode cX8_adds 25 = .ok (.aload_n 0, 1) := by decide +kernel
theorem dX8_adds_26 : decode cX8_adds 26 = .ok (.getfield 7, 3) := by decide +kernel
theorem dX8_adds_29 : decode cX8_adds 29 = .ok (.iload_n 1, 1) := by decide +kernel
theorem dX8_adds_30 : decode cX8_adds 30 = .ok (.iload 5, 2) := by decide +kernel
theorem dX8_adds_32 : decode cX8_adds 32 = .ok (.iconst 1, 1) := by decide +kernel
theorem dX8_adds_33 : decode cX8_adds 33 = .ok (.invokestatic 44, 3) := by decide +kernel
theorem dX8_adds_36 : decode cX8_adds 36 = .ok (.iload_n 3, 1) := by decide +kernel
theorem dX8_adds_37 : decode cX8_adds 37 = .ok (.iastore, 1) := by decide +kernel
theorem dX8_adds_38 : decode cX8_adds 38 = .ok (.aload_n 0, 1) := by decide +kernel
theorem dX8_adds_39 : decode cX8_adds 39 = .ok (.getfield 7, 3) := by decide +kernel
theorem dX8_adds_42 : decode cX8_adds 42 = .ok (.iload_n 1, 1) := by decide +kernel
theorem dX8_adds_43 : decode cX8_adds 43 = .ok (.iload 5, 2) := by decide +kernel
theorem dX8_adds_45 : decode cX8_adds 45 = .ok (.iconst 2, 1) := by decide +kernel
theorem dX8_adds_46 : decode cX8_adds 46 = .ok (.invokestatic 44, 3) := by decide +kernel
theorem dX8_adds_49 : decode cX8_adds 49 = .ok (.iload 4, 2) := by decide +kernel
theorem dX8_adds_51 : decode cX8_adds 51 = .ok (.iastore, 1) := by decide +kernel
theorem dX8_adds_52 : decode cX8_adds 52 = .ok (.aload_n 0, 1) := by decide +kernel
theorem dX8_adds_53 : decode cX8_adds 53 = .ok (.getfield 7, 3) := by decide +kernel
theorem dX8_adds_56 : decode cX8_adds 56 = .ok (.iload_n 1, 1) := by decide +kernel
theorem dX8_adds_57 : decode cX8_adds 57 = .ok (.iload 5, 2) := by decide +kernel
theorem dX8_adds_59 : decode cX8_adds 59 = .ok (.iconst 3, 1) := by decide +kernel
theorem dX8_adds_60 : decode cX8_adds 60 = .ok (.invokestatic 44, 3) := by decide +kernel
theorem dX8_adds_63 : decode cX8_adds 63 = .ok (.iconst 0, 1) := by decide +kernel
theorem dX8_adds_64 : decode cX8_adds 64 = .ok (.iastore, 1) := by decide +kernel
theorem dX8_adds_65 : decode cX8_adds 65 = .ok (.aload_n 0, 1) := by decide +kernel
theorem dX8_adds_66 : decode cX8_adds 66 = .ok (.getfield 7, 3) := by decide +kernel
theorem dX8_adds_69 : decode cX8_adds 69 = .ok (.iload_n 1, 1) := by decide +kernel
theorem dX8_adds_70 : decode cX8_adds 70 = .ok (.iconst 2, 1) := by decide +kernel
theorem dX8_adds_71 : decode cX8_adds 71 = .ok (.invokestatic 33, 3) := by decide +kernel
theorem dX8_adds_74 : decode cX8_adds 74 = .ok (.dup2, 1) := by decide +kernel
theorem dX8_adds_75 : decode cX8_adds 75 = .ok (.iaload, 1) := by decide +kernel
theorem dX8_adds_76 : decode cX8_adds 76 = .ok (.iconst 1, 1) := by decide +kernel
theorem dX8_adds_77 : decode cX8_adds 77 = .ok (.iadd, 1) := by decide +kernel
theorem dX8_adds_78 : decode cX8_adds 78 = .ok (.iastore, 1) := by decide +kernel
theorem dX8_adds_79 : decode cX8_adds 79 = .ok (.return_, 1) := by decide +kernel
theorem dX8_addStage_0 : decode cX8_addStage 0 = .ok (.aload_n 0, 1) := by decide +kernel
theorem dX8_addStage_1 : decode cX8_addStage 1 = .ok (.iload_n 1, 1) := by decide +kernel
theorem dX8_addStage_2 : decode cX8_addStage 2 = .ok (.invokevirtual 48, 3) := by decide +kernel
theorem dX8_addStage_5 : decode cX8_addStage 5 = .ok (.ifCond .ne 6, 3) := by decide +kernel
theorem dX8_addStage_8 : decode cX8_addStage 8 = .ok (.bipush (-11), 2) := by decide +kernel
theorem dX8_addStage_10 : decode cX8_addStage 10 = .ok (.ireturn, 1) := by decide +kernel
theorem dX8_addStage_11 : decode cX8_addStage 11 = .ok (.iload_n 2, 1) := by decide +kernel
theorem dX8_addStage_12 : decode cX8_addStage 12 = .ok (.iconst 1, 1) := by decide +kernel
theorem dX8_addStage_13 : decode cX8_addStage 13 = .ok (.iconst 1, 1) := by decide +kernel
theorem dX8_addStage_14 : decode cX8_addStage 14 = .ok (.aload_n 0, 1) := by decide +kernel
theorem dX8_addStage_15 : decode cX8_addStage 15 = .ok (.getfield 7, 3) := by decide +kernel
theorem dX8_addStage_18 : decode cX8_addStage 18 = .ok (.iconst 0, 1) := by decide +kernel
theorem dX8_addStage_19 : decode cX8_addStage 19 = .ok (.iaload, 1) := by decide +kernel
theorem dX8_addStage_20 : decode cX8_addStage 20 = .ok (.ishl, 1) := by decide +kernel
theorem dX8_addStage_21 : decode cX8_addStage 21 = .ok (.iconst 1, 1) := by decide +kernel
theorem dX8_addStage_22 : decode cX8_addStage 22 = .ok (.isub, 1) := by decide +kernel
theorem dX8_addStage_23 : decode cX8_addStage 23 = .ok (.invokestatic 37, 3) := by decide +kernel
theorem dX8_addStage_26 : decode cX8_addStage 26 = .ok (.ifCond .eq 24, 3) := by decide +kernel
theorem dX8_addStage_29 : decode cX8_addStage 29 = .ok (.iload_n 3, 1) := by decide +kernel
theorem dX8_addStage_30 : decode cX8_addStage 30 = .ok (.iconst 0, 1) := by decide +kernel
theorem dX8_addStage_31 : decode cX8_addStage 31 = .ok (.bipush 48, 2) := by decide +kernel
theorem dX8_addStage_33 : decode cX8_addStage 33 = .ok (.invokestatic 37, 3) := by decide +kernel
theorem dX8_addStage_36 : decode cX8_addStage 36 = .ok (.ifCond .eq 14, 3) := by decide +kernel
theorem dX8_addStage_39 : decode cX8_addStage 39 = .ok (.iload 4, 2) := by decide +kernel
theorem dX8_addStage_41 : decode cX8_addStage 41 = .ok (.iconst 0, 1) := by decide +kernel
theorem dX8_addStage_42 : decode cX8_addStage 42 = .ok (.bipush 25, 2) := by decide +kernel
theorem dX8_addStage_44 : decode cX8_addStage 44 = .ok (.invokestatic 37, 3) := by decide +kernel
theorem dX8_addStage_47 : decode cX8_addStage 47 = .ok (.ifCond .ne 6, 3) := by decide +kernel
theorem dX8_addStage_50 : decode cX8_addStage 50 = .ok (.bipush (-12), 2) := by decide +kernel
theorem dX8_addStage_52 : decode cX8_addStage 52 = .ok (.ireturn, 1) := by decide +kernel
theorem dX8_addStage_53 : decode cX8_addStage 53 = .ok (.aload_n 0, 1) := by decide +kernel
theorem dX8_addStage_54 : decode cX8_addStage 54 = .ok (.getfield 7, 3) := by decide +kernel
theorem dX8_addStage_57 : decode cX8_addStage 57 = .ok (.iload_n 1, 1) := by decide +kernel
theorem dX8_addStage_58 : decode cX8_addStage 58 = .ok (.iconst 2, 1) := by decide +kernel
theorem dX8_addStage_59 : decode cX8_addStage 59 = .ok (.invokestatic 33, 3) := by decide +kernel
theorem dX8_addStage_62 : decode cX8_addStage 62 = .ok (.iaload, 1) := by decide +kernel
theorem dX8_addStage_63 : decode cX8_addStage 63 = .ok (.istore 5, 2) := by decide +kernel
theorem dX8_addStage_65 : decode cX8_addStage 65 = .ok (.aload_n 0, 1) := by decide +kernel
theorem dX8_addStage_66 : decode cX8_addStage 66 = .ok (.getfield 7, 3) := by decide +kernel
theorem dX8_addStage_69 : decode cX8_addStage 69 = .ok (.iload_n 1, 1) := by decide +kernel
theorem dX8_addStage_70 : decode cX8_addStage 70 = .ok (.iconst 1, 1) := by decide +kernel
theorem dX8_addStage_71 : decode cX8_addStage 71 = .ok (.invokestatic 33, 3) := by decide +kernel
theorem dX8_addStage_74 : decode cX8_addStage 74 = .ok (.iaload, 1) := by decide +kernel
theorem dX8_addStage_75 : decode cX8_addStage 75 = .ok (.ifCond .ne 15, 3) := by decide +kernel
theorem dX8_addStage_78 : decode cX8_addStage 78 = .ok (.aload_n 0, 1) := by decide +kernel
theorem dX8_addStage_79 : decode cX8_addStage 79 = .ok (.iload_n 1, 1) := by decide +kernel
theorem dX8_addStage_80 : decode cX8_addStage 80 = .ok (.iload 5, 2) := by decide +kernel
theorem dX8_addStage_82 : decode cX8_addStage 82 = .ok (.invokevirtual 52, 3) := by decide +kernel
theorem dX8_addStage_85 : decode cX8_addStage 85 = .ok (.iload_n 2, 1) := by decide +kernel
theorem dX8_addStage_86 : decode cX8_addStage 86 = .ok (.iand, 1) := by decide +kernel
theorem dX8_addStage_87 : decode cX8_addStage 87 = .ok (.ifCond .eq 6, 3) := by decide +kernel
theorem dX8_addStage_90 : decode cX8_addStage 90 = .ok (.bipush (-13), 2) := by decide +kernel
theorem dX8_addStage_92 : decode cX8_addStage 92 = .ok (.ireturn, 1) := by decide +kernel
theorem dX8_addStage_93 : decode cX8_addStage 93 = .ok (.iload 5, 2) := by decide +kernel
theorem dX8_addStage_95 : decode cX8_addStage 95 = .ok (.bipush 6, 2) := by decide +kernel
theorem dX8_addStage_97 : decode cX8_addStage 97 = .ok (.if_icmp .ne 6, 3) := by decide +kernel
theorem dX8_addStage_100 : decode cX8_addStage 100 = .ok (.bipush (-14), 2) := by decide +kernel
theorem dX8_addStage_102 : decode cX8_addStage 102 = .ok (.ireturn, 1) := by decide +kernel
theorem dX8_addStage_103 : decode cX8_addStage 103 = .ok (.aload_n 0, 1) := by decide +kernel
theorem dX8_addStage_104 : decode cX8_addStage 104 = .ok (.iload_n 1, 1) := by decide +kernel
theorem dX8_addStage_105 : decode cX8_addStage 105 = .ok (.iload_n 2, 1) := by decide +kernel
theorem dX8_addStage_106 : decode cX8_addStage 106 = .ok (.iload_n 3, 1) := by decide +kernel
theorem dX8_addStage_107 : decode cX8_addStage 107 = .ok (.iload 4, 2) := by decide +kernel
theorem dX8_addStage_109 : decode cX8_addStage 109 = .ok (.invokevirtual 55, 3) := by decide +kernel
theorem dX8_addStage_112 : decode cX8_addStage 112 = .ok (.iload 5, 2) := by decide +kernel
theorem dX8_addStage_114 : decode cX8_addStage 114 = .ok (.iconst 1, 1) := by decide +kernel
theorem dX8_addStage_115 : decode cX8_addStage 115 = .ok (.iadd, 1) := by decide +kernel
theorem dX8_addStage_116 : decode cX8_addStage 116 = .ok (.ireturn, 1) := by decide +kernel
theorem dX8_size_0 : decode cX8_size 0 = .ok (.iconst 0, 1) := by decide +kernel
theorem dX8_size_1 : decode cX8_size 1 = .ok (.istore_n 1, 1) := by decide +kernel
theorem dX8_size_2 : decode cX8_size 2 = .ok (.iload_n 0, 1) := by decide +kernel
theorem dX8_size_3 : decode cX8_size 3 = .ok (.istore_n 2, 1) := by decide +kernel
theorem dX8_size_4 : decode cX8_size 4 = .ok (.iload_n 2, 1) := by decide +kernel
theorem dX8_size_5 : decode cX8_size 5 = .ok (.ifCond .eq 15, 3) := by decide +kernel
theorem dX8_size_8 : decode cX8_size 8 = .ok (.iinc 1 1, 3) := by decide +kernel
theorem dX8_size_11 : decode cX8_size 11 = .ok (.iload_n 2, 1) := by decide +kernel
theorem dX8_size_12 : decode cX8_size 12 = .ok (.iload_n 2, 1) := by decide +kernel
theorem dX8_size_13 : decode cX8_size 13 = .ok (.iconst 1, 1) := by decide +kernel
theorem dX8_size_14 : decode cX8_size 14 = .ok (.isub, 1) := by decide +kernel
theorem dX8_size_15 : decode cX8_size 15 = .ok (.iand, 1) := by decide +kernel
theorem dX8_size_16 : decode cX8_size 16 = .ok (.istore_n 2, 1) := by decide +kernel
theorem dX8_size_17 : decode cX8_size 17 = .ok (.goto (-13), 3) := by decide +kernel
theorem dX8_size_20 : decode cX8_size 20 = .ok (.iload_n 1, 1) := by decide +kernel
theorem dX8_size_21 : decode cX8_size 21 = .ok (.ireturn, 1) := by decide +kernel
theorem dX8_putAfter_0 : decode cX8_putAfter 0 = .ok (.aload_n 0, 1) := by decide +kernel
theorem dX8_putAfter_1 : decode cX8_putAfter 1 = .ok (.iload_n 1, 1) := by decide +kernel
theorem dX8_putAfter_2 : decode cX8_putAfter 2 = .ok (.invokevirtual 48, 3) := by decide +kernel
theorem dX8_putAfter_5 : decode cX8_putAfter 5 = .ok (.ifCond .eq 14, 3) := by decide +kernel
theorem dX8_putAfter_8 : decode cX8_putAfter 8 = .ok (.iload_n 2, 1) := by decide +kernel
theorem dX8_putAfter_9 : decode cX8_putAfter 9 = .ok (.iconst 0, 1) := by decide +kernel
theorem dX8_putAfter_10 : decode cX8_putAfter 10 = .ok (.iload_n 1, 1) := by decide +kernel
theorem dX8_putAfter_11 : decode cX8_putAfter 11 = .ok (.iconst 1, 1) := by decide +kernel
theorem dX8_putAfter_12 : decode cX8_putAfter 12 = .ok (.isub, 1) := by decide +kernel
theorem dX8_putAfter_13 : decode cX8_putAfter 13 = .ok (.invokestatic 37, 3) := by decide +kernel
theorem dX8_putAfter_16 : decode cX8_putAfter 16 = .ok (.ifCond .ne 6, 3) := by decide +kernel
theorem dX8_putAfter_19 : decode cX8_putAfter 19 = .ok (.bipush (-11), 2) := by decide +kernel
theorem dX8_putAfter_21 : decode cX8_putAfter 21 = .ok (.ireturn, 1) := by decide +kernel
theorem dX8_putAfter_22 : decode cX8_putAfter 22 = .ok (.aload_n 0, 1) := by decide +kernel
theorem dX8_putAfter_23 : decode cX8_putAfter 23 = .ok (.getfield 7, 3) := by decide +kernel
theorem dX8_putAfter_26 : decode cX8_putAfter 26 = .ok (.iload_n 1, 1) := by decide +kernel
theorem dX8_putAfter_27 : decode cX8_putAfter 27 = .ok (.iconst 1, 1) := by decide +kernel
theorem dX8_putAfter_28 : decode cX8_putAfter 28 = .ok (.invokestatic 33, 3) := by decide +kernel
theorem dX8_putAfter_31 : decode cX8_putAfter 31 = .ok (.iaload, 1) := by decide +kernel
theorem dX8_putAfter_32 : decode cX8_putAfter 32 = .ok (.ifCond .eq 6, 3) := by decide +kernel
theorem dX8_putAfter_35 : decode cX8_putAfter 35 = .ok (.bipush (-13), 2) := by decide +kernel
theorem dX8_putAfter_37 : decode cX8_putAfter 37 = .ok (.ireturn, 1) := by decide +kernel
theorem dX8_putAfter_38 : decode cX8_putAfter 38 = .ok (.aload_n 0, 1) := by decide +kernel
theorem dX8_putAfter_39 : decode cX8_putAfter 39 = .ok (.getfield 7, 3) := by decide +kernel
theorem dX8_putAfter_42 : decode cX8_putAfter 42 = .ok (.iload_n 1, 1) := by decide +kernel
theorem dX8_putAfter_43 : decode cX8_putAfter 43 = .ok (.iconst 4, 1) := by decide +kernel
theorem dX8_putAfter_44 : decode cX8_putAfter 44 = .ok (.invokestatic 33, 3) := by decide +kernel
theorem dX8_putAfter_47 : decode cX8_putAfter 47 = .ok (.dup2, 1) := by decide +kernel
theorem dX8_putAfter_48 : decode cX8_putAfter 48 = .ok (.iaload, 1) := by decide +kernel
theorem dX8_putAfter_49 : decode cX8_putAfter 49 = .ok (.iconst 1, 1) := by decide +kernel
theorem dX8_putAfter_50 : decode cX8_putAfter 50 = .ok (.iload_n 2, 1) := by decide +kernel
theorem dX8_putAfter_51 : decode cX8_putAfter 51 = .ok (.ishl, 1) := by decide +kernel
theorem dX8_putAfter_52 : decode cX8_putAfter 52 = .ok (.ior, 1) := by decide +kernel
theorem dX8_putAfter_53 : decode cX8_putAfter 53 = .ok (.iastore, 1) := by decide +kernel
theorem dX8_putAfter_54 : decode cX8_putAfter 54 = .ok (.aload_n 0, 1) := by decide +kernel
theorem dX8_putAfter_55 : decode cX8_putAfter 55 = .ok (.getfield 7, 3) := by decide +kernel
theorem dX8_putAfter_58 : decode cX8_putAfter 58 = .ok (.iload_n 1, 1) := by decide +kernel
theorem dX8_putAfter_59 : decode cX8_putAfter 59 = .ok (.iconst 4, 1) := by decide +kernel
theorem dX8_putAfter_60 : decode cX8_putAfter 60 = .ok (.invokestatic 33, 3) := by decide +kernel
theorem dX8_putAfter_63 : decode cX8_putAfter 63 = .ok (.iaload, 1) := by decide +kernel
theorem dX8_putAfter_64 : decode cX8_putAfter 64 = .ok (.invokestatic 59, 3) := by decide +kernel
theorem dX8_putAfter_67 : decode cX8_putAfter 67 = .ok (.ireturn, 1) := by decide +kernel
theorem dX8_changes_0 : decode cX8_changes 0 = .ok (.aload_n 0, 1) := by decide +kernel
theorem dX8_changes_1 : decode cX8_changes 1 = .ok (.getfield 7, 3) := by decide +kernel
theorem dX8_changes_4 : decode cX8_changes 4 = .ok (.bipush 10, 2) := by decide +kernel
theorem dX8_changes_6 : decode cX8_changes 6 = .ok (.iaload, 1) := by decide +kernel
theorem dX8_changes_7 : decode cX8_changes 7 = .ok (.ireturn, 1) := by decide +kernel
theorem dX8_stage_0 : decode cX8_stage 0 = .ok (.aload_n 0, 1) := by decide +kernel
theorem dX8_stage_1 : decode cX8_stage 1 = .ok (.iload_n 1, 1) := by decide +kernel
theorem dX8_stage_2 : decode cX8_stage 2 = .ok (.invokevirtual 48, 3) := by decide +kernel
theorem dX8_stage_5 : decode cX8_stage 5 = .ok (.ifCond .eq 23, 3) := by decide +kernel
theorem dX8_stage_8 : decode cX8_stage 8 = .ok (.iload_n 2, 1) := by decide +kernel
theorem dX8_stage_9 : decode cX8_stage 9 = .ok (.iconst 0, 1) := by decide +kernel
theorem dX8_stage_10 : decode cX8_stage 10 = .ok (.aload_n 0, 1) := by decide +kernel
theorem dX8_stage_11 : decode cX8_stage 11 = .ok (.getfield 7, 3) := by decide +kernel
theorem dX8_stage_14 : decode cX8_stage 14 = .ok (.iload_n 1, 1) := by decide +kernel
theorem dX8_stage_15 : decode cX8_stage 15 = .ok (.iconst 2, 1) := by decide +kernel
theorem dX8_stage_16 : decode cX8_stage 16 = .ok (.invokestatic 33, 3) := by decide +kernel
theorem dX8_stage_19 : decode cX8_stage 19 = .ok (.iaload, 1) := by decide +kernel
theorem dX8_stage_20 : decode cX8_stage 20 = .ok (.iconst 1, 1) := by decide +kernel
theorem dX8_stage_21 : decode cX8_stage 21 = .ok (.isub, 1) := by decide +kernel
theorem dX8_stage_22 : decode cX8_stage 22 = .ok (.invokestatic 37, 3) := by decide +kernel
theorem dX8_stage_25 : decode cX8_stage 25 = .ok (.ifCond .ne 6, 3) := by decide +kernel
theorem dX8_stage_28 : decode cX8_stage 28 = .ok (.bipush (-11), 2) := by decide +kernel
theorem dX8_stage_30 : decode cX8_stage 30 = .ok (.ireturn, 1) := by decide +kernel
theorem dX8_stage_31 : decode cX8_stage 31 = .ok (.iload_n 3, 1) := by decide +kernel
theorem dX8_stage_32 : decode cX8_stage 32 = .ok (.iconst 0, 1) := by decide +kernel
theorem dX8_stage_33 : decode cX8_stage 33 = .ok (.iconst 2, 1) := by decide +kernel
theorem dX8_stage_34 : decode cX8_stage 34 = .ok (.invokestatic 37, 3) := by decide +kernel
theorem dX8_stage_37 : decode cX8_stage 37 = .ok (.ifCond .eq 17, 3) := by decide +kernel
theorem dX8_stage_40 : decode cX8_stage 40 = .ok (.aload_n 0, 1) := by decide +kernel
theorem dX8_stage_41 : decode cX8_stage 41 = .ok (.getfield 7, 3) := by decide +kernel
theorem dX8_stage_44 : decode cX8_stage 44 = .ok (.iload_n 1, 1) := by decide +kernel
theorem dX8_stage_45 : decode cX8_stage 45 = .ok (.iload_n 2, 1) := by decide +kernel
theorem dX8_stage_46 : decode cX8_stage 46 = .ok (.iload_n 3, 1) := by decide +kernel
theorem dX8_stage_47 : decode cX8_stage 47 = .ok (.invokestatic 44, 3) := by decide +kernel
theorem dX8_stage_50 : decode cX8_stage 50 = .ok (.iaload, 1) := by decide +kernel
theorem dX8_stage_51 : decode cX8_stage 51 = .ok (.goto 5, 3) := by decide +kernel
theorem dX8_stage_54 : decode cX8_stage 54 = .ok (.bipush (-12), 2) := by decide +kernel
theorem dX8_stage_56 : decode cX8_stage 56 = .ok (.ireturn, 1) := by decide +kernel
theorem dX8_append_0 : decode cX8_append 0 = .ok (.iload_n 1, 1) := by decide +kernel
theorem dX8_append_1 : decode cX8_append 1 = .ok (.iconst 0, 1) := by decide +kernel
theorem dX8_append_2 : decode cX8_append 2 = .ok (.bipush 127, 2) := by decide +kernel
theorem dX8_append_4 : decode cX8_append 4 = .ok (.invokestatic 37, 3) := by decide +kernel
theorem dX8_append_7 : decode cX8_append 7 = .ok (.ifCond .ne 6, 3) := by decide +kernel
theorem dX8_append_10 : decode cX8_append 10 = .ok (.bipush (-12), 2) := by decide +kernel
theorem dX8_append_12 : decode cX8_append 12 = .ok (.ireturn, 1) := by decide +kernel
theorem dX8_append_13 : decode cX8_append 13 = .ok (.aload_n 0, 1) := by decide +kernel
theorem dX8_append_14 : decode cX8_append 14 = .ok (.getfield 63, 3) := by decide +kernel
theorem dX8_append_17 : decode cX8_append 17 = .ok (.bipush 60, 2) := by decide +kernel
theorem dX8_append_19 : decode cX8_append 19 = .ok (.if_icmp .ne 6, 3) := by decide +kernel
theorem dX8_append_22 : decode cX8_append 22 = .ok (.bipush (-14), 2) := by decide +kernel
theorem dX8_append_24 : decode cX8_append 24 = .ok (.ireturn, 1) := by decide +kernel
theorem dX8_append_25 : decode cX8_append 25 = .ok (.aload_n 0, 1) := by decide +kernel
theorem dX8_append_26 : decode cX8_append 26 = .ok (.getfield 23, 3) := by decide +kernel
theorem dX8_append_29 : decode cX8_append 29 = .ok (.aload_n 0, 1) := by decide +kernel
theorem dX8_append_30 : decode cX8_append 30 = .ok (.getfield 63, 3) := by decide +kernel
theorem dX8_append_33 : decode cX8_append 33 = .ok (.iload_n 1, 1) := by decide +kernel
theorem dX8_append_34 : decode cX8_append 34 = .ok (.iastore, 1) := by decide +kernel
theorem dX8_append_35 : decode cX8_append 35 = .ok (.aload_n 0, 1) := by decide +kernel
theorem dX8_append_36 : decode cX8_append 36 = .ok (.dup, 1) := by decide +kernel
theorem dX8_append_37 : decode cX8_append 37 = .ok (.getfield 63, 3) := by decide +kernel
theorem dX8_append_40 : decode cX8_append 40 = .ok (.iconst 1, 1) := by decide +kernel
theorem dX8_append_41 : decode cX8_append 41 = .ok (.iadd, 1) := by decide +kernel
theorem dX8_append_42 : decode cX8_append 42 = .ok (.putfield 63, 3) := by decide +kernel
theorem dX8_append_45 : decode cX8_append 45 = .ok (.aload_n 0, 1) := by decide +kernel
theorem dX8_append_46 : decode cX8_append 46 = .ok (.getfield 63, 3) := by decide +kernel
theorem dX8_append_49 : decode cX8_append 49 = .ok (.ireturn, 1) := by decide +kernel
theorem dX8_clearText_0 : decode cX8_clearText 0 = .ok (.aload_n 0, 1) := by decide +kernel
theorem dX8_clearText_1 : decode cX8_clearText 1 = .ok (.getfield 63, 3) := by decide +kernel
theorem dX8_clearText_4 : decode cX8_clearText 4 = .ok (.istore_n 1, 1) := by decide +kernel
theorem dX8_clearText_5 : decode cX8_clearText 5 = .ok (.aload_n 0, 1) := by decide +kernel
theorem dX8_clearText_6 : decode cX8_clearText 6 = .ok (.iconst 0, 1) := by decide +kernel
theorem dX8_clearText_7 : decode cX8_clearText 7 = .ok (.putfield 63, 3) := by decide +kernel
theorem dX8_clearText_10 : decode cX8_clearText 10 = .ok (.iload_n 1, 1) := by decide +kernel
theorem dX8_clearText_11 : decode cX8_clearText 11 = .ok (.ireturn, 1) := by decide +kernel
theorem dX8_here_0 : decode cX8_here 0 = .ok (.aload_n 0, 1) := by decide +kernel
theorem dX8_here_1 : decode cX8_here 1 = .ok (.getfield 67, 3) := by decide +kernel
theorem dX8_here_4 : decode cX8_here 4 = .ok (.aload_n 0, 1) := by decide +kernel
theorem dX8_here_5 : decode cX8_here 5 = .ok (.getfield 63, 3) := by decide +kernel
theorem dX8_here_8 : decode cX8_here 8 = .ok (.if_icmp .ge 15, 3) := by decide +kernel
theorem dX8_here_11 : decode cX8_here 11 = .ok (.aload_n 0, 1) := by decide +kernel
theorem dX8_here_12 : decode cX8_here 12 = .ok (.getfield 23, 3) := by decide +kernel
theorem dX8_here_15 : decode cX8_here 15 = .ok (.aload_n 0, 1) := by decide +kernel
theorem dX8_here_16 : decode cX8_here 16 = .ok (.getfield 67, 3) := by decide +kernel
theorem dX8_here_19 : decode cX8_here 19 = .ok (.iaload, 1) := by decide +kernel
theorem dX8_here_20 : decode cX8_here 20 = .ok (.goto 4, 3) := by decide +kernel
theorem dX8_here_23 : decode cX8_here 23 = .ok (.iconst (-1), 1) := by decide +kernel
theorem dX8_here_24 : decode cX8_here 24 = .ok (.ireturn, 1) := by decide +kernel
theorem dX8_takes_0 : decode cX8_takes 0 = .ok (.aload_n 0, 1) := by decide +kernel
theorem dX8_takes_1 : decode cX8_takes 1 = .ok (.invokevirtual 70, 3) := by decide +kernel
theorem dX8_takes_4 : decode cX8_takes 4 = .ok (.iload_n 1, 1) := by decide +kernel
theorem dX8_takes_5 : decode cX8_takes 5 = .ok (.if_icmp .ne 7, 3) := by decide +kernel
theorem dX8_takes_8 : decode cX8_takes 8 = .ok (.iconst 1, 1) := by decide +kernel
theorem dX8_takes_9 : decode cX8_takes 9 = .ok (.goto 4, 3) := by decide +kernel
theorem dX8_takes_12 : decode cX8_takes 12 = .ok (.iconst 0, 1) := by decide +kernel
theorem dX8_takes_13 : decode cX8_takes 13 = .ok (.istore_n 2, 1) := by decide +kernel
theorem dX8_takes_14 : decode cX8_takes 14 = .ok (.aload_n 0, 1) := by decide +kernel
theorem dX8_takes_15 : decode cX8_takes 15 = .ok (.dup, 1) := by decide +kernel
theorem dX8_takes_16 : decode cX8_takes 16 = .ok (.getfield 67, 3) := by decide +kernel
theorem dX8_takes_19 : decode cX8_takes 19 = .ok (.iload_n 2, 1) := by decide +kernel
theorem dX8_takes_20 : decode cX8_takes 20 = .ok (.ifCond .eq 7, 3) := by decide +kernel
theorem dX8_takes_23 : decode cX8_takes 23 = .ok (.iconst 1, 1) := by decide +kernel
theorem dX8_takes_24 : decode cX8_takes 24 = .ok (.goto 4, 3) := by decide +kernel
theorem dX8_takes_27 : decode cX8_takes 27 = .ok (.iconst 0, 1) := by decide +kernel
theorem dX8_takes_28 : decode cX8_takes 28 = .ok (.iadd, 1) := by decide +kernel
theorem dX8_takes_29 : decode cX8_takes 29 = .ok (.putfield 67, 3) := by decide +kernel
theorem dX8_takes_32 : decode cX8_takes 32 = .ok (.iload_n 2, 1) := by decide +kernel
theorem dX8_takes_33 : decode cX8_takes 33 = .ok (.ireturn, 1) := by decide +kernel
theorem dX8_digit_0 : decode cX8_digit 0 = .ok (.aload_n 0, 1) := by decide +kernel
theorem dX8_digit_1 : decode cX8_digit 1 = .ok (.invokevirtual 70, 3) := by decide +kernel
theorem dX8_digit_4 : decode cX8_digit 4 = .ok (.bipush 48, 2) := by decide +kernel
theorem dX8_digit_6 : decode cX8_digit 6 = .ok (.bipush 57, 2) := by decide +kernel
theorem dX8_digit_8 : decode cX8_digit 8 = .ok (.invokestatic 37, 3) := by decide +kernel
theorem dX8_digit_11 : decode cX8_digit 11 = .ok (.ifCond .eq 13, 3) := by decide +kernel
theorem dX8_digit_14 : decode cX8_digit 14 = .ok (.aload_n 0, 1) := by decide +kernel
theorem dX8_digit_15 : decode cX8_digit 15 = .ok (.invokevirtual 70, 3) := by decide +kernel
theorem dX8_digit_18 : decode cX8_digit 18 = .ok (.bipush 48, 2) := by decide +kernel
theorem dX8_digit_20 : decode cX8_digit 20 = .ok (.isub, 1) := by decide +kernel
theorem dX8_digit_21 : decode cX8_digit 21 = .ok (.goto 4, 3) := by decide +kernel
theorem dX8_digit_24 : decode cX8_digit 24 = .ok (.iconst (-1), 1) := by decide +kernel
theorem dX8_digit_25 : decode cX8_digit 25 = .ok (.ireturn, 1) := by decide +kernel
theorem dX8_number_0 : decode cX8_number 0 = .ok (.aload_n 0, 1) := by decide +kernel
theorem dX8_number_1 : decode cX8_number 1 = .ok (.getfield 67, 3) := by decide +kernel
theorem dX8_number_4 : decode cX8_number 4 = .ok (.istore_n 2, 1) := by decide +kernel
theorem dX8_number_5 : decode cX8_number 5 = .ok (.aload_n 0, 1) := by decide +kernel
theorem dX8_number_6 : decode cX8_number 6 = .ok (.invokevirtual 74, 3) := by decide +kernel
theorem dX8_number_9 : decode cX8_number 9 = .ok (.ifCond .ge 5, 3) := by decide +kernel
theorem dX8_number_12 : decode cX8_number 12 = .ok (.iconst 0, 1) := by decide +kernel
theorem dX8_number_13 : decode cX8_number 13 = .ok (.ireturn, 1) := by decide +kernel
theorem dX8_number_14 : decode cX8_number 14 = .ok (.aload_n 0, 1) := by decide +kernel
theorem dX8_number_15 : decode cX8_number 15 = .ok (.aload_n 0, 1) := by decide +kernel
theorem dX8_number_16 : decode cX8_number 16 = .ok (.invokevirtual 74, 3) := by decide +kernel
theorem dX8_number_19 : decode cX8_number 19 = .ok (.putfield 77, 3) := by decide +kernel
theorem dX8_number_22 : decode cX8_number 22 = .ok (.aload_n 0, 1) := by decide +kernel
theorem dX8_number_23 : decode cX8_number 23 = .ok (.dup, 1) := by decide +kernel
theorem dX8_number_24 : decode cX8_number 24 = .ok (.getfield 67, 3) := by decide +kernel
theorem dX8_number_27 : decode cX8_number 27 = .ok (.iconst 1, 1) := by decide +kernel
theorem dX8_number_28 : decode cX8_number 28 = .ok (.iadd, 1) := by decide +kernel
theorem dX8_number_29 : decode cX8_number 29 = .ok (.putfield 67, 3) := by decide +kernel
theorem dX8_number_32 : decode cX8_number 32 = .ok (.aload_n 0, 1) := by decide +kernel
theorem dX8_number_33 : decode cX8_number 33 = .ok (.getfield 77, 3) := by decide +kernel
theorem dX8_number_36 : decode cX8_number 36 = .ok (.ifCond .le 36, 3) := by decide +kernel
theorem dX8_number_39 : decode cX8_number 39 = .ok (.aload_n 0, 1) := by decide +kernel
theorem dX8_number_40 : decode cX8_number 40 = .ok (.invokevirtual 74, 3) := by decide +kernel
theorem dX8_number_43 : decode cX8_number 43 = .ok (.ifCond .lt 29, 3) := by decide +kernel
theorem dX8_number_46 : decode cX8_number 46 = .ok (.aload_n 0, 1) := by decide +kernel
theorem dX8_number_47 : decode cX8_number 47 = .ok (.bipush 10, 2) := by decide +kernel
theorem dX8_number_49 : decode cX8_number 49 = .ok (.aload_n 0, 1) := by decide +kernel
theorem dX8_number_50 : decode cX8_number 50 = .ok (.getfield 77, 3) := by decide +kernel
theorem dX8_number_53 : decode cX8_number 53 = .ok (.imul, 1) := by decide +kernel
theorem dX8_number_54 : decode cX8_number 54 = .ok (.aload_n 0, 1) := by decide +kernel
theorem dX8_number_55 : decode cX8_number 55 = .ok (.invokevirtual 74, 3) := by decide +kernel
theorem dX8_number_58 : decode cX8_number 58 = .ok (.iadd, 1) := by decide +kernel
theorem dX8_number_59 : decode cX8_number 59 = .ok (.putfield 77, 3) := by decide +kernel
theorem dX8_number_62 : decode cX8_number 62 = .ok (.aload_n 0, 1) := by decide +kernel
theorem dX8_number_63 : decode cX8_number 63 = .ok (.dup, 1) := by decide +kernel
theorem dX8_number_64 : decode cX8_number 64 = .ok (.getfield 67, 3) := by decide +kernel
theorem dX8_number_67 : decode cX8_number 67 = .ok (.iconst 1, 1) := by decide +kernel
theorem dX8_number_68 : decode cX8_number 68 = .ok (.iadd, 1) := by decide +kernel
theorem dX8_number_69 : decode cX8_number 69 = .ok (.putfield 67, 3) := by decide +kernel
theorem dX8_number_72 : decode cX8_number 72 = .ok (.aload_n 0, 1) := by decide +kernel
theorem dX8_number_73 : decode cX8_number 73 = .ok (.getfield 77, 3) := by decide +kernel
theorem dX8_number_76 : decode cX8_number 76 = .ok (.iload_n 1, 1) := by decide +kernel
theorem dX8_number_77 : decode cX8_number 77 = .ok (.if_icmp .gt 7, 3) := by decide +kernel
theorem dX8_number_80 : decode cX8_number 80 = .ok (.iconst 1, 1) := by decide +kernel
theorem dX8_number_81 : decode cX8_number 81 = .ok (.goto 4, 3) := by decide +kernel
theorem dX8_number_84 : decode cX8_number 84 = .ok (.iconst 0, 1) := by decide +kernel
theorem dX8_number_85 : decode cX8_number 85 = .ok (.istore_n 3, 1) := by decide +kernel
theorem dX8_number_86 : decode cX8_number 86 = .ok (.aload_n 0, 1) := by decide +kernel
theorem dX8_number_87 : decode cX8_number 87 = .ok (.iload_n 3, 1) := by decide +kernel
theorem dX8_number_88 : decode cX8_number 88 = .ok (.ifCond .eq 10, 3) := by decide +kernel
theorem dX8_number_91 : decode cX8_number 91 = .ok (.aload_n 0, 1) := by decide +kernel
theorem dX8_number_92 : decode cX8_number 92 = .ok (.getfield 67, 3) := by decide +kernel
theorem dX8_number_95 : decode cX8_number 95 = .ok (.goto 4, 3) := by decide +kernel
theorem dX8_number_98 : decode cX8_number 98 = .ok (.iload_n 2, 1) := by decide +kernel
theorem dX8_number_99 : decode cX8_number 99 = .ok (.putfield 67, 3) := by decide +kernel
theorem dX8_number_102 : decode cX8_number 102 = .ok (.iload_n 3, 1) := by decide +kernel
theorem dX8_number_103 : decode cX8_number 103 = .ok (.ireturn, 1) := by decide +kernel
theorem dX8_cells_0 : decode cX8_cells 0 = .ok (.iconst 0, 1) := by decide +kernel
theorem dX8_cells_1 : decode cX8_cells 1 = .ok (.istore_n 2, 1) := by decide +kernel
theorem dX8_cells_2 : decode cX8_cells 2 = .ok (.iconst (-1), 1) := by decide +kernel
theorem dX8_cells_3 : decode cX8_cells 3 = .ok (.istore_n 3, 1) := by decide +kernel
theorem dX8_cells_4 : decode cX8_cells 4 = .ok (.aload_n 0, 1) := by decide +kernel
theorem dX8_cells_5 : decode cX8_cells 5 = .ok (.invokevirtual 74, 3) := by decide +kernel
theorem dX8_cells_8 : decode cX8_cells 8 = .ok (.ifCond .lt 59, 3) := by decide +kernel
theorem dX8_cells_11 : decode cX8_cells 11 = .ok (.aload_n 0, 1) := by decide +kernel
theorem dX8_cells_12 : decode cX8_cells 12 = .ok (.invokevirtual 74, 3) := by decide +kernel
theorem dX8_cells_15 : decode cX8_cells 15 = .ok (.istore 4, 2) := by decide +kernel
theorem dX8_cells_17 : decode cX8_cells 17 = .ok (.iload 4, 2) := by decide +kernel
theorem dX8_cells_19 : decode cX8_cells 19 = .ok (.iload_n 3, 1) := by decide +kernel
theorem dX8_cells_20 : decode cX8_cells 20 = .ok (.if_icmp .le 22, 3) := by decide +kernel
theorem dX8_cells_23 : decode cX8_cells 23 = .ok (.aload_n 0, 1) := by decide +kernel
theorem dX8_cells_24 : decode cX8_cells 24 = .ok (.iload 4, 2) := by decide +kernel
theorem dX8_cells_26 : decode cX8_cells 26 = .ok (.invokevirtual 80, 3) := by decide +kernel
theorem dX8_cells_29 : decode cX8_cells 29 = .ok (.ifCond .eq 13, 3) := by decide +kernel
theorem dX8_cells_32 : decode cX8_cells 32 = .ok (.iload_n 1, 1) := by decide +kernel
theorem dX8_cells_33 : decode cX8_cells 33 = .ok (.iload 4, 2) := by decide +kernel
theorem dX8_cells_35 : decode cX8_cells 35 = .ok (.ishr, 1) := by decide +kernel
theorem dX8_cells_36 : decode cX8_cells 36 = .ok (.iconst 1, 1) := by decide +kernel
theorem dX8_cells_37 : decode cX8_cells 37 = .ok (.iand, 1) := by decide +kernel
theorem dX8_cells_38 : decode cX8_cells 38 = .ok (.iconst 1, 1) := by decide +kernel
theorem dX8_cells_39 : decode cX8_cells 39 = .ok (.if_icmp .ne 5, 3) := by decide +kernel
theorem dX8_cells_42 : decode cX8_cells 42 = .ok (.iconst 0, 1) := by decide +kernel
theorem dX8_cells_43 : decode cX8_cells 43 = .ok (.ireturn, 1) := by decide +kernel
theorem dX8_cells_44 : decode cX8_cells 44 = .ok (.iload_n 2, 1) := by decide +kernel
theorem dX8_cells_45 : decode cX8_cells 45 = .ok (.iconst 1, 1) := by decide +kernel
theorem dX8_cells_46 : decode cX8_cells 46 = .ok (.iload 4, 2) := by decide +kernel
theorem dX8_cells_48 : decode cX8_cells 48 = .ok (.ishl, 1) := by decide +kernel
theorem dX8_cells_49 : decode cX8_cells 49 = .ok (.ior, 1) := by decide +kernel
theorem dX8_cells_50 : decode cX8_cells 50 = .ok (.istore_n 2, 1) := by decide +kernel
theorem dX8_cells_51 : decode cX8_cells 51 = .ok (.iload 4, 2) := by decide +kernel
theorem dX8_cells_53 : decode cX8_cells 53 = .ok (.istore_n 3, 1) := by decide +kernel
theorem dX8_cells_54 : decode cX8_cells 54 = .ok (.aload_n 0, 1) := by decide +kernel
theorem dX8_cells_55 : decode cX8_cells 55 = .ok (.dup, 1) := by decide +kernel
theorem dX8_cells_56 : decode cX8_cells 56 = .ok (.getfield 67, 3) := by decide +kernel
theorem dX8_cells_59 : decode cX8_cells 59 = .ok (.iconst 1, 1) := by decide +kernel
theorem dX8_cells_60 : decode cX8_cells 60 = .ok (.iadd, 1) := by decide +kernel
theorem dX8_cells_61 : decode cX8_cells 61 = .ok (.putfield 67, 3) := by decide +kernel
theorem dX8_cells_64 : decode cX8_cells 64 = .ok (.goto (-60), 3) := by decide +kernel
theorem dX8_cells_67 : decode cX8_cells 67 = .ok (.aload_n 0, 1) := by decide +kernel
theorem dX8_cells_68 : decode cX8_cells 68 = .ok (.iload_n 2, 1) := by decide +kernel
theorem dX8_cells_69 : decode cX8_cells 69 = .ok (.putfield 77, 3) := by decide +kernel
theorem dX8_cells_72 : decode cX8_cells 72 = .ok (.iload_n 2, 1) := by decide +kernel
theorem dX8_cells_73 : decode cX8_cells 73 = .ok (.ifCond .eq 7, 3) := by decide +kernel
theorem dX8_cells_76 : decode cX8_cells 76 = .ok (.iconst 1, 1) := by decide +kernel
theorem dX8_cells_77 : decode cX8_cells 77 = .ok (.goto 4, 3) := by decide +kernel
theorem dX8_cells_80 : decode cX8_cells 80 = .ok (.iconst 0, 1) := by decide +kernel
theorem dX8_cells_81 : decode cX8_cells 81 = .ok (.ireturn, 1) := by decide +kernel
theorem dX8_isStage_0 : decode cX8_isStage 0 = .ok (.iconst 3, 1) := by decide +kernel
theorem dX8_isStage_1 : decode cX8_isStage 1 = .ok (.aload_n 0, 1) := by decide +kernel
theorem dX8_isStage_2 : decode cX8_isStage 2 = .ok (.getfield 83, 3) := by decide +kernel
theorem dX8_isStage_5 : decode cX8_isStage 5 = .ok (.imul, 1) := by decide +kernel
theorem dX8_isStage_6 : decode cX8_isStage 6 = .ok (.istore_n 2, 1) := by decide +kernel
theorem dX8_isStage_7 : decode cX8_isStage 7 = .ok (.aload_n 0, 1) := by decide +kernel
theorem dX8_isStage_8 : decode cX8_isStage 8 = .ok (.getfield 83, 3) := by decide +kernel
theorem dX8_isStage_11 : decode cX8_isStage 11 = .ok (.bipush 6, 2) := by decide +kernel
theorem dX8_isStage_13 : decode cX8_isStage 13 = .ok (.if_icmp .eq 11, 3) := by decide +kernel
theorem dX8_isStage_16 : decode cX8_isStage 16 = .ok (.aload_n 0, 1) := by decide +kernel
theorem dX8_isStage_17 : decode cX8_isStage 17 = .ok (.iload_n 1, 1) := by decide +kernel
theorem dX8_isStage_18 : decode cX8_isStage 18 = .ok (.invokevirtual 86, 3) := by decide +kernel
theorem dX8_isStage_21 : decode cX8_isStage 21 = .ok (.ifCond .ne 5, 3) := by decide +kernel
theorem dX8_isStage_24 : decode cX8_isStage 24 = .ok (.iconst 0, 1) := by decide +kernel
theorem dX8_isStage_25 : decode cX8_isStage 25 = .ok (.ireturn, 1) := by decide +kernel
theorem dX8_isStage_26 : decode cX8_isStage 26 = .ok (.aload_n 0, 1) := by decide +kernel
theorem dX8_isStage_27 : decode cX8_isStage 27 = .ok (.getfield 26, 3) := by decide +kernel
theorem dX8_isStage_30 : decode cX8_isStage 30 = .ok (.iload_n 2, 1) := by decide +kernel
theorem dX8_isStage_31 : decode cX8_isStage 31 = .ok (.aload_n 0, 1) := by decide +kernel
theorem dX8_isStage_32 : decode cX8_isStage 32 = .ok (.getfield 77, 3) := by decide +kernel
theorem dX8_isStage_35 : decode cX8_isStage 35 = .ok (.iastore, 1) := by decide +kernel
theorem dX8_isStage_36 : decode cX8_isStage 36 = .ok (.aload_n 0, 1) := by decide +kernel
theorem dX8_isStage_37 : decode cX8_isStage 37 = .ok (.bipush 58, 2) := by decide +kernel
theorem dX8_isStage_39 : decode cX8_isStage 39 = .ok (.invokevirtual 89, 3) := by decide +kernel
theorem dX8_isStage_42 : decode cX8_isStage 42 = .ok (.ifCond .eq 12, 3) := by decide +kernel
theorem dX8_isStage_45 : decode cX8_isStage 45 = .ok (.aload_n 0, 1) := by decide +kernel
theorem dX8_isStage_46 : decode cX8_isStage 46 = .ok (.bipush 48, 2) := by decide +kernel
theorem dX8_isStage_48 : decode cX8_isStage 48 = .ok (.invokevirtual 92, 3) := by decide +kernel
theorem dX8_isStage_51 : decode cX8_isStage 51 = .ok (.ifCond .ne 5, 3) := by decide +kernel
theorem dX8_isStage_54 : decode cX8_isStage 54 = .ok (.iconst 0, 1) := by decide +kernel
theorem dX8_isStage_55 : decode cX8_isStage 55 = .ok (.ireturn, 1) := by decide +kernel
theorem dX8_isStage_56 : decode cX8_isStage 56 = .ok (.aload_n 0, 1) := by decide +kernel
theorem dX8_isStage_57 : decode cX8_isStage 57 = .ok (.getfield 26, 3) := by decide +kernel
theorem dX8_isStage_60 : decode cX8_isStage 60 = .ok (.iload_n 2, 1) := by decide +kernel
theorem dX8_isStage_61 : decode cX8_isStage 61 = .ok (.iconst 1, 1) := by decide +kernel
theorem dX8_isStage_62 : decode cX8_isStage 62 = .ok (.iadd, 1) := by decide +kernel
theorem dX8_isStage_63 : decode cX8_isStage 63 = .ok (.aload_n 0, 1) := by decide +kernel
theorem dX8_isStage_64 : decode cX8_isStage 64 = .ok (.getfield 77, 3) := by decide +kernel
theorem dX8_isStage_67 : decode cX8_isStage 67 = .ok (.iastore, 1) := by decide +kernel
theorem dX8_isStage_68 : decode cX8_isStage 68 = .ok (.aload_n 0, 1) := by decide +kernel
theorem dX8_isStage_69 : decode cX8_isStage 69 = .ok (.bipush 47, 2) := by decide +kernel
theorem dX8_isStage_71 : decode cX8_isStage 71 = .ok (.invokevirtual 89, 3) := by decide +kernel
theorem dX8_isStage_74 : decode cX8_isStage 74 = .ok (.ifCond .eq 12, 3) := by decide +kernel
theorem dX8_isStage_77 : decode cX8_isStage 77 = .ok (.aload_n 0, 1) := by decide +kernel
theorem dX8_isStage_78 : decode cX8_isStage 78 = .ok (.bipush 25, 2) := by decide +kernel
theorem dX8_isStage_80 : decode cX8_isStage 80 = .ok (.invokevirtual 92, 3) := by decide +kernel
theorem dX8_isStage_83 : decode cX8_isStage 83 = .ok (.ifCond .ne 5, 3) := by decide +kernel
theorem dX8_isStage_86 : decode cX8_isStage 86 = .ok (.iconst 0, 1) := by decide +kernel
theorem dX8_isStage_87 : decode cX8_isStage 87 = .ok (.ireturn, 1) := by decide +kernel
theorem dX8_isStage_88 : decode cX8_isStage 88 = .ok (.aload_n 0, 1) := by decide +kernel
theorem dX8_isStage_89 : decode cX8_isStage 89 = .ok (.getfield 26, 3) := by decide +kernel
theorem dX8_isStage_92 : decode cX8_isStage 92 = .ok (.iload_n 2, 1) := by decide +kernel
theorem dX8_isStage_93 : decode cX8_isStage 93 = .ok (.iconst 2, 1) := by decide +kernel
theorem dX8_isStage_94 : decode cX8_isStage 94 = .ok (.iadd, 1) := by decide +kernel
theorem dX8_isStage_95 : decode cX8_isStage 95 = .ok (.aload_n 0, 1) := by decide +kernel
theorem dX8_isStage_96 : decode cX8_isStage 96 = .ok (.getfield 77, 3) := by decide +kernel
theorem dX8_isStage_99 : decode cX8_isStage 99 = .ok (.iastore, 1) := by decide +kernel
theorem dX8_isStage_100 : decode cX8_isStage 100 = .ok (.aload_n 0, 1) := by decide +kernel
theorem dX8_isStage_101 : decode cX8_isStage 101 = .ok (.dup, 1) := by decide +kernel
theorem dX8_isStage_102 : decode cX8_isStage 102 = .ok (.getfield 83, 3) := by decide +kernel
theorem dX8_isStage_105 : decode cX8_isStage 105 = .ok (.iconst 1, 1) := by decide +kernel
theorem dX8_isStage_106 : decode cX8_isStage 106 = .ok (.iadd, 1) := by decide +kernel
theorem dX8_isStage_107 : decode cX8_isStage 107 = .ok (.putfield 83, 3) := by decide +kernel
theorem dX8_isStage_110 : decode cX8_isStage 110 = .ok (.aload_n 0, 1) := by decide +kernel
theorem dX8_isStage_111 : decode cX8_isStage 111 = .ok (.bipush 59, 2) := by decide +kernel
theorem dX8_isStage_113 : decode cX8_isStage 113 = .ok (.invokevirtual 89, 3) := by decide +kernel
theorem dX8_isStage_116 : decode cX8_isStage 116 = .ok (.ireturn, 1) := by decide +kernel
theorem dX8_isText_0 : decode cX8_isText 0 = .ok (.aload_n 0, 1) := by decide +kernel
theorem dX8_isText_1 : decode cX8_isText 1 = .ok (.iconst 0, 1) := by decide +kernel
theorem dX8_isText_2 : decode cX8_isText 2 = .ok (.putfield 67, 3) := by decide +kernel
theorem dX8_isText_5 : decode cX8_isText 5 = .ok (.aload_n 0, 1) := by decide +kernel
theorem dX8_isText_6 : decode cX8_isText 6 = .ok (.iconst 0, 1) := by decide +kernel
theorem dX8_isText_7 : decode cX8_isText 7 = .ok (.putfield 83, 3) := by decide +kernel
theorem dX8_isText_10 : decode cX8_isText 10 = .ok (.iconst 0, 1) := by decide +kernel
theorem dX8_isText_11 : decode cX8_isText 11 = .ok (.istore_n 1, 1) := by decide +kernel
theorem dX8_isText_12 : decode cX8_isText 12 = .ok (.iconst 1, 1) := by decide +kernel
theorem dX8_isText_13 : decode cX8_isText 13 = .ok (.istore_n 2, 1) := by decide +kernel
theorem dX8_isText_14 : decode cX8_isText 14 = .ok (.iload_n 2, 1) := by decide +kernel
theorem dX8_isText_15 : decode cX8_isText 15 = .ok (.ifCond .eq 47, 3) := by decide +kernel
theorem dX8_isText_18 : decode cX8_isText 18 = .ok (.aload_n 0, 1) := by decide +kernel
theorem dX8_isText_19 : decode cX8_isText 19 = .ok (.getfield 67, 3) := by decide +kernel
theorem dX8_isText_22 : decode cX8_isText 22 = .ok (.aload_n 0, 1) := by decide +kernel
theorem dX8_isText_23 : decode cX8_isText 23 = .ok (.getfield 63, 3) := by decide +kernel
theorem dX8_isText_26 : decode cX8_isText 26 = .ok (.if_icmp .ge 36, 3) := by decide +kernel
theorem dX8_isText_29 : decode cX8_isText 29 = .ok (.aload_n 0, 1) := by decide +kernel
theorem dX8_isText_30 : decode cX8_isText 30 = .ok (.iload_n 1, 1) := by decide +kernel
theorem dX8_isText_31 : decode cX8_isText 31 = .ok (.invokevirtual 94, 3) := by decide +kernel
theorem dX8_isText_34 : decode cX8_isText 34 = .ok (.istore_n 2, 1) := by decide +kernel
theorem dX8_isText_35 : decode cX8_isText 35 = .ok (.iload_n 1, 1) := by decide +kernel
theorem dX8_isText_36 : decode cX8_isText 36 = .ok (.iload_n 2, 1) := by decide +kernel
theorem dX8_isText_37 : decode cX8_isText 37 = .ok (.ifCond .eq 19, 3) := by decide +kernel
theorem dX8_isText_40 : decode cX8_isText 40 = .ok (.aload_n 0, 1) := by decide +kernel
theorem dX8_isText_41 : decode cX8_isText 41 = .ok (.getfield 26, 3) := by decide +kernel
theorem dX8_isText_44 : decode cX8_isText 44 = .ok (.iconst 3, 1) := by decide +kernel
theorem dX8_isText_45 : decode cX8_isText 45 = .ok (.aload_n 0, 1) := by decide +kernel
theorem dX8_isText_46 : decode cX8_isText 46 = .ok (.getfield 83, 3) := by decide +kernel
theorem dX8_isText_49 : decode cX8_isText 49 = .ok (.imul, 1) := by decide +kernel
theorem dX8_isText_50 : decode cX8_isText 50 = .ok (.iconst 3, 1) := by decide +kernel
theorem dX8_isText_51 : decode cX8_isText 51 = .ok (.isub, 1) := by decide +kernel
theorem dX8_isText_52 : decode cX8_isText 52 = .ok (.iaload, 1) := by decide +kernel
theorem dX8_isText_53 : decode cX8_isText 53 = .ok (.goto 4, 3) := by decide +kernel
theorem dX8_isText_56 : decode cX8_isText 56 = .ok (.iconst 0, 1) := by decide +kernel
theorem dX8_isText_57 : decode cX8_isText 57 = .ok (.ior, 1) := by decide +kernel
theorem dX8_isText_58 : decode cX8_isText 58 = .ok (.istore_n 1, 1) := by decide +kernel
theorem dX8_isText_59 : decode cX8_isText 59 = .ok (.goto (-45), 3) := by decide +kernel
theorem dX8_isText_62 : decode cX8_isText 62 = .ok (.iload_n 2, 1) := by decide +kernel
theorem dX8_isText_63 : decode cX8_isText 63 = .ok (.ireturn, 1) := by decide +kernel
theorem dX8_faultPosition_0 : decode cX8_faultPosition 0 = .ok (.aload_n 0, 1) := by decide +kernel
theorem dX8_faultPosition_1 : decode cX8_faultPosition 1 = .ok (.invokevirtual 97, 3) := by decide +kernel
theorem dX8_faultPosition_4 : decode cX8_faultPosition 4 = .ok (.ifCond .eq 8, 3) := by decide +kernel
theorem dX8_faultPosition_7 : decode cX8_faultPosition 7 = .ok (.bipush (-15), 2) := by decide +kernel
theorem dX8_faultPosition_9 : decode cX8_faultPosition 9 = .ok (.goto 7, 3) := by decide +kernel
theorem dX8_faultPosition_12 : decode cX8_faultPosition 12 = .ok (.aload_n 0, 1) := by decide +kernel
theorem dX8_faultPosition_13 : decode cX8_faultPosition 13 = .ok (.getfield 67, 3) := by decide +kernel
theorem dX8_faultPosition_16 : decode cX8_faultPosition 16 = .ok (.ireturn, 1) := by decide +kernel
theorem dX8_read_0 : decode cX8_read 0 = .ok (.aload_n 0, 1) := by decide +kernel
theorem dX8_read_1 : decode cX8_read 1 = .ok (.iload_n 1, 1) := by decide +kernel
theorem dX8_read_2 : decode cX8_read 2 = .ok (.invokevirtual 48, 3) := by decide +kernel
theorem dX8_read_5 : decode cX8_read 5 = .ok (.ifCond .ne 6, 3) := by decide +kernel
theorem dX8_read_8 : decode cX8_read 8 = .ok (.bipush (-11), 2) := by decide +kernel
theorem dX8_read_10 : decode cX8_read 10 = .ok (.ireturn, 1) := by decide +kernel
theorem dX8_read_11 : decode cX8_read 11 = .ok (.aload_n 0, 1) := by decide +kernel
theorem dX8_read_12 : decode cX8_read 12 = .ok (.invokevirtual 97, 3) := by decide +kernel
theorem dX8_read_15 : decode cX8_read 15 = .ok (.ifCond .eq 16, 3) := by decide +kernel
theorem dX8_read_18 : decode cX8_read 18 = .ok (.aload_n 0, 1) := by decide +kernel
theorem dX8_read_19 : decode cX8_read 19 = .ok (.getfield 7, 3) := by decide +kernel
theorem dX8_read_22 : decode cX8_read 22 = .ok (.iload_n 1, 1) := by decide +kernel
theorem dX8_read_23 : decode cX8_read 23 = .ok (.iconst 1, 1) := by decide +kernel
theorem dX8_read_24 : decode cX8_read 24 = .ok (.invokestatic 33, 3) := by decide +kernel
theorem dX8_read_27 : decode cX8_read 27 = .ok (.iaload, 1) := by decide +kernel
theorem dX8_read_28 : decode cX8_read 28 = .ok (.ifCond .eq 6, 3) := by decide +kernel
theorem dX8_read_31 : decode cX8_read 31 = .ok (.bipush (-13), 2) := by decide +kernel
theorem dX8_read_33 : decode cX8_read 33 = .ok (.ireturn, 1) := by decide +kernel
theorem dX8_read_34 : decode cX8_read 34 = .ok (.aload_n 0, 1) := by decide +kernel
theorem dX8_read_35 : decode cX8_read 35 = .ok (.getfield 7, 3) := by decide +kernel
theorem dX8_read_38 : decode cX8_read 38 = .ok (.iload_n 1, 1) := by decide +kernel
theorem dX8_read_39 : decode cX8_read 39 = .ok (.iconst 2, 1) := by decide +kernel
theorem dX8_read_40 : decode cX8_read 40 = .ok (.invokestatic 33, 3) := by decide +kernel
theorem dX8_read_43 : decode cX8_read 43 = .ok (.iconst 0, 1) := by decide +kernel
theorem dX8_read_44 : decode cX8_read 44 = .ok (.iastore, 1) := by decide +kernel
theorem dX8_read_45 : decode cX8_read 45 = .ok (.iconst 0, 1) := by decide +kernel
theorem dX8_read_46 : decode cX8_read 46 = .ok (.istore_n 2, 1) := by decide +kernel
theorem dX8_read_47 : decode cX8_read 47 = .ok (.iload_n 2, 1) := by decide +kernel
theorem dX8_read_48 : decode cX8_read 48 = .ok (.aload_n 0, 1) := by decide +kernel
theorem dX8_read_49 : decode cX8_read 49 = .ok (.getfield 83, 3) := by decide +kernel
theorem dX8_read_52 : decode cX8_read 52 = .ok (.if_icmp .ge 42, 3) := by decide +kernel
theorem dX8_read_55 : decode cX8_read 55 = .ok (.aload_n 0, 1) := by decide +kernel
theorem dX8_read_56 : decode cX8_read 56 = .ok (.iload_n 1, 1) := by decide +kernel
theorem dX8_read_57 : decode cX8_read 57 = .ok (.aload_n 0, 1) := by decide +kernel
theorem dX8_read_58 : decode cX8_read 58 = .ok (.getfield 26, 3) := by decide +kernel
theorem dX8_read_61 : decode cX8_read 61 = .ok (.iconst 3, 1) := by decide +kernel
theorem dX8_read_62 : decode cX8_read 62 = .ok (.iload_n 2, 1) := by decide +kernel
end
section
theorem dX8_read_63 : decode cX8_read 63 = .ok (.imul, 1) := by decide +kernel
theorem dX8_read_64 : decode cX8_read 64 = .ok (.iaload, 1) := by decide +kernel
theorem dX8_read_65 : decode cX8_read 65 = .ok (.aload_n 0, 1) := by decide +kernel
theorem dX8_read_66 : decode cX8_read 66 = .ok (.getfield 26, 3) := by decide +kernel
theorem dX8_read_69 : decode cX8_read 69 = .ok (.iconst 3, 1) := by decide +kernel
theorem dX8_read_70 : decode cX8_read 70 = .ok (.iload_n 2, 1) := by decide +kernel
theorem dX8_read_71 : decode cX8_read 71 = .ok (.imul, 1) := by decide +kernel
theorem dX8_read_72 : decode cX8_read 72 = .ok (.iconst 1, 1) := by decide +kernel
theorem dX8_read_73 : decode cX8_read 73 = .ok (.iadd, 1) := by decide +kernel
theorem dX8_read_74 : decode cX8_read 74 = .ok (.iaload, 1) := by decide +kernel
theorem dX8_read_75 : decode cX8_read 75 = .ok (.aload_n 0, 1) := by decide +kernel
theorem dX8_read_76 : decode cX8_read 76 = .ok (.getfield 26, 3) := by decide +kernel
theorem dX8_read_79 : decode cX8_read 79 = .ok (.iconst 3, 1) := by decide +kernel
theorem dX8_read_80 : decode cX8_read 80 = .ok (.iload_n 2, 1) := by decide +kernel
theorem dX8_read_81 : decode cX8_read 81 = .ok (.imul, 1) := by decide +kernel
theorem dX8_read_82 : decode cX8_read 82 = .ok (.iconst 2, 1) := by decide +kernel
theorem dX8_read_83 : decode cX8_read 83 = .ok (.iadd, 1) := by decide +kernel
theorem dX8_read_84 : decode cX8_read 84 = .ok (.iaload, 1) := by decide +kernel
theorem dX8_read_85 : decode cX8_read 85 = .ok (.invokevirtual 55, 3) := by decide +kernel
theorem dX8_read_88 : decode cX8_read 88 = .ok (.iinc 2 1, 3) := by decide +kernel
theorem dX8_read_91 : decode cX8_read 91 = .ok (.goto (-44), 3) := by decide +kernel
theorem dX8_read_94 : decode cX8_read 94 = .ok (.aload_n 0, 1) := by decide +kernel
theorem dX8_read_95 : decode cX8_read 95 = .ok (.getfield 83, 3) := by decide +kernel
theorem dX8_read_98 : decode cX8_read 98 = .ok (.ireturn, 1) := by decide +kernel
theorem dX8_notes_0 : decode cX8_notes 0 = .ok (.aload_n 0, 1) := by decide +kernel
theorem dX8_notes_1 : decode cX8_notes 1 = .ok (.getfield 7, 3) := by decide +kernel
theorem dX8_notes_4 : decode cX8_notes 4 = .ok (.bipush 11, 2) := by decide +kernel
theorem dX8_notes_6 : decode cX8_notes 6 = .ok (.iaload, 1) := by decide +kernel
theorem dX8_notes_7 : decode cX8_notes 7 = .ok (.bipush 20, 2) := by decide +kernel
theorem dX8_notes_9 : decode cX8_notes 9 = .ok (.if_icmp .ne 45, 3) := by decide +kernel
theorem dX8_notes_12 : decode cX8_notes 12 = .ok (.bipush 12, 2) := by decide +kernel
theorem dX8_notes_14 : decode cX8_notes 14 = .ok (.istore 4, 2) := by decide +kernel
theorem dX8_notes_16 : decode cX8_notes 16 = .ok (.iload 4, 2) := by decide +kernel
theorem dX8_notes_18 : decode cX8_notes 18 = .ok (.bipush 88, 2) := by decide +kernel
theorem dX8_notes_20 : decode cX8_notes 20 = .ok (.if_icmp .ge 25, 3) := by decide +kernel
theorem dX8_notes_23 : decode cX8_notes 23 = .ok (.aload_n 0, 1) := by decide +kernel
theorem dX8_notes_24 : decode cX8_notes 24 = .ok (.getfield 7, 3) := by decide +kernel
theorem dX8_notes_27 : decode cX8_notes 27 = .ok (.iload 4, 2) := by decide +kernel
theorem dX8_notes_29 : decode cX8_notes 29 = .ok (.aload_n 0, 1) := by decide +kernel
theorem dX8_notes_30 : decode cX8_notes 30 = .ok (.getfield 7, 3) := by decide +kernel
theorem dX8_notes_33 : decode cX8_notes 33 = .ok (.iload 4, 2) := by decide +kernel
theorem dX8_notes_35 : decode cX8_notes 35 = .ok (.iconst 4, 1) := by decide +kernel
theorem dX8_notes_36 : decode cX8_notes 36 = .ok (.iadd, 1) := by decide +kernel
theorem dX8_notes_37 : decode cX8_notes 37 = .ok (.iaload, 1) := by decide +kernel
theorem dX8_notes_38 : decode cX8_notes 38 = .ok (.iastore, 1) := by decide +kernel
theorem dX8_notes_39 : decode cX8_notes 39 = .ok (.iinc 4 1, 3) := by decide +kernel
theorem dX8_notes_42 : decode cX8_notes 42 = .ok (.goto (-26), 3) := by decide +kernel
theorem dX8_notes_45 : decode cX8_notes 45 = .ok (.aload_n 0, 1) := by decide +kernel
theorem dX8_notes_46 : decode cX8_notes 46 = .ok (.getfield 7, 3) := by decide +kernel
theorem dX8_notes_49 : decode cX8_notes 49 = .ok (.bipush 11, 2) := by decide +kernel
theorem dX8_notes_51 : decode cX8_notes 51 = .ok (.bipush 19, 2) := by decide +kernel
theorem dX8_notes_53 : decode cX8_notes 53 = .ok (.iastore, 1) := by decide +kernel
theorem dX8_notes_54 : decode cX8_notes 54 = .ok (.bipush 12, 2) := by decide +kernel
theorem dX8_notes_56 : decode cX8_notes 56 = .ok (.iconst 4, 1) := by decide +kernel
theorem dX8_notes_57 : decode cX8_notes 57 = .ok (.aload_n 0, 1) := by decide +kernel
theorem dX8_notes_58 : decode cX8_notes 58 = .ok (.getfield 7, 3) := by decide +kernel
theorem dX8_notes_61 : decode cX8_notes 61 = .ok (.bipush 11, 2) := by decide +kernel
theorem dX8_notes_63 : decode cX8_notes 63 = .ok (.iaload, 1) := by decide +kernel
theorem dX8_notes_64 : decode cX8_notes 64 = .ok (.imul, 1) := by decide +kernel
theorem dX8_notes_65 : decode cX8_notes 65 = .ok (.iadd, 1) := by decide +kernel
theorem dX8_notes_66 : decode cX8_notes 66 = .ok (.istore 4, 2) := by decide +kernel
theorem dX8_notes_68 : decode cX8_notes 68 = .ok (.aload_n 0, 1) := by decide +kernel
theorem dX8_notes_69 : decode cX8_notes 69 = .ok (.getfield 7, 3) := by decide +kernel
theorem dX8_notes_72 : decode cX8_notes 72 = .ok (.iload 4, 2) := by decide +kernel
theorem dX8_notes_74 : decode cX8_notes 74 = .ok (.aload_n 0, 1) := by decide +kernel
theorem dX8_notes_75 : decode cX8_notes 75 = .ok (.getfield 7, 3) := by decide +kernel
theorem dX8_notes_78 : decode cX8_notes 78 = .ok (.iconst 1, 1) := by decide +kernel
theorem dX8_notes_79 : decode cX8_notes 79 = .ok (.iaload, 1) := by decide +kernel
theorem dX8_notes_80 : decode cX8_notes 80 = .ok (.iastore, 1) := by decide +kernel
theorem dX8_notes_81 : decode cX8_notes 81 = .ok (.aload_n 0, 1) := by decide +kernel
theorem dX8_notes_82 : decode cX8_notes 82 = .ok (.getfield 7, 3) := by decide +kernel
theorem dX8_notes_85 : decode cX8_notes 85 = .ok (.iload 4, 2) := by decide +kernel
theorem dX8_notes_87 : decode cX8_notes 87 = .ok (.iconst 1, 1) := by decide +kernel
theorem dX8_notes_88 : decode cX8_notes 88 = .ok (.iadd, 1) := by decide +kernel
theorem dX8_notes_89 : decode cX8_notes 89 = .ok (.iload_n 1, 1) := by decide +kernel
theorem dX8_notes_90 : decode cX8_notes 90 = .ok (.iastore, 1) := by decide +kernel
theorem dX8_notes_91 : decode cX8_notes 91 = .ok (.aload_n 0, 1) := by decide +kernel
theorem dX8_notes_92 : decode cX8_notes 92 = .ok (.getfield 7, 3) := by decide +kernel
theorem dX8_notes_95 : decode cX8_notes 95 = .ok (.iload 4, 2) := by decide +kernel
theorem dX8_notes_97 : decode cX8_notes 97 = .ok (.iconst 2, 1) := by decide +kernel
theorem dX8_notes_98 : decode cX8_notes 98 = .ok (.iadd, 1) := by decide +kernel
theorem dX8_notes_99 : decode cX8_notes 99 = .ok (.iload_n 2, 1) := by decide +kernel
theorem dX8_notes_100 : decode cX8_notes 100 = .ok (.iastore, 1) := by decide +kernel
theorem dX8_notes_101 : decode cX8_notes 101 = .ok (.aload_n 0, 1) := by decide +kernel
theorem dX8_notes_102 : decode cX8_notes 102 = .ok (.getfield 7, 3) := by decide +kernel
theorem dX8_notes_105 : decode cX8_notes 105 = .ok (.iload 4, 2) := by decide +kernel
theorem dX8_notes_107 : decode cX8_notes 107 = .ok (.iconst 3, 1) := by decide +kernel
theorem dX8_notes_108 : decode cX8_notes 108 = .ok (.iadd, 1) := by decide +kernel
theorem dX8_notes_109 : decode cX8_notes 109 = .ok (.iload_n 3, 1) := by decide +kernel
theorem dX8_notes_110 : decode cX8_notes 110 = .ok (.iastore, 1) := by decide +kernel
theorem dX8_notes_111 : decode cX8_notes 111 = .ok (.aload_n 0, 1) := by decide +kernel
theorem dX8_notes_112 : decode cX8_notes 112 = .ok (.getfield 7, 3) := by decide +kernel
theorem dX8_notes_115 : decode cX8_notes 115 = .ok (.bipush 11, 2) := by decide +kernel
theorem dX8_notes_117 : decode cX8_notes 117 = .ok (.dup2, 1) := by decide +kernel
theorem dX8_notes_118 : decode cX8_notes 118 = .ok (.iaload, 1) := by decide +kernel
theorem dX8_notes_119 : decode cX8_notes 119 = .ok (.iconst 1, 1) := by decide +kernel
theorem dX8_notes_120 : decode cX8_notes 120 = .ok (.iadd, 1) := by decide +kernel
theorem dX8_notes_121 : decode cX8_notes 121 = .ok (.iastore, 1) := by decide +kernel
theorem dX8_notes_122 : decode cX8_notes 122 = .ok (.aload_n 0, 1) := by decide +kernel
theorem dX8_notes_123 : decode cX8_notes 123 = .ok (.dup, 1) := by decide +kernel
theorem dX8_notes_124 : decode cX8_notes 124 = .ok (.getfield 101, 3) := by decide +kernel
theorem dX8_notes_127 : decode cX8_notes 127 = .ok (.iconst 1, 1) := by decide +kernel
theorem dX8_notes_128 : decode cX8_notes 128 = .ok (.iadd, 1) := by decide +kernel
theorem dX8_notes_129 : decode cX8_notes 129 = .ok (.putfield 101, 3) := by decide +kernel
theorem dX8_notes_132 : decode cX8_notes 132 = .ok (.return_, 1) := by decide +kernel
theorem dX8_start_0 : decode cX8_start 0 = .ok (.aload_n 0, 1) := by decide +kernel
theorem dX8_start_1 : decode cX8_start 1 = .ok (.iload_n 1, 1) := by decide +kernel
theorem dX8_start_2 : decode cX8_start 2 = .ok (.invokevirtual 48, 3) := by decide +kernel
theorem dX8_start_5 : decode cX8_start 5 = .ok (.ifCond .ne 6, 3) := by decide +kernel
theorem dX8_start_8 : decode cX8_start 8 = .ok (.bipush (-11), 2) := by decide +kernel
theorem dX8_start_10 : decode cX8_start 10 = .ok (.ireturn, 1) := by decide +kernel
theorem dX8_start_11 : decode cX8_start 11 = .ok (.aload_n 0, 1) := by decide +kernel
theorem dX8_start_12 : decode cX8_start 12 = .ok (.getfield 7, 3) := by decide +kernel
theorem dX8_start_15 : decode cX8_start 15 = .ok (.iload_n 1, 1) := by decide +kernel
theorem dX8_start_16 : decode cX8_start 16 = .ok (.iconst 1, 1) := by decide +kernel
theorem dX8_start_17 : decode cX8_start 17 = .ok (.invokestatic 33, 3) := by decide +kernel
theorem dX8_start_20 : decode cX8_start 20 = .ok (.iaload, 1) := by decide +kernel
theorem dX8_start_21 : decode cX8_start 21 = .ok (.ifCond .ne 16, 3) := by decide +kernel
theorem dX8_start_24 : decode cX8_start 24 = .ok (.aload_n 0, 1) := by decide +kernel
theorem dX8_start_25 : decode cX8_start 25 = .ok (.getfield 7, 3) := by decide +kernel
theorem dX8_start_28 : decode cX8_start 28 = .ok (.iload_n 1, 1) := by decide +kernel
theorem dX8_start_29 : decode cX8_start 29 = .ok (.iconst 2, 1) := by decide +kernel
theorem dX8_start_30 : decode cX8_start 30 = .ok (.invokestatic 33, 3) := by decide +kernel
theorem dX8_start_33 : decode cX8_start 33 = .ok (.iaload, 1) := by decide +kernel
theorem dX8_start_34 : decode cX8_start 34 = .ok (.ifCond .ne 6, 3) := by decide +kernel
theorem dX8_start_37 : decode cX8_start 37 = .ok (.bipush (-13), 2) := by decide +kernel
theorem dX8_start_39 : decode cX8_start 39 = .ok (.ireturn, 1) := by decide +kernel
theorem dX8_start_40 : decode cX8_start 40 = .ok (.aload_n 0, 1) := by decide +kernel
theorem dX8_start_41 : decode cX8_start 41 = .ok (.getfield 7, 3) := by decide +kernel
theorem dX8_start_44 : decode cX8_start 44 = .ok (.iload_n 1, 1) := by decide +kernel
theorem dX8_start_45 : decode cX8_start 45 = .ok (.iconst 1, 1) := by decide +kernel
theorem dX8_start_46 : decode cX8_start 46 = .ok (.invokestatic 33, 3) := by decide +kernel
theorem dX8_start_49 : decode cX8_start 49 = .ok (.iconst 1, 1) := by decide +kernel
theorem dX8_start_50 : decode cX8_start 50 = .ok (.iastore, 1) := by decide +kernel
theorem dX8_start_51 : decode cX8_start 51 = .ok (.aload_n 0, 1) := by decide +kernel
theorem dX8_start_52 : decode cX8_start 52 = .ok (.getfield 7, 3) := by decide +kernel
theorem dX8_start_55 : decode cX8_start 55 = .ok (.iload_n 1, 1) := by decide +kernel
theorem dX8_start_56 : decode cX8_start 56 = .ok (.iconst 2, 1) := by decide +kernel
theorem dX8_start_57 : decode cX8_start 57 = .ok (.invokestatic 33, 3) := by decide +kernel
theorem dX8_start_60 : decode cX8_start 60 = .ok (.iaload, 1) := by decide +kernel
theorem dX8_start_61 : decode cX8_start 61 = .ok (.ireturn, 1) := by decide +kernel
theorem dX8_becomes_0 : decode cX8_becomes 0 = .ok (.aload_n 0, 1) := by decide +kernel
theorem dX8_becomes_1 : decode cX8_becomes 1 = .ok (.getfield 7, 3) := by decide +kernel
theorem dX8_becomes_4 : decode cX8_becomes 4 = .ok (.iload_n 1, 1) := by decide +kernel
theorem dX8_becomes_5 : decode cX8_becomes 5 = .ok (.iconst 1, 1) := by decide +kernel
theorem dX8_becomes_6 : decode cX8_becomes 6 = .ok (.invokestatic 33, 3) := by decide +kernel
theorem dX8_becomes_9 : decode cX8_becomes 9 = .ok (.iload_n 2, 1) := by decide +kernel
theorem dX8_becomes_10 : decode cX8_becomes 10 = .ok (.iastore, 1) := by decide +kernel
theorem dX8_becomes_11 : decode cX8_becomes 11 = .ok (.aload_n 0, 1) := by decide +kernel
theorem dX8_becomes_12 : decode cX8_becomes 12 = .ok (.iload_n 1, 1) := by decide +kernel
theorem dX8_becomes_13 : decode cX8_becomes 13 = .ok (.iload_n 3, 1) := by decide +kernel
theorem dX8_becomes_14 : decode cX8_becomes 14 = .ok (.bipush (-15), 2) := by decide +kernel
theorem dX8_becomes_16 : decode cX8_becomes 16 = .ok (.invokevirtual 104, 3) := by decide +kernel
theorem dX8_becomes_19 : decode cX8_becomes 19 = .ok (.aload_n 0, 1) := by decide +kernel
theorem dX8_becomes_20 : decode cX8_becomes 20 = .ok (.getfield 7, 3) := by decide +kernel
theorem dX8_becomes_23 : decode cX8_becomes 23 = .ok (.iload_n 1, 1) := by decide +kernel
theorem dX8_becomes_24 : decode cX8_becomes 24 = .ok (.iconst 3, 1) := by decide +kernel
theorem dX8_becomes_25 : decode cX8_becomes 25 = .ok (.invokestatic 33, 3) := by decide +kernel
theorem dX8_becomes_28 : decode cX8_becomes 28 = .ok (.iaload, 1) := by decide +kernel
theorem dX8_becomes_29 : decode cX8_becomes 29 = .ok (.ireturn, 1) := by decide +kernel
theorem dX8_hold_0 : decode cX8_hold 0 = .ok (.aload_n 0, 1) := by decide +kernel
theorem dX8_hold_1 : decode cX8_hold 1 = .ok (.iload_n 1, 1) := by decide +kernel
theorem dX8_hold_2 : decode cX8_hold 2 = .ok (.invokevirtual 48, 3) := by decide +kernel
theorem dX8_hold_5 : decode cX8_hold 5 = .ok (.ifCond .ne 6, 3) := by decide +kernel
theorem dX8_hold_8 : decode cX8_hold 8 = .ok (.bipush (-11), 2) := by decide +kernel
theorem dX8_hold_10 : decode cX8_hold 10 = .ok (.ireturn, 1) := by decide +kernel
theorem dX8_hold_11 : decode cX8_hold 11 = .ok (.aload_n 0, 1) := by decide +kernel
theorem dX8_hold_12 : decode cX8_hold 12 = .ok (.getfield 7, 3) := by decide +kernel
theorem dX8_hold_15 : decode cX8_hold 15 = .ok (.iload_n 1, 1) := by decide +kernel
theorem dX8_hold_16 : decode cX8_hold 16 = .ok (.iconst 1, 1) := by decide +kernel
theorem dX8_hold_17 : decode cX8_hold 17 = .ok (.invokestatic 33, 3) := by decide +kernel
theorem dX8_hold_20 : decode cX8_hold 20 = .ok (.iaload, 1) := by decide +kernel
theorem dX8_hold_21 : decode cX8_hold 21 = .ok (.iconst 1, 1) := by decide +kernel
theorem dX8_hold_22 : decode cX8_hold 22 = .ok (.if_icmp .ne 14, 3) := by decide +kernel
theorem dX8_hold_25 : decode cX8_hold 25 = .ok (.aload_n 0, 1) := by decide +kernel
theorem dX8_hold_26 : decode cX8_hold 26 = .ok (.iload_n 1, 1) := by decide +kernel
theorem dX8_hold_27 : decode cX8_hold 27 = .ok (.iconst 2, 1) := by decide +kernel
theorem dX8_hold_28 : decode cX8_hold 28 = .ok (.bipush 6, 2) := by decide +kernel
theorem dX8_hold_30 : decode cX8_hold 30 = .ok (.invokevirtual 108, 3) := by decide +kernel
theorem dX8_hold_33 : decode cX8_hold 33 = .ok (.goto 5, 3) := by decide +kernel
theorem dX8_hold_36 : decode cX8_hold 36 = .ok (.bipush (-13), 2) := by decide +kernel
theorem dX8_hold_38 : decode cX8_hold 38 = .ok (.ireturn, 1) := by decide +kernel
theorem dX8_resume_0 : decode cX8_resume 0 = .ok (.aload_n 0, 1) := by decide +kernel
theorem dX8_resume_1 : decode cX8_resume 1 = .ok (.iload_n 1, 1) := by decide +kernel
theorem dX8_resume_2 : decode cX8_resume 2 = .ok (.invokevirtual 48, 3) := by decide +kernel
theorem dX8_resume_5 : decode cX8_resume 5 = .ok (.ifCond .ne 6, 3) := by decide +kernel
theorem dX8_resume_8 : decode cX8_resume 8 = .ok (.bipush (-11), 2) := by decide +kernel
theorem dX8_resume_10 : decode cX8_resume 10 = .ok (.ireturn, 1) := by decide +kernel
theorem dX8_resume_11 : decode cX8_resume 11 = .ok (.aload_n 0, 1) := by decide +kernel
theorem dX8_resume_12 : decode cX8_resume 12 = .ok (.getfield 7, 3) := by decide +kernel
theorem dX8_resume_15 : decode cX8_resume 15 = .ok (.iload_n 1, 1) := by decide +kernel
theorem dX8_resume_16 : decode cX8_resume 16 = .ok (.iconst 1, 1) := by decide +kernel
theorem dX8_resume_17 : decode cX8_resume 17 = .ok (.invokestatic 33, 3) := by decide +kernel
theorem dX8_resume_20 : decode cX8_resume 20 = .ok (.iaload, 1) := by decide +kernel
theorem dX8_resume_21 : decode cX8_resume 21 = .ok (.iconst 2, 1) := by decide +kernel
theorem dX8_resume_22 : decode cX8_resume 22 = .ok (.if_icmp .ne 14, 3) := by decide +kernel
theorem dX8_resume_25 : decode cX8_resume 25 = .ok (.aload_n 0, 1) := by decide +kernel
theorem dX8_resume_26 : decode cX8_resume 26 = .ok (.iload_n 1, 1) := by decide +kernel
theorem dX8_resume_27 : decode cX8_resume 27 = .ok (.iconst 1, 1) := by decide +kernel
theorem dX8_resume_28 : decode cX8_resume 28 = .ok (.bipush 7, 2) := by decide +kernel
theorem dX8_resume_30 : decode cX8_resume 30 = .ok (.invokevirtual 108, 3) := by decide +kernel
theorem dX8_resume_33 : decode cX8_resume 33 = .ok (.goto 5, 3) := by decide +kernel
theorem dX8_resume_36 : decode cX8_resume 36 = .ok (.bipush (-13), 2) := by decide +kernel
theorem dX8_resume_38 : decode cX8_resume 38 = .ok (.ireturn, 1) := by decide +kernel
theorem dX8_turnBack_0 : decode cX8_turnBack 0 = .ok (.aload_n 0, 1) := by decide +kernel
theorem dX8_turnBack_1 : decode cX8_turnBack 1 = .ok (.iload_n 1, 1) := by decide +kernel
theorem dX8_turnBack_2 : decode cX8_turnBack 2 = .ok (.invokevirtual 48, 3) := by decide +kernel
theorem dX8_turnBack_5 : decode cX8_turnBack 5 = .ok (.ifCond .ne 6, 3) := by decide +kernel
theorem dX8_turnBack_8 : decode cX8_turnBack 8 = .ok (.bipush (-11), 2) := by decide +kernel
theorem dX8_turnBack_10 : decode cX8_turnBack 10 = .ok (.ireturn, 1) := by decide +kernel
theorem dX8_turnBack_11 : decode cX8_turnBack 11 = .ok (.aload_n 0, 1) := by decide +kernel
theorem dX8_turnBack_12 : decode cX8_turnBack 12 = .ok (.getfield 7, 3) := by decide +kernel
theorem dX8_turnBack_15 : decode cX8_turnBack 15 = .ok (.iload_n 1, 1) := by decide +kernel
theorem dX8_turnBack_16 : decode cX8_turnBack 16 = .ok (.iconst 1, 1) := by decide +kernel
theorem dX8_turnBack_17 : decode cX8_turnBack 17 = .ok (.invokestatic 33, 3) := by decide +kernel
theorem dX8_turnBack_20 : decode cX8_turnBack 20 = .ok (.iaload, 1) := by decide +kernel
theorem dX8_turnBack_21 : decode cX8_turnBack 21 = .ok (.iconst 1, 1) := by decide +kernel
theorem dX8_turnBack_22 : decode cX8_turnBack 22 = .ok (.iconst 3, 1) := by decide +kernel
theorem dX8_turnBack_23 : decode cX8_turnBack 23 = .ok (.invokestatic 37, 3) := by decide +kernel
theorem dX8_turnBack_26 : decode cX8_turnBack 26 = .ok (.ifCond .eq 13, 3) := by decide +kernel
theorem dX8_turnBack_29 : decode cX8_turnBack 29 = .ok (.aload_n 0, 1) := by decide +kernel
theorem dX8_turnBack_30 : decode cX8_turnBack 30 = .ok (.iload_n 1, 1) := by decide +kernel
theorem dX8_turnBack_31 : decode cX8_turnBack 31 = .ok (.iconst 4, 1) := by decide +kernel
theorem dX8_turnBack_32 : decode cX8_turnBack 32 = .ok (.iconst 3, 1) := by decide +kernel
theorem dX8_turnBack_33 : decode cX8_turnBack 33 = .ok (.invokevirtual 108, 3) := by decide +kernel
theorem dX8_turnBack_36 : decode cX8_turnBack 36 = .ok (.goto 5, 3) := by decide +kernel
theorem dX8_turnBack_39 : decode cX8_turnBack 39 = .ok (.bipush (-13), 2) := by decide +kernel
theorem dX8_turnBack_41 : decode cX8_turnBack 41 = .ok (.ireturn, 1) := by decide +kernel
theorem dX8_isOut_0 : decode cX8_isOut 0 = .ok (.aload_n 0, 1) := by decide +kernel
theorem dX8_isOut_1 : decode cX8_isOut 1 = .ok (.getfield 7, 3) := by decide +kernel
theorem dX8_isOut_4 : decode cX8_isOut 4 = .ok (.iload_n 1, 1) := by decide +kernel
theorem dX8_isOut_5 : decode cX8_isOut 5 = .ok (.iconst 1, 1) := by decide +kernel
theorem dX8_isOut_6 : decode cX8_isOut 6 = .ok (.invokestatic 33, 3) := by decide +kernel
theorem dX8_isOut_9 : decode cX8_isOut 9 = .ok (.iaload, 1) := by decide +kernel
theorem dX8_isOut_10 : decode cX8_isOut 10 = .ok (.iconst 1, 1) := by decide +kernel
theorem dX8_isOut_11 : decode cX8_isOut 11 = .ok (.iconst 2, 1) := by decide +kernel
theorem dX8_isOut_12 : decode cX8_isOut 12 = .ok (.invokestatic 37, 3) := by decide +kernel
theorem dX8_isOut_15 : decode cX8_isOut 15 = .ok (.ifCond .eq 20, 3) := by decide +kernel
theorem dX8_isOut_18 : decode cX8_isOut 18 = .ok (.aload_n 0, 1) := by decide +kernel
theorem dX8_isOut_19 : decode cX8_isOut 19 = .ok (.getfield 7, 3) := by decide +kernel
theorem dX8_isOut_22 : decode cX8_isOut 22 = .ok (.iload_n 1, 1) := by decide +kernel
theorem dX8_isOut_23 : decode cX8_isOut 23 = .ok (.iconst 3, 1) := by decide +kernel
theorem dX8_isOut_24 : decode cX8_isOut 24 = .ok (.invokestatic 33, 3) := by decide +kernel
theorem dX8_isOut_27 : decode cX8_isOut 27 = .ok (.iaload, 1) := by decide +kernel
theorem dX8_isOut_28 : decode cX8_isOut 28 = .ok (.ifCond .le 7, 3) := by decide +kernel
theorem dX8_isOut_31 : decode cX8_isOut 31 = .ok (.iconst 1, 1) := by decide +kernel
theorem dX8_isOut_32 : decode cX8_isOut 32 = .ok (.goto 4, 3) := by decide +kernel
theorem dX8_isOut_35 : decode cX8_isOut 35 = .ok (.iconst 0, 1) := by decide +kernel
theorem dX8_isOut_36 : decode cX8_isOut 36 = .ok (.ireturn, 1) := by decide +kernel
theorem dX8_reached_0 : decode cX8_reached 0 = .ok (.aload_n 0, 1) := by decide +kernel
theorem dX8_reached_1 : decode cX8_reached 1 = .ok (.iload_n 1, 1) := by decide +kernel
theorem dX8_reached_2 : decode cX8_reached 2 = .ok (.aload_n 0, 1) := by decide +kernel
theorem dX8_reached_3 : decode cX8_reached 3 = .ok (.getfield 7, 3) := by decide +kernel
theorem dX8_reached_6 : decode cX8_reached 6 = .ok (.iload_n 1, 1) := by decide +kernel
theorem dX8_reached_7 : decode cX8_reached 7 = .ok (.iconst 3, 1) := by decide +kernel
theorem dX8_reached_8 : decode cX8_reached 8 = .ok (.invokestatic 33, 3) := by decide +kernel
theorem dX8_reached_11 : decode cX8_reached 11 = .ok (.iaload, 1) := by decide +kernel
theorem dX8_reached_12 : decode cX8_reached 12 = .ok (.invokevirtual 52, 3) := by decide +kernel
theorem dX8_reached_15 : decode cX8_reached 15 = .ok (.ireturn, 1) := by decide +kernel
theorem dX8_report_0 : decode cX8_report 0 = .ok (.aload_n 0, 1) := by decide +kernel
theorem dX8_report_1 : decode cX8_report 1 = .ok (.iload_n 1, 1) := by decide +kernel
theorem dX8_report_2 : decode cX8_report 2 = .ok (.invokevirtual 80, 3) := by decide +kernel
theorem dX8_report_5 : decode cX8_report 5 = .ok (.ifCond .ne 6, 3) := by decide +kernel
theorem dX8_report_8 : decode cX8_report 8 = .ok (.bipush (-11), 2) := by decide +kernel
theorem dX8_report_10 : decode cX8_report 10 = .ok (.ireturn, 1) := by decide +kernel
theorem dX8_report_11 : decode cX8_report 11 = .ok (.iload_n 2, 1) := by decide +kernel
theorem dX8_report_12 : decode cX8_report 12 = .ok (.iconst 0, 1) := by decide +kernel
theorem dX8_report_13 : decode cX8_report 13 = .ok (.bipush 9, 2) := by decide +kernel
theorem dX8_report_15 : decode cX8_report 15 = .ok (.invokestatic 37, 3) := by decide +kernel
theorem dX8_report_18 : decode cX8_report 18 = .ok (.ifCond .eq 13, 3) := by decide +kernel
theorem dX8_report_21 : decode cX8_report 21 = .ok (.iload_n 3, 1) := by decide +kernel
theorem dX8_report_22 : decode cX8_report 22 = .ok (.iconst 0, 1) := by decide +kernel
theorem dX8_report_23 : decode cX8_report 23 = .ok (.bipush 9, 2) := by decide +kernel
theorem dX8_report_25 : decode cX8_report 25 = .ok (.invokestatic 37, 3) := by decide +kernel
theorem dX8_report_28 : decode cX8_report 28 = .ok (.ifCond .ne 6, 3) := by decide +kernel
theorem dX8_report_31 : decode cX8_report 31 = .ok (.bipush (-12), 2) := by decide +kernel
theorem dX8_report_33 : decode cX8_report 33 = .ok (.ireturn, 1) := by decide +kernel
theorem dX8_report_34 : decode cX8_report 34 = .ok (.iconst 0, 1) := by decide +kernel
theorem dX8_report_35 : decode cX8_report 35 = .ok (.istore 4, 2) := by decide +kernel
theorem dX8_report_37 : decode cX8_report 37 = .ok (.iconst 0, 1) := by decide +kernel
theorem dX8_report_38 : decode cX8_report 38 = .ok (.istore 5, 2) := by decide +kernel
theorem dX8_report_40 : decode cX8_report 40 = .ok (.iload 5, 2) := by decide +kernel
theorem dX8_report_42 : decode cX8_report 42 = .ok (.aload_n 0, 1) := by decide +kernel
theorem dX8_report_43 : decode cX8_report 43 = .ok (.getfield 7, 3) := by decide +kernel
theorem dX8_report_46 : decode cX8_report 46 = .ok (.bipush 10, 2) := by decide +kernel
theorem dX8_report_48 : decode cX8_report 48 = .ok (.iaload, 1) := by decide +kernel
theorem dX8_report_49 : decode cX8_report 49 = .ok (.if_icmp .ge 99, 3) := by decide +kernel
theorem dX8_report_52 : decode cX8_report 52 = .ok (.iload 5, 2) := by decide +kernel
theorem dX8_report_54 : decode cX8_report 54 = .ok (.iconst 5, 1) := by decide +kernel
theorem dX8_report_55 : decode cX8_report 55 = .ok (.invokestatic 33, 3) := by decide +kernel
theorem dX8_report_58 : decode cX8_report 58 = .ok (.aload_n 0, 1) := by decide +kernel
theorem dX8_report_59 : decode cX8_report 59 = .ok (.iload 5, 2) := by decide +kernel
theorem dX8_report_61 : decode cX8_report 61 = .ok (.invokevirtual 111, 3) := by decide +kernel
theorem dX8_report_64 : decode cX8_report 64 = .ok (.iload_n 1, 1) := by decide +kernel
theorem dX8_report_65 : decode cX8_report 65 = .ok (.ishr, 1) := by decide +kernel
theorem dX8_report_66 : decode cX8_report 66 = .ok (.iconst 1, 1) := by decide +kernel
theorem dX8_report_67 : decode cX8_report 67 = .ok (.iand, 1) := by decide +kernel
theorem dX8_report_68 : decode cX8_report 68 = .ok (.iconst 1, 1) := by decide +kernel
theorem dX8_report_69 : decode cX8_report 69 = .ok (.if_icmp .ne 7, 3) := by decide +kernel
theorem dX8_report_72 : decode cX8_report 72 = .ok (.iconst 0, 1) := by decide +kernel
theorem dX8_report_73 : decode cX8_report 73 = .ok (.goto 4, 3) := by decide +kernel
theorem dX8_report_76 : decode cX8_report 76 = .ok (.iconst 2, 1) := by decide +kernel
theorem dX8_report_77 : decode cX8_report 77 = .ok (.iadd, 1) := by decide +kernel
theorem dX8_report_78 : decode cX8_report 78 = .ok (.istore 6, 2) := by decide +kernel
theorem dX8_report_80 : decode cX8_report 80 = .ok (.aload_n 0, 1) := by decide +kernel
theorem dX8_report_81 : decode cX8_report 81 = .ok (.iload 5, 2) := by decide +kernel
theorem dX8_report_83 : decode cX8_report 83 = .ok (.invokevirtual 114, 3) := by decide +kernel
theorem dX8_report_86 : decode cX8_report 86 = .ok (.ifCond .eq 56, 3) := by decide +kernel
theorem dX8_report_89 : decode cX8_report 89 = .ok (.aload_n 0, 1) := by decide +kernel
theorem dX8_report_90 : decode cX8_report 90 = .ok (.getfield 7, 3) := by decide +kernel
theorem dX8_report_93 : decode cX8_report 93 = .ok (.iload 6, 2) := by decide +kernel
theorem dX8_report_95 : decode cX8_report 95 = .ok (.iaload, 1) := by decide +kernel
theorem dX8_report_96 : decode cX8_report 96 = .ok (.aload_n 0, 1) := by decide +kernel
theorem dX8_report_97 : decode cX8_report 97 = .ok (.getfield 7, 3) := by decide +kernel
theorem dX8_report_100 : decode cX8_report 100 = .ok (.iload 6, 2) := by decide +kernel
theorem dX8_report_102 : decode cX8_report 102 = .ok (.iconst 1, 1) := by decide +kernel
theorem dX8_report_103 : decode cX8_report 103 = .ok (.iadd, 1) := by decide +kernel
theorem dX8_report_104 : decode cX8_report 104 = .ok (.iaload, 1) := by decide +kernel
theorem dX8_report_105 : decode cX8_report 105 = .ok (.iadd, 1) := by decide +kernel
theorem dX8_report_106 : decode cX8_report 106 = .ok (.iload_n 2, 1) := by decide +kernel
theorem dX8_report_107 : decode cX8_report 107 = .ok (.iadd, 1) := by decide +kernel
theorem dX8_report_108 : decode cX8_report 108 = .ok (.iload_n 3, 1) := by decide +kernel
theorem dX8_report_109 : decode cX8_report 109 = .ok (.iadd, 1) := by decide +kernel
theorem dX8_report_110 : decode cX8_report 110 = .ok (.bipush 25, 2) := by decide +kernel
theorem dX8_report_112 : decode cX8_report 112 = .ok (.if_icmp .gt 30, 3) := by decide +kernel
theorem dX8_report_115 : decode cX8_report 115 = .ok (.aload_n 0, 1) := by decide +kernel
theorem dX8_report_116 : decode cX8_report 116 = .ok (.getfield 7, 3) := by decide +kernel
theorem dX8_report_119 : decode cX8_report 119 = .ok (.iload 6, 2) := by decide +kernel
theorem dX8_report_121 : decode cX8_report 121 = .ok (.dup2, 1) := by decide +kernel
theorem dX8_report_122 : decode cX8_report 122 = .ok (.iaload, 1) := by decide +kernel
theorem dX8_report_123 : decode cX8_report 123 = .ok (.iload_n 2, 1) := by decide +kernel
theorem dX8_report_124 : decode cX8_report 124 = .ok (.iadd, 1) := by decide +kernel
theorem dX8_report_125 : decode cX8_report 125 = .ok (.iastore, 1) := by decide +kernel
theorem dX8_report_126 : decode cX8_report 126 = .ok (.aload_n 0, 1) := by decide +kernel
theorem dX8_report_127 : decode cX8_report 127 = .ok (.getfield 7, 3) := by decide +kernel
theorem dX8_report_130 : decode cX8_report 130 = .ok (.iload 6, 2) := by decide +kernel
theorem dX8_report_132 : decode cX8_report 132 = .ok (.iconst 1, 1) := by decide +kernel
theorem dX8_report_133 : decode cX8_report 133 = .ok (.iadd, 1) := by decide +kernel
theorem dX8_report_134 : decode cX8_report 134 = .ok (.dup2, 1) := by decide +kernel
theorem dX8_report_135 : decode cX8_report 135 = .ok (.iaload, 1) := by decide +kernel
theorem dX8_report_136 : decode cX8_report 136 = .ok (.iload_n 3, 1) := by decide +kernel
theorem dX8_report_137 : decode cX8_report 137 = .ok (.iadd, 1) := by decide +kernel
theorem dX8_report_138 : decode cX8_report 138 = .ok (.iastore, 1) := by decide +kernel
theorem dX8_report_139 : decode cX8_report 139 = .ok (.iinc 4 1, 3) := by decide +kernel
theorem dX8_report_142 : decode cX8_report 142 = .ok (.iinc 5 1, 3) := by decide +kernel
theorem dX8_report_145 : decode cX8_report 145 = .ok (.goto (-105), 3) := by decide +kernel
theorem dX8_report_148 : decode cX8_report 148 = .ok (.iload 4, 2) := by decide +kernel
theorem dX8_report_150 : decode cX8_report 150 = .ok (.ireturn, 1) := by decide +kernel
theorem dX8_sets_0 : decode cX8_sets 0 = .ok (.iload_n 2, 1) := by decide +kernel
theorem dX8_sets_1 : decode cX8_sets 1 = .ok (.ifCond .lt 8, 3) := by decide +kernel
theorem dX8_sets_4 : decode cX8_sets 4 = .ok (.iload_n 2, 1) := by decide +kernel
theorem dX8_sets_5 : decode cX8_sets 5 = .ok (.iload_n 1, 1) := by decide +kernel
theorem dX8_sets_6 : decode cX8_sets 6 = .ok (.if_icmp .le 5, 3) := by decide +kernel
theorem dX8_sets_9 : decode cX8_sets 9 = .ok (.lconst 0, 1) := by decide +kernel
theorem dX8_sets_10 : decode cX8_sets 10 = .ok (.lreturn, 1) := by decide +kernel
theorem dX8_sets_11 : decode cX8_sets 11 = .ok (.aload_n 0, 1) := by decide +kernel
theorem dX8_sets_12 : decode cX8_sets 12 = .ok (.getfield 29, 3) := by decide +kernel
theorem dX8_sets_15 : decode cX8_sets 15 = .ok (.iconst 0, 1) := by decide +kernel
theorem dX8_sets_16 : decode cX8_sets 16 = .ok (.laload, 1) := by decide +kernel
theorem dX8_sets_17 : decode cX8_sets 17 = .ok (.lconst 0, 1) := by decide +kernel
theorem dX8_sets_18 : decode cX8_sets 18 = .ok (.lcmp, 1) := by decide +kernel
theorem dX8_sets_19 : decode cX8_sets 19 = .ok (.ifCond .ne 97, 3) := by decide +kernel
theorem dX8_sets_22 : decode cX8_sets 22 = .ok (.iconst 0, 1) := by decide +kernel
theorem dX8_sets_23 : decode cX8_sets 23 = .ok (.istore_n 3, 1) := by decide +kernel
theorem dX8_sets_24 : decode cX8_sets 24 = .ok (.iload_n 3, 1) := by decide +kernel
theorem dX8_sets_25 : decode cX8_sets 25 = .ok (.bipush 50, 2) := by decide +kernel
theorem dX8_sets_27 : decode cX8_sets 27 = .ok (.if_icmp .gt 89, 3) := by decide +kernel
theorem dX8_sets_30 : decode cX8_sets 30 = .ok (.aload_n 0, 1) := by decide +kernel
theorem dX8_sets_31 : decode cX8_sets 31 = .ok (.getfield 29, 3) := by decide +kernel
theorem dX8_sets_34 : decode cX8_sets 34 = .ok (.bipush 51, 2) := by decide +kernel
theorem dX8_sets_36 : decode cX8_sets 36 = .ok (.iload_n 3, 1) := by decide +kernel
theorem dX8_sets_37 : decode cX8_sets 37 = .ok (.imul, 1) := by decide +kernel
theorem dX8_sets_38 : decode cX8_sets 38 = .ok (.lconst 1, 1) := by decide +kernel
theorem dX8_sets_39 : decode cX8_sets 39 = .ok (.lastore, 1) := by decide +kernel
theorem dX8_sets_40 : decode cX8_sets 40 = .ok (.iconst 1, 1) := by decide +kernel
theorem dX8_sets_41 : decode cX8_sets 41 = .ok (.istore 4, 2) := by decide +kernel
theorem dX8_sets_43 : decode cX8_sets 43 = .ok (.iload 4, 2) := by decide +kernel
theorem dX8_sets_45 : decode cX8_sets 45 = .ok (.iload_n 3, 1) := by decide +kernel
theorem dX8_sets_46 : decode cX8_sets 46 = .ok (.if_icmp .gt 64, 3) := by decide +kernel
theorem dX8_sets_49 : decode cX8_sets 49 = .ok (.aload_n 0, 1) := by decide +kernel
theorem dX8_sets_50 : decode cX8_sets 50 = .ok (.getfield 29, 3) := by decide +kernel
theorem dX8_sets_53 : decode cX8_sets 53 = .ok (.bipush 51, 2) := by decide +kernel
theorem dX8_sets_55 : decode cX8_sets 55 = .ok (.iload_n 3, 1) := by decide +kernel
theorem dX8_sets_56 : decode cX8_sets 56 = .ok (.imul, 1) := by decide +kernel
theorem dX8_sets_57 : decode cX8_sets 57 = .ok (.iload 4, 2) := by decide +kernel
theorem dX8_sets_59 : decode cX8_sets 59 = .ok (.iadd, 1) := by decide +kernel
theorem dX8_sets_60 : decode cX8_sets 60 = .ok (.aload_n 0, 1) := by decide +kernel
theorem dX8_sets_61 : decode cX8_sets 61 = .ok (.getfield 29, 3) := by decide +kernel
theorem dX8_sets_64 : decode cX8_sets 64 = .ok (.bipush 51, 2) := by decide +kernel
theorem dX8_sets_66 : decode cX8_sets 66 = .ok (.iload_n 3, 1) := by decide +kernel
theorem dX8_sets_67 : decode cX8_sets 67 = .ok (.imul, 1) := by decide +kernel
theorem dX8_sets_68 : decode cX8_sets 68 = .ok (.bipush 51, 2) := by decide +kernel
theorem dX8_sets_70 : decode cX8_sets 70 = .ok (.isub, 1) := by decide +kernel
theorem dX8_sets_71 : decode cX8_sets 71 = .ok (.iload 4, 2) := by decide +kernel
theorem dX8_sets_73 : decode cX8_sets 73 = .ok (.iadd, 1) := by decide +kernel
theorem dX8_sets_74 : decode cX8_sets 74 = .ok (.iconst 1, 1) := by decide +kernel
theorem dX8_sets_75 : decode cX8_sets 75 = .ok (.isub, 1) := by decide +kernel
theorem dX8_sets_76 : decode cX8_sets 76 = .ok (.laload, 1) := by decide +kernel
theorem dX8_sets_77 : decode cX8_sets 77 = .ok (.iload 4, 2) := by decide +kernel
theorem dX8_sets_79 : decode cX8_sets 79 = .ok (.iload_n 3, 1) := by decide +kernel
theorem dX8_sets_80 : decode cX8_sets 80 = .ok (.if_icmp .ge 21, 3) := by decide +kernel
theorem dX8_sets_83 : decode cX8_sets 83 = .ok (.aload_n 0, 1) := by decide +kernel
theorem dX8_sets_84 : decode cX8_sets 84 = .ok (.getfield 29, 3) := by decide +kernel
theorem dX8_sets_87 : decode cX8_sets 87 = .ok (.bipush 51, 2) := by decide +kernel
theorem dX8_sets_89 : decode cX8_sets 89 = .ok (.iload_n 3, 1) := by decide +kernel
theorem dX8_sets_90 : decode cX8_sets 90 = .ok (.imul, 1) := by decide +kernel
theorem dX8_sets_91 : decode cX8_sets 91 = .ok (.bipush 51, 2) := by decide +kernel
theorem dX8_sets_93 : decode cX8_sets 93 = .ok (.isub, 1) := by decide +kernel
theorem dX8_sets_94 : decode cX8_sets 94 = .ok (.iload 4, 2) := by decide +kernel
theorem dX8_sets_96 : decode cX8_sets 96 = .ok (.iadd, 1) := by decide +kernel
theorem dX8_sets_97 : decode cX8_sets 97 = .ok (.laload, 1) := by decide +kernel
theorem dX8_sets_98 : decode cX8_sets 98 = .ok (.goto 4, 3) := by decide +kernel
theorem dX8_sets_101 : decode cX8_sets 101 = .ok (.lconst 0, 1) := by decide +kernel
theorem dX8_sets_102 : decode cX8_sets 102 = .ok (.ladd, 1) := by decide +kernel
theorem dX8_sets_103 : decode cX8_sets 103 = .ok (.lastore, 1) := by decide +kernel
theorem dX8_sets_104 : decode cX8_sets 104 = .ok (.iinc 4 1, 3) := by decide +kernel
theorem dX8_sets_107 : decode cX8_sets 107 = .ok (.goto (-64), 3) := by decide +kernel
theorem dX8_sets_110 : decode cX8_sets 110 = .ok (.iinc 3 1, 3) := by decide +kernel
theorem dX8_sets_113 : decode cX8_sets 113 = .ok (.goto (-89), 3) := by decide +kernel
theorem dX8_sets_116 : decode cX8_sets 116 = .ok (.aload_n 0, 1) := by decide +kernel
theorem dX8_sets_117 : decode cX8_sets 117 = .ok (.getfield 29, 3) := by decide +kernel
theorem dX8_sets_120 : decode cX8_sets 120 = .ok (.bipush 51, 2) := by decide +kernel
theorem dX8_sets_122 : decode cX8_sets 122 = .ok (.iload_n 1, 1) := by decide +kernel
theorem dX8_sets_123 : decode cX8_sets 123 = .ok (.imul, 1) := by decide +kernel
theorem dX8_sets_124 : decode cX8_sets 124 = .ok (.iload_n 2, 1) := by decide +kernel
theorem dX8_sets_125 : decode cX8_sets 125 = .ok (.iadd, 1) := by decide +kernel
theorem dX8_sets_126 : decode cX8_sets 126 = .ok (.laload, 1) := by decide +kernel
theorem dX8_sets_127 : decode cX8_sets 127 = .ok (.lreturn, 1) := by decide +kernel
theorem dX8_findChance_0 : decode cX8_findChance 0 = .ok (.iload_n 1, 1) := by decide +kernel
theorem dX8_findChance_1 : decode cX8_findChance 1 = .ok (.iconst 5, 1) := by decide +kernel
theorem dX8_findChance_2 : decode cX8_findChance 2 = .ok (.invokestatic 33, 3) := by decide +kernel
theorem dX8_findChance_5 : decode cX8_findChance 5 = .ok (.istore_n 2, 1) := by decide +kernel
theorem dX8_findChance_6 : decode cX8_findChance 6 = .ok (.aload_n 0, 1) := by decide +kernel
theorem dX8_findChance_7 : decode cX8_findChance 7 = .ok (.getfield 7, 3) := by decide +kernel
theorem dX8_findChance_10 : decode cX8_findChance 10 = .ok (.iload_n 2, 1) := by decide +kernel
theorem dX8_findChance_11 : decode cX8_findChance 11 = .ok (.iaload, 1) := by decide +kernel
theorem dX8_findChance_12 : decode cX8_findChance 12 = .ok (.aload_n 0, 1) := by decide +kernel
theorem dX8_findChance_13 : decode cX8_findChance 13 = .ok (.getfield 7, 3) := by decide +kernel
theorem dX8_findChance_16 : decode cX8_findChance 16 = .ok (.iload_n 2, 1) := by decide +kernel
theorem dX8_findChance_17 : decode cX8_findChance 17 = .ok (.iconst 1, 1) := by decide +kernel
theorem dX8_findChance_18 : decode cX8_findChance 18 = .ok (.iadd, 1) := by decide +kernel
theorem dX8_findChance_19 : decode cX8_findChance 19 = .ok (.iaload, 1) := by decide +kernel
theorem dX8_findChance_20 : decode cX8_findChance 20 = .ok (.iadd, 1) := by decide +kernel
theorem dX8_findChance_21 : decode cX8_findChance 21 = .ok (.istore_n 3, 1) := by decide +kernel
theorem dX8_findChance_22 : decode cX8_findChance 22 = .ok (.aload_n 0, 1) := by decide +kernel
theorem dX8_findChance_23 : decode cX8_findChance 23 = .ok (.getfield 7, 3) := by decide +kernel
theorem dX8_findChance_26 : decode cX8_findChance 26 = .ok (.iload_n 2, 1) := by decide +kernel
theorem dX8_findChance_27 : decode cX8_findChance 27 = .ok (.iaload, 1) := by decide +kernel
theorem dX8_findChance_28 : decode cX8_findChance 28 = .ok (.aload_n 0, 1) := by decide +kernel
theorem dX8_findChance_29 : decode cX8_findChance 29 = .ok (.getfield 7, 3) := by decide +kernel
theorem dX8_findChance_32 : decode cX8_findChance 32 = .ok (.iload_n 2, 1) := by decide +kernel
theorem dX8_findChance_33 : decode cX8_findChance 33 = .ok (.iconst 2, 1) := by decide +kernel
theorem dX8_findChance_34 : decode cX8_findChance 34 = .ok (.iadd, 1) := by decide +kernel
theorem dX8_findChance_35 : decode cX8_findChance 35 = .ok (.iaload, 1) := by decide +kernel
theorem dX8_findChance_36 : decode cX8_findChance 36 = .ok (.iadd, 1) := by decide +kernel
theorem dX8_findChance_37 : decode cX8_findChance 37 = .ok (.istore 4, 2) := by decide +kernel
theorem dX8_findChance_39 : decode cX8_findChance 39 = .ok (.aload_n 0, 1) := by decide +kernel
theorem dX8_findChance_40 : decode cX8_findChance 40 = .ok (.getfield 7, 3) := by decide +kernel
theorem dX8_findChance_43 : decode cX8_findChance 43 = .ok (.iload_n 2, 1) := by decide +kernel
theorem dX8_findChance_44 : decode cX8_findChance 44 = .ok (.iconst 1, 1) := by decide +kernel
theorem dX8_findChance_45 : decode cX8_findChance 45 = .ok (.iadd, 1) := by decide +kernel
theorem dX8_findChance_46 : decode cX8_findChance 46 = .ok (.iaload, 1) := by decide +kernel
theorem dX8_findChance_47 : decode cX8_findChance 47 = .ok (.aload_n 0, 1) := by decide +kernel
theorem dX8_findChance_48 : decode cX8_findChance 48 = .ok (.getfield 7, 3) := by decide +kernel
theorem dX8_findChance_51 : decode cX8_findChance 51 = .ok (.iload_n 2, 1) := by decide +kernel
theorem dX8_findChance_52 : decode cX8_findChance 52 = .ok (.iconst 3, 1) := by decide +kernel
theorem dX8_findChance_53 : decode cX8_findChance 53 = .ok (.iadd, 1) := by decide +kernel
theorem dX8_findChance_54 : decode cX8_findChance 54 = .ok (.iaload, 1) := by decide +kernel
theorem dX8_findChance_55 : decode cX8_findChance 55 = .ok (.iadd, 1) := by decide +kernel
theorem dX8_findChance_56 : decode cX8_findChance 56 = .ok (.istore 5, 2) := by decide +kernel
theorem dX8_findChance_58 : decode cX8_findChance 58 = .ok (.aload_n 0, 1) := by decide +kernel
theorem dX8_findChance_59 : decode cX8_findChance 59 = .ok (.lconst 0, 1) := by decide +kernel
theorem dX8_findChance_60 : decode cX8_findChance 60 = .ok (.putfield 117, 3) := by decide +kernel
theorem dX8_findChance_63 : decode cX8_findChance 63 = .ok (.aload_n 0, 1) := by decide +kernel
theorem dX8_findChance_64 : decode cX8_findChance 64 = .ok (.aload_n 0, 1) := by decide +kernel
theorem dX8_findChance_65 : decode cX8_findChance 65 = .ok (.iload 4, 2) := by decide +kernel
theorem dX8_findChance_67 : decode cX8_findChance 67 = .ok (.iload 5, 2) := by decide +kernel
theorem dX8_findChance_69 : decode cX8_findChance 69 = .ok (.iadd, 1) := by decide +kernel
theorem dX8_findChance_70 : decode cX8_findChance 70 = .ok (.iload_n 3, 1) := by decide +kernel
theorem dX8_findChance_71 : decode cX8_findChance 71 = .ok (.invokevirtual 121, 3) := by decide +kernel
theorem dX8_findChance_74 : decode cX8_findChance 74 = .ok (.putfield 124, 3) := by decide +kernel
theorem dX8_findChance_77 : decode cX8_findChance 77 = .ok (.aload_n 0, 1) := by decide +kernel
theorem dX8_findChance_78 : decode cX8_findChance 78 = .ok (.getfield 7, 3) := by decide +kernel
theorem dX8_findChance_81 : decode cX8_findChance 81 = .ok (.iload_n 2, 1) := by decide +kernel
theorem dX8_findChance_82 : decode cX8_findChance 82 = .ok (.iaload, 1) := by decide +kernel
theorem dX8_findChance_83 : decode cX8_findChance 83 = .ok (.istore 6, 2) := by decide +kernel
theorem dX8_findChance_85 : decode cX8_findChance 85 = .ok (.iload 6, 2) := by decide +kernel
theorem dX8_findChance_87 : decode cX8_findChance 87 = .ok (.iload_n 3, 1) := by decide +kernel
theorem dX8_findChance_88 : decode cX8_findChance 88 = .ok (.if_icmp .gt 44, 3) := by decide +kernel
theorem dX8_findChance_91 : decode cX8_findChance 91 = .ok (.iload 6, 2) := by decide +kernel
theorem dX8_findChance_93 : decode cX8_findChance 93 = .ok (.iload 4, 2) := by decide +kernel
theorem dX8_findChance_95 : decode cX8_findChance 95 = .ok (.if_icmp .gt 37, 3) := by decide +kernel
theorem dX8_findChance_98 : decode cX8_findChance 98 = .ok (.aload_n 0, 1) := by decide +kernel
theorem dX8_findChance_99 : decode cX8_findChance 99 = .ok (.dup, 1) := by decide +kernel
theorem dX8_findChance_100 : decode cX8_findChance 100 = .ok (.getfield 117, 3) := by decide +kernel
theorem dX8_findChance_103 : decode cX8_findChance 103 = .ok (.aload_n 0, 1) := by decide +kernel
theorem dX8_findChance_104 : decode cX8_findChance 104 = .ok (.iload 4, 2) := by decide +kernel
theorem dX8_findChance_106 : decode cX8_findChance 106 = .ok (.iload 6, 2) := by decide +kernel
theorem dX8_findChance_108 : decode cX8_findChance 108 = .ok (.invokevirtual 121, 3) := by decide +kernel
theorem dX8_findChance_111 : decode cX8_findChance 111 = .ok (.aload_n 0, 1) := by decide +kernel
theorem dX8_findChance_112 : decode cX8_findChance 112 = .ok (.iload 5, 2) := by decide +kernel
theorem dX8_findChance_114 : decode cX8_findChance 114 = .ok (.iload_n 3, 1) := by decide +kernel
theorem dX8_findChance_115 : decode cX8_findChance 115 = .ok (.iload 6, 2) := by decide +kernel
theorem dX8_findChance_117 : decode cX8_findChance 117 = .ok (.isub, 1) := by decide +kernel
theorem dX8_findChance_118 : decode cX8_findChance 118 = .ok (.invokevirtual 121, 3) := by decide +kernel
theorem dX8_findChance_121 : decode cX8_findChance 121 = .ok (.lmul, 1) := by decide +kernel
theorem dX8_findChance_122 : decode cX8_findChance 122 = .ok (.ladd, 1) := by decide +kernel
theorem dX8_findChance_123 : decode cX8_findChance 123 = .ok (.putfield 117, 3) := by decide +kernel
theorem dX8_findChance_126 : decode cX8_findChance 126 = .ok (.iinc 6 1, 3) := by decide +kernel
theorem dX8_findChance_129 : decode cX8_findChance 129 = .ok (.goto (-44), 3) := by decide +kernel
theorem dX8_findChance_132 : decode cX8_findChance 132 = .ok (.return_, 1) := by decide +kernel
theorem dX8_isBad_0 : decode cX8_isBad 0 = .ok (.aload_n 0, 1) := by decide +kernel
theorem dX8_isBad_1 : decode cX8_isBad 1 = .ok (.iload_n 1, 1) := by decide +kernel
theorem dX8_isBad_2 : decode cX8_isBad 2 = .ok (.invokevirtual 127, 3) := by decide +kernel
theorem dX8_isBad_5 : decode cX8_isBad 5 = .ok (.aload_n 0, 1) := by decide +kernel
theorem dX8_isBad_6 : decode cX8_isBad 6 = .ok (.getfield 131, 3) := by decide +kernel
theorem dX8_isBad_9 : decode cX8_isBad 9 = .ok (.ifCond .ne 31, 3) := by decide +kernel
theorem dX8_isBad_12 : decode cX8_isBad 12 = .ok (.ldc2_w 135, 3) := by decide +kernel
theorem dX8_isBad_15 : decode cX8_isBad 15 = .ok (.aload_n 0, 1) := by decide +kernel
theorem dX8_isBad_16 : decode cX8_isBad 16 = .ok (.getfield 117, 3) := by decide +kernel
theorem dX8_isBad_19 : decode cX8_isBad 19 = .ok (.lmul, 1) := by decide +kernel
theorem dX8_isBad_20 : decode cX8_isBad 20 = .ok (.aload_n 0, 1) := by decide +kernel
theorem dX8_isBad_21 : decode cX8_isBad 21 = .ok (.getfield 7, 3) := by decide +kernel
theorem dX8_isBad_24 : decode cX8_isBad 24 = .ok (.iconst 2, 1) := by decide +kernel
theorem dX8_isBad_25 : decode cX8_isBad 25 = .ok (.iaload, 1) := by decide +kernel
theorem dX8_isBad_26 : decode cX8_isBad 26 = .ok (.i2l, 1) := by decide +kernel
theorem dX8_isBad_27 : decode cX8_isBad 27 = .ok (.aload_n 0, 1) := by decide +kernel
theorem dX8_isBad_28 : decode cX8_isBad 28 = .ok (.getfield 124, 3) := by decide +kernel
theorem dX8_isBad_31 : decode cX8_isBad 31 = .ok (.lmul, 1) := by decide +kernel
theorem dX8_isBad_32 : decode cX8_isBad 32 = .ok (.lcmp, 1) := by decide +kernel
theorem dX8_isBad_33 : decode cX8_isBad 33 = .ok (.ifCond .gt 7, 3) := by decide +kernel
theorem dX8_isBad_36 : decode cX8_isBad 36 = .ok (.iconst 1, 1) := by decide +kernel
theorem dX8_isBad_37 : decode cX8_isBad 37 = .ok (.goto 4, 3) := by decide +kernel
theorem dX8_isBad_40 : decode cX8_isBad 40 = .ok (.iconst 0, 1) := by decide +kernel
theorem dX8_isBad_41 : decode cX8_isBad 41 = .ok (.ireturn, 1) := by decide +kernel
theorem dX8_divisor_0 : decode cX8_divisor 0 = .ok (.lload_n 0, 1) := by decide +kernel
theorem dX8_divisor_1 : decode cX8_divisor 1 = .ok (.lstore 4, 2) := by decide +kernel
theorem dX8_divisor_3 : decode cX8_divisor 3 = .ok (.lload_n 2, 1) := by decide +kernel
theorem dX8_divisor_4 : decode cX8_divisor 4 = .ok (.lstore 6, 2) := by decide +kernel
theorem dX8_divisor_6 : decode cX8_divisor 6 = .ok (.lload 6, 2) := by decide +kernel
theorem dX8_divisor_8 : decode cX8_divisor 8 = .ok (.lconst 0, 1) := by decide +kernel
theorem dX8_divisor_9 : decode cX8_divisor 9 = .ok (.lcmp, 1) := by decide +kernel
theorem dX8_divisor_10 : decode cX8_divisor 10 = .ok (.ifCond .eq 21, 3) := by decide +kernel
theorem dX8_divisor_13 : decode cX8_divisor 13 = .ok (.lload 4, 2) := by decide +kernel
theorem dX8_divisor_15 : decode cX8_divisor 15 = .ok (.lload 6, 2) := by decide +kernel
theorem dX8_divisor_17 : decode cX8_divisor 17 = .ok (.lrem, 1) := by decide +kernel
theorem dX8_divisor_18 : decode cX8_divisor 18 = .ok (.lstore 8, 2) := by decide +kernel
theorem dX8_divisor_20 : decode cX8_divisor 20 = .ok (.lload 6, 2) := by decide +kernel
theorem dX8_divisor_22 : decode cX8_divisor 22 = .ok (.lstore 4, 2) := by decide +kernel
theorem dX8_divisor_24 : decode cX8_divisor 24 = .ok (.lload 8, 2) := by decide +kernel
theorem dX8_divisor_26 : decode cX8_divisor 26 = .ok (.lstore 6, 2) := by decide +kernel
theorem dX8_divisor_28 : decode cX8_divisor 28 = .ok (.goto (-22), 3) := by decide +kernel
theorem dX8_divisor_31 : decode cX8_divisor 31 = .ok (.lload 4, 2) := by decide +kernel
theorem dX8_divisor_33 : decode cX8_divisor 33 = .ok (.lreturn, 1) := by decide +kernel
theorem dX8_isFrozenHour_0 : decode cX8_isFrozenHour 0 = .ok (.iconst 0, 1) := by decide +kernel
theorem dX8_isFrozenHour_1 : decode cX8_isFrozenHour 1 = .ok (.istore_n 2, 1) := by decide +kernel
theorem dX8_isFrozenHour_2 : decode cX8_isFrozenHour 2 = .ok (.iconst 0, 1) := by decide +kernel
theorem dX8_isFrozenHour_3 : decode cX8_isFrozenHour 3 = .ok (.istore_n 3, 1) := by decide +kernel
theorem dX8_isFrozenHour_4 : decode cX8_isFrozenHour 4 = .ok (.iload_n 3, 1) := by decide +kernel
theorem dX8_isFrozenHour_5 : decode cX8_isFrozenHour 5 = .ok (.aload_n 0, 1) := by decide +kernel
theorem dX8_isFrozenHour_6 : decode cX8_isFrozenHour 6 = .ok (.getfield 7, 3) := by decide +kernel
theorem dX8_isFrozenHour_9 : decode cX8_isFrozenHour 9 = .ok (.iconst 3, 1) := by decide +kernel
theorem dX8_isFrozenHour_10 : decode cX8_isFrozenHour 10 = .ok (.iaload, 1) := by decide +kernel
theorem dX8_isFrozenHour_11 : decode cX8_isFrozenHour 11 = .ok (.if_icmp .ge 50, 3) := by decide +kernel
theorem dX8_isFrozenHour_14 : decode cX8_isFrozenHour 14 = .ok (.iload_n 2, 1) := by decide +kernel
theorem dX8_isFrozenHour_15 : decode cX8_isFrozenHour 15 = .ok (.ifCond .ne 34, 3) := by decide +kernel
theorem dX8_isFrozenHour_18 : decode cX8_isFrozenHour 18 = .ok (.iload_n 1, 1) := by decide +kernel
theorem dX8_isFrozenHour_19 : decode cX8_isFrozenHour 19 = .ok (.aload_n 0, 1) := by decide +kernel
theorem dX8_isFrozenHour_20 : decode cX8_isFrozenHour 20 = .ok (.getfield 7, 3) := by decide +kernel
theorem dX8_isFrozenHour_23 : decode cX8_isFrozenHour 23 = .ok (.iconst 4, 1) := by decide +kernel
theorem dX8_isFrozenHour_24 : decode cX8_isFrozenHour 24 = .ok (.iconst 2, 1) := by decide +kernel
theorem dX8_isFrozenHour_25 : decode cX8_isFrozenHour 25 = .ok (.iload_n 3, 1) := by decide +kernel
theorem dX8_isFrozenHour_26 : decode cX8_isFrozenHour 26 = .ok (.imul, 1) := by decide +kernel
theorem dX8_isFrozenHour_27 : decode cX8_isFrozenHour 27 = .ok (.iadd, 1) := by decide +kernel
theorem dX8_isFrozenHour_28 : decode cX8_isFrozenHour 28 = .ok (.iaload, 1) := by decide +kernel
theorem dX8_isFrozenHour_29 : decode cX8_isFrozenHour 29 = .ok (.aload_n 0, 1) := by decide +kernel
theorem dX8_isFrozenHour_30 : decode cX8_isFrozenHour 30 = .ok (.getfield 7, 3) := by decide +kernel
theorem dX8_isFrozenHour_33 : decode cX8_isFrozenHour 33 = .ok (.iconst 4, 1) := by decide +kernel
theorem dX8_isFrozenHour_34 : decode cX8_isFrozenHour 34 = .ok (.iconst 2, 1) := by decide +kernel
theorem dX8_isFrozenHour_35 : decode cX8_isFrozenHour 35 = .ok (.iload_n 3, 1) := by decide +kernel
theorem dX8_isFrozenHour_36 : decode cX8_isFrozenHour 36 = .ok (.imul, 1) := by decide +kernel
theorem dX8_isFrozenHour_37 : decode cX8_isFrozenHour 37 = .ok (.iadd, 1) := by decide +kernel
theorem dX8_isFrozenHour_38 : decode cX8_isFrozenHour 38 = .ok (.iconst 1, 1) := by decide +kernel
theorem dX8_isFrozenHour_39 : decode cX8_isFrozenHour 39 = .ok (.iadd, 1) := by decide +kernel
theorem dX8_isFrozenHour_40 : decode cX8_isFrozenHour 40 = .ok (.iaload, 1) := by decide +kernel
theorem dX8_isFrozenHour_41 : decode cX8_isFrozenHour 41 = .ok (.iconst 1, 1) := by decide +kernel
theorem dX8_isFrozenHour_42 : decode cX8_isFrozenHour 42 = .ok (.isub, 1) := by decide +kernel
theorem dX8_isFrozenHour_43 : decode cX8_isFrozenHour 43 = .ok (.invokestatic 37, 3) := by decide +kernel
theorem dX8_isFrozenHour_46 : decode cX8_isFrozenHour 46 = .ok (.ifCond .eq 7, 3) := by decide +kernel
theorem dX8_isFrozenHour_49 : decode cX8_isFrozenHour 49 = .ok (.iconst 1, 1) := by decide +kernel
theorem dX8_isFrozenHour_50 : decode cX8_isFrozenHour 50 = .ok (.goto 4, 3) := by decide +kernel
theorem dX8_isFrozenHour_53 : decode cX8_isFrozenHour 53 = .ok (.iconst 0, 1) := by decide +kernel
theorem dX8_isFrozenHour_54 : decode cX8_isFrozenHour 54 = .ok (.istore_n 2, 1) := by decide +kernel
theorem dX8_isFrozenHour_55 : decode cX8_isFrozenHour 55 = .ok (.iinc 3 1, 3) := by decide +kernel
theorem dX8_isFrozenHour_58 : decode cX8_isFrozenHour 58 = .ok (.goto (-54), 3) := by decide +kernel
theorem dX8_isFrozenHour_61 : decode cX8_isFrozenHour 61 = .ok (.iload_n 2, 1) := by decide +kernel
theorem dX8_isFrozenHour_62 : decode cX8_isFrozenHour 62 = .ok (.ireturn, 1) := by decide +kernel
theorem dX8_hoursSince_0 : decode cX8_hoursSince 0 = .ok (.aload_n 0, 1) := by decide +kernel
theorem dX8_hoursSince_1 : decode cX8_hoursSince 1 = .ok (.getfield 7, 3) := by decide +kernel
theorem dX8_hoursSince_4 : decode cX8_hoursSince 4 = .ok (.iload_n 1, 1) := by decide +kernel
theorem dX8_hoursSince_5 : decode cX8_hoursSince 5 = .ok (.iconst 3, 1) := by decide +kernel
theorem dX8_hoursSince_6 : decode cX8_hoursSince 6 = .ok (.invokestatic 33, 3) := by decide +kernel
theorem dX8_hoursSince_9 : decode cX8_hoursSince 9 = .ok (.iaload, 1) := by decide +kernel
theorem dX8_hoursSince_10 : decode cX8_hoursSince 10 = .ok (.istore_n 2, 1) := by decide +kernel
theorem dX8_hoursSince_11 : decode cX8_hoursSince 11 = .ok (.iload_n 2, 1) := by decide +kernel
theorem dX8_hoursSince_12 : decode cX8_hoursSince 12 = .ok (.ifCond .ne 7, 3) := by decide +kernel
theorem dX8_hoursSince_15 : decode cX8_hoursSince 15 = .ok (.iconst 0, 1) := by decide +kernel
theorem dX8_hoursSince_16 : decode cX8_hoursSince 16 = .ok (.goto 23, 3) := by decide +kernel
theorem dX8_hoursSince_19 : decode cX8_hoursSince 19 = .ok (.aload_n 0, 1) := by decide +kernel
theorem dX8_hoursSince_20 : decode cX8_hoursSince 20 = .ok (.getfield 7, 3) := by decide +kernel
theorem dX8_hoursSince_23 : decode cX8_hoursSince 23 = .ok (.iconst 1, 1) := by decide +kernel
theorem dX8_hoursSince_24 : decode cX8_hoursSince 24 = .ok (.iaload, 1) := by decide +kernel
theorem dX8_hoursSince_25 : decode cX8_hoursSince 25 = .ok (.aload_n 0, 1) := by decide +kernel
theorem dX8_hoursSince_26 : decode cX8_hoursSince 26 = .ok (.getfield 7, 3) := by decide +kernel
theorem dX8_hoursSince_29 : decode cX8_hoursSince 29 = .ok (.iload_n 1, 1) := by decide +kernel
theorem dX8_hoursSince_30 : decode cX8_hoursSince 30 = .ok (.iload_n 2, 1) := by decide +kernel
theorem dX8_hoursSince_31 : decode cX8_hoursSince 31 = .ok (.iconst 1, 1) := by decide +kernel
theorem dX8_hoursSince_32 : decode cX8_hoursSince 32 = .ok (.isub, 1) := by decide +kernel
theorem dX8_hoursSince_33 : decode cX8_hoursSince 33 = .ok (.iconst 3, 1) := by decide +kernel
theorem dX8_hoursSince_34 : decode cX8_hoursSince 34 = .ok (.invokestatic 44, 3) := by decide +kernel
theorem dX8_hoursSince_37 : decode cX8_hoursSince 37 = .ok (.iaload, 1) := by decide +kernel
theorem dX8_hoursSince_38 : decode cX8_hoursSince 38 = .ok (.isub, 1) := by decide +kernel
theorem dX8_hoursSince_39 : decode cX8_hoursSince 39 = .ok (.ireturn, 1) := by decide +kernel
theorem dX8_lacks_0 : decode cX8_lacks 0 = .ok (.iload_n 1, 1) := by decide +kernel
theorem dX8_lacks_1 : decode cX8_lacks 1 = .ok (.iconst 5, 1) := by decide +kernel
theorem dX8_lacks_2 : decode cX8_lacks 2 = .ok (.invokestatic 33, 3) := by decide +kernel
theorem dX8_lacks_5 : decode cX8_lacks 5 = .ok (.istore_n 2, 1) := by decide +kernel
theorem dX8_lacks_6 : decode cX8_lacks 6 = .ok (.aload_n 0, 1) := by decide +kernel
theorem dX8_lacks_7 : decode cX8_lacks 7 = .ok (.getfield 7, 3) := by decide +kernel
theorem dX8_lacks_10 : decode cX8_lacks 10 = .ok (.iload_n 1, 1) := by decide +kernel
theorem dX8_lacks_11 : decode cX8_lacks 11 = .ok (.aload_n 0, 1) := by decide +kernel
theorem dX8_lacks_12 : decode cX8_lacks 12 = .ok (.getfield 7, 3) := by decide +kernel
theorem dX8_lacks_15 : decode cX8_lacks 15 = .ok (.iload_n 1, 1) := by decide +kernel
theorem dX8_lacks_16 : decode cX8_lacks 16 = .ok (.iconst 3, 1) := by decide +kernel
theorem dX8_lacks_17 : decode cX8_lacks 17 = .ok (.invokestatic 33, 3) := by decide +kernel
theorem dX8_lacks_20 : decode cX8_lacks 20 = .ok (.iaload, 1) := by decide +kernel
theorem dX8_lacks_21 : decode cX8_lacks 21 = .ok (.iconst 1, 1) := by decide +kernel
theorem dX8_lacks_22 : decode cX8_lacks 22 = .ok (.isub, 1) := by decide +kernel
theorem dX8_lacks_23 : decode cX8_lacks 23 = .ok (.iconst 2, 1) := by decide +kernel
theorem dX8_lacks_24 : decode cX8_lacks 24 = .ok (.invokestatic 44, 3) := by decide +kernel
theorem dX8_lacks_27 : decode cX8_lacks 27 = .ok (.iaload, 1) := by decide +kernel
theorem dX8_lacks_28 : decode cX8_lacks 28 = .ok (.istore_n 3, 1) := by decide +kernel
theorem dX8_lacks_29 : decode cX8_lacks 29 = .ok (.aload_n 0, 1) := by decide +kernel
theorem dX8_lacks_30 : decode cX8_lacks 30 = .ok (.iload_n 1, 1) := by decide +kernel
theorem dX8_lacks_31 : decode cX8_lacks 31 = .ok (.invokevirtual 111, 3) := by decide +kernel
theorem dX8_lacks_34 : decode cX8_lacks 34 = .ok (.iconst 1, 1) := by decide +kernel
theorem dX8_lacks_35 : decode cX8_lacks 35 = .ok (.aload_n 0, 1) := by decide +kernel
theorem dX8_lacks_36 : decode cX8_lacks 36 = .ok (.getfield 7, 3) := by decide +kernel
theorem dX8_lacks_39 : decode cX8_lacks 39 = .ok (.iconst 0, 1) := by decide +kernel
theorem dX8_lacks_40 : decode cX8_lacks 40 = .ok (.iaload, 1) := by decide +kernel
theorem dX8_lacks_41 : decode cX8_lacks 41 = .ok (.ishl, 1) := by decide +kernel
theorem dX8_lacks_42 : decode cX8_lacks 42 = .ok (.iconst 1, 1) := by decide +kernel
theorem dX8_lacks_43 : decode cX8_lacks 43 = .ok (.isub, 1) := by decide +kernel
theorem dX8_lacks_44 : decode cX8_lacks 44 = .ok (.if_icmp .ne 7, 3) := by decide +kernel
theorem dX8_lacks_47 : decode cX8_lacks 47 = .ok (.iconst 1, 1) := by decide +kernel
theorem dX8_lacks_48 : decode cX8_lacks 48 = .ok (.goto 4, 3) := by decide +kernel
theorem dX8_lacks_51 : decode cX8_lacks 51 = .ok (.iconst 0, 1) := by decide +kernel
theorem dX8_lacks_52 : decode cX8_lacks 52 = .ok (.istore 4, 2) := by decide +kernel
theorem dX8_lacks_54 : decode cX8_lacks 54 = .ok (.aload_n 0, 1) := by decide +kernel
theorem dX8_lacks_55 : decode cX8_lacks 55 = .ok (.getfield 131, 3) := by decide +kernel
theorem dX8_lacks_58 : decode cX8_lacks 58 = .ok (.ifCond .ne 52, 3) := by decide +kernel
theorem dX8_lacks_61 : decode cX8_lacks 61 = .ok (.aload_n 0, 1) := by decide +kernel
theorem dX8_lacks_62 : decode cX8_lacks 62 = .ok (.getfield 7, 3) := by decide +kernel
theorem dX8_lacks_65 : decode cX8_lacks 65 = .ok (.iload_n 2, 1) := by decide +kernel
theorem dX8_lacks_66 : decode cX8_lacks 66 = .ok (.iaload, 1) := by decide +kernel
theorem dX8_lacks_67 : decode cX8_lacks 67 = .ok (.aload_n 0, 1) := by decide +kernel
theorem dX8_lacks_68 : decode cX8_lacks 68 = .ok (.getfield 7, 3) := by decide +kernel
theorem dX8_lacks_71 : decode cX8_lacks 71 = .ok (.iload_n 2, 1) := by decide +kernel
theorem dX8_lacks_72 : decode cX8_lacks 72 = .ok (.iconst 1, 1) := by decide +kernel
theorem dX8_lacks_73 : decode cX8_lacks 73 = .ok (.iadd, 1) := by decide +kernel
theorem dX8_lacks_74 : decode cX8_lacks 74 = .ok (.iaload, 1) := by decide +kernel
theorem dX8_lacks_75 : decode cX8_lacks 75 = .ok (.iadd, 1) := by decide +kernel
theorem dX8_lacks_76 : decode cX8_lacks 76 = .ok (.iload_n 3, 1) := by decide +kernel
theorem dX8_lacks_77 : decode cX8_lacks 77 = .ok (.if_icmp .lt 29, 3) := by decide +kernel
theorem dX8_lacks_80 : decode cX8_lacks 80 = .ok (.iload 4, 2) := by decide +kernel
theorem dX8_lacks_82 : decode cX8_lacks 82 = .ok (.ifCond .ne 28, 3) := by decide +kernel
theorem dX8_lacks_85 : decode cX8_lacks 85 = .ok (.aload_n 0, 1) := by decide +kernel
theorem dX8_lacks_86 : decode cX8_lacks 86 = .ok (.getfield 7, 3) := by decide +kernel
theorem dX8_lacks_89 : decode cX8_lacks 89 = .ok (.iload_n 2, 1) := by decide +kernel
theorem dX8_lacks_90 : decode cX8_lacks 90 = .ok (.iconst 2, 1) := by decide +kernel
theorem dX8_lacks_91 : decode cX8_lacks 91 = .ok (.iadd, 1) := by decide +kernel
theorem dX8_lacks_92 : decode cX8_lacks 92 = .ok (.iaload, 1) := by decide +kernel
theorem dX8_lacks_93 : decode cX8_lacks 93 = .ok (.aload_n 0, 1) := by decide +kernel
theorem dX8_lacks_94 : decode cX8_lacks 94 = .ok (.getfield 7, 3) := by decide +kernel
theorem dX8_lacks_97 : decode cX8_lacks 97 = .ok (.iload_n 2, 1) := by decide +kernel
theorem dX8_lacks_98 : decode cX8_lacks 98 = .ok (.iconst 3, 1) := by decide +kernel
theorem dX8_lacks_99 : decode cX8_lacks 99 = .ok (.iadd, 1) := by decide +kernel
theorem dX8_lacks_100 : decode cX8_lacks 100 = .ok (.iaload, 1) := by decide +kernel
theorem dX8_lacks_101 : decode cX8_lacks 101 = .ok (.iadd, 1) := by decide +kernel
theorem dX8_lacks_102 : decode cX8_lacks 102 = .ok (.iload_n 3, 1) := by decide +kernel
theorem dX8_lacks_103 : decode cX8_lacks 103 = .ok (.if_icmp .ge 7, 3) := by decide +kernel
theorem dX8_lacks_106 : decode cX8_lacks 106 = .ok (.iconst 1, 1) := by decide +kernel
theorem dX8_lacks_107 : decode cX8_lacks 107 = .ok (.goto 4, 3) := by decide +kernel
theorem dX8_lacks_110 : decode cX8_lacks 110 = .ok (.iconst 0, 1) := by decide +kernel
theorem dX8_lacks_111 : decode cX8_lacks 111 = .ok (.ireturn, 1) := by decide +kernel
theorem dX8_areAllDone_0 : decode cX8_areAllDone 0 = .ok (.iconst 1, 1) := by decide +kernel
theorem dX8_areAllDone_1 : decode cX8_areAllDone 1 = .ok (.istore_n 2, 1) := by decide +kernel
theorem dX8_areAllDone_2 : decode cX8_areAllDone 2 = .ok (.iconst 0, 1) := by decide +kernel
theorem dX8_areAllDone_3 : decode cX8_areAllDone 3 = .ok (.istore_n 3, 1) := by decide +kernel
theorem dX8_areAllDone_4 : decode cX8_areAllDone 4 = .ok (.iload_n 3, 1) := by decide +kernel
theorem dX8_areAllDone_5 : decode cX8_areAllDone 5 = .ok (.iconst 5, 1) := by decide +kernel
theorem dX8_areAllDone_6 : decode cX8_areAllDone 6 = .ok (.if_icmp .ge 41, 3) := by decide +kernel
theorem dX8_areAllDone_9 : decode cX8_areAllDone 9 = .ok (.iload_n 2, 1) := by decide +kernel
theorem dX8_areAllDone_10 : decode cX8_areAllDone 10 = .ok (.ifCond .eq 29, 3) := by decide +kernel
theorem dX8_areAllDone_13 : decode cX8_areAllDone 13 = .ok (.iload_n 1, 1) := by decide +kernel
theorem dX8_areAllDone_14 : decode cX8_areAllDone 14 = .ok (.iload_n 3, 1) := by decide +kernel
theorem dX8_areAllDone_15 : decode cX8_areAllDone 15 = .ok (.ishr, 1) := by decide +kernel
theorem dX8_areAllDone_16 : decode cX8_areAllDone 16 = .ok (.iconst 1, 1) := by decide +kernel
theorem dX8_areAllDone_17 : decode cX8_areAllDone 17 = .ok (.iand, 1) := by decide +kernel
theorem dX8_areAllDone_18 : decode cX8_areAllDone 18 = .ok (.ifCond .eq 17, 3) := by decide +kernel
theorem dX8_areAllDone_21 : decode cX8_areAllDone 21 = .ok (.aload_n 0, 1) := by decide +kernel
theorem dX8_areAllDone_22 : decode cX8_areAllDone 22 = .ok (.getfield 7, 3) := by decide +kernel
theorem dX8_areAllDone_25 : decode cX8_areAllDone 25 = .ok (.iload_n 3, 1) := by decide +kernel
theorem dX8_areAllDone_26 : decode cX8_areAllDone 26 = .ok (.iconst 1, 1) := by decide +kernel
theorem dX8_areAllDone_27 : decode cX8_areAllDone 27 = .ok (.invokestatic 33, 3) := by decide +kernel
theorem dX8_areAllDone_30 : decode cX8_areAllDone 30 = .ok (.iaload, 1) := by decide +kernel
theorem dX8_areAllDone_31 : decode cX8_areAllDone 31 = .ok (.iconst 3, 1) := by decide +kernel
theorem dX8_areAllDone_32 : decode cX8_areAllDone 32 = .ok (.if_icmp .ne 7, 3) := by decide +kernel
theorem dX8_areAllDone_35 : decode cX8_areAllDone 35 = .ok (.iconst 1, 1) := by decide +kernel
theorem dX8_areAllDone_36 : decode cX8_areAllDone 36 = .ok (.goto 4, 3) := by decide +kernel
theorem dX8_areAllDone_39 : decode cX8_areAllDone 39 = .ok (.iconst 0, 1) := by decide +kernel
theorem dX8_areAllDone_40 : decode cX8_areAllDone 40 = .ok (.istore_n 2, 1) := by decide +kernel
theorem dX8_areAllDone_41 : decode cX8_areAllDone 41 = .ok (.iinc 3 1, 3) := by decide +kernel
theorem dX8_areAllDone_44 : decode cX8_areAllDone 44 = .ok (.goto (-40), 3) := by decide +kernel
theorem dX8_areAllDone_47 : decode cX8_areAllDone 47 = .ok (.iload_n 2, 1) := by decide +kernel
theorem dX8_areAllDone_48 : decode cX8_areAllDone 48 = .ok (.ireturn, 1) := by decide +kernel
theorem dX8_isOtherRisk_0 : decode cX8_isOtherRisk 0 = .ok (.iconst 0, 1) := by decide +kernel
theorem dX8_isOtherRisk_1 : decode cX8_isOtherRisk 1 = .ok (.istore_n 2, 1) := by decide +kernel
theorem dX8_isOtherRisk_2 : decode cX8_isOtherRisk 2 = .ok (.iconst 0, 1) := by decide +kernel
theorem dX8_isOtherRisk_3 : decode cX8_isOtherRisk 3 = .ok (.istore_n 3, 1) := by decide +kernel
theorem dX8_isOtherRisk_4 : decode cX8_isOtherRisk 4 = .ok (.iload_n 3, 1) := by decide +kernel
theorem dX8_isOtherRisk_5 : decode cX8_isOtherRisk 5 = .ok (.aload_n 0, 1) := by decide +kernel
theorem dX8_isOtherRisk_6 : decode cX8_isOtherRisk 6 = .ok (.getfield 7, 3) := by decide +kernel
theorem dX8_isOtherRisk_9 : decode cX8_isOtherRisk 9 = .ok (.bipush 10, 2) := by decide +kernel
theorem dX8_isOtherRisk_11 : decode cX8_isOtherRisk 11 = .ok (.iaload, 1) := by decide +kernel
theorem dX8_isOtherRisk_12 : decode cX8_isOtherRisk 12 = .ok (.if_icmp .ge 91, 3) := by decide +kernel
theorem dX8_isOtherRisk_15 : decode cX8_isOtherRisk 15 = .ok (.aload_n 0, 1) := by decide +kernel
theorem dX8_isOtherRisk_16 : decode cX8_isOtherRisk 16 = .ok (.getfield 7, 3) := by decide +kernel
theorem dX8_isOtherRisk_19 : decode cX8_isOtherRisk 19 = .ok (.iload_n 3, 1) := by decide +kernel
theorem dX8_isOtherRisk_20 : decode cX8_isOtherRisk 20 = .ok (.iconst 1, 1) := by decide +kernel
theorem dX8_isOtherRisk_21 : decode cX8_isOtherRisk 21 = .ok (.invokestatic 33, 3) := by decide +kernel
theorem dX8_isOtherRisk_24 : decode cX8_isOtherRisk 24 = .ok (.iaload, 1) := by decide +kernel
theorem dX8_isOtherRisk_25 : decode cX8_isOtherRisk 25 = .ok (.istore 4, 2) := by decide +kernel
theorem dX8_isOtherRisk_27 : decode cX8_isOtherRisk 27 = .ok (.iload 4, 2) := by decide +kernel
theorem dX8_isOtherRisk_29 : decode cX8_isOtherRisk 29 = .ok (.iconst 1, 1) := by decide +kernel
theorem dX8_isOtherRisk_30 : decode cX8_isOtherRisk 30 = .ok (.iconst 2, 1) := by decide +kernel
theorem dX8_isOtherRisk_31 : decode cX8_isOtherRisk 31 = .ok (.invokestatic 37, 3) := by decide +kernel
theorem dX8_isOtherRisk_34 : decode cX8_isOtherRisk 34 = .ok (.ifCond .ne 9, 3) := by decide +kernel
theorem dX8_isOtherRisk_37 : decode cX8_isOtherRisk 37 = .ok (.iload 4, 2) := by decide +kernel
theorem dX8_isOtherRisk_39 : decode cX8_isOtherRisk 39 = .ok (.iconst 4, 1) := by decide +kernel
theorem dX8_isOtherRisk_40 : decode cX8_isOtherRisk 40 = .ok (.if_icmp .ne 7, 3) := by decide +kernel
theorem dX8_isOtherRisk_43 : decode cX8_isOtherRisk 43 = .ok (.iconst 1, 1) := by decide +kernel
theorem dX8_isOtherRisk_44 : decode cX8_isOtherRisk 44 = .ok (.goto 4, 3) := by decide +kernel
theorem dX8_isOtherRisk_47 : decode cX8_isOtherRisk 47 = .ok (.iconst 0, 1) := by decide +kernel
theorem dX8_isOtherRisk_48 : decode cX8_isOtherRisk 48 = .ok (.istore 5, 2) := by decide +kernel
theorem dX8_isOtherRisk_50 : decode cX8_isOtherRisk 50 = .ok (.iload_n 2, 1) := by decide +kernel
theorem dX8_isOtherRisk_51 : decode cX8_isOtherRisk 51 = .ok (.ifCond .ne 40, 3) := by decide +kernel
theorem dX8_isOtherRisk_54 : decode cX8_isOtherRisk 54 = .ok (.iload_n 3, 1) := by decide +kernel
theorem dX8_isOtherRisk_55 : decode cX8_isOtherRisk 55 = .ok (.iload_n 1, 1) := by decide +kernel
theorem dX8_isOtherRisk_56 : decode cX8_isOtherRisk 56 = .ok (.if_icmp .eq 39, 3) := by decide +kernel
theorem dX8_isOtherRisk_59 : decode cX8_isOtherRisk 59 = .ok (.aload_n 0, 1) := by decide +kernel
theorem dX8_isOtherRisk_60 : decode cX8_isOtherRisk 60 = .ok (.getfield 7, 3) := by decide +kernel
theorem dX8_isOtherRisk_63 : decode cX8_isOtherRisk 63 = .ok (.iload_n 3, 1) := by decide +kernel
theorem dX8_isOtherRisk_64 : decode cX8_isOtherRisk 64 = .ok (.iconst 0, 1) := by decide +kernel
theorem dX8_isOtherRisk_65 : decode cX8_isOtherRisk 65 = .ok (.invokestatic 33, 3) := by decide +kernel
theorem dX8_isOtherRisk_68 : decode cX8_isOtherRisk 68 = .ok (.iaload, 1) := by decide +kernel
theorem dX8_isOtherRisk_69 : decode cX8_isOtherRisk 69 = .ok (.iconst 1, 1) := by decide +kernel
theorem dX8_isOtherRisk_70 : decode cX8_isOtherRisk 70 = .ok (.if_icmp .ne 25, 3) := by decide +kernel
theorem dX8_isOtherRisk_73 : decode cX8_isOtherRisk 73 = .ok (.iload 5, 2) := by decide +kernel
theorem dX8_isOtherRisk_75 : decode cX8_isOtherRisk 75 = .ok (.ifCond .eq 20, 3) := by decide +kernel
theorem dX8_isOtherRisk_78 : decode cX8_isOtherRisk 78 = .ok (.aload_n 0, 1) := by decide +kernel
theorem dX8_isOtherRisk_79 : decode cX8_isOtherRisk 79 = .ok (.getfield 7, 3) := by decide +kernel
theorem dX8_isOtherRisk_82 : decode cX8_isOtherRisk 82 = .ok (.iload_n 3, 1) := by decide +kernel
theorem dX8_isOtherRisk_83 : decode cX8_isOtherRisk 83 = .ok (.iconst 3, 1) := by decide +kernel
theorem dX8_isOtherRisk_84 : decode cX8_isOtherRisk 84 = .ok (.invokestatic 33, 3) := by decide +kernel
theorem dX8_isOtherRisk_87 : decode cX8_isOtherRisk 87 = .ok (.iaload, 1) := by decide +kernel
theorem dX8_isOtherRisk_88 : decode cX8_isOtherRisk 88 = .ok (.ifCond .le 7, 3) := by decide +kernel
theorem dX8_isOtherRisk_91 : decode cX8_isOtherRisk 91 = .ok (.iconst 1, 1) := by decide +kernel
theorem dX8_isOtherRisk_92 : decode cX8_isOtherRisk 92 = .ok (.goto 4, 3) := by decide +kernel
theorem dX8_isOtherRisk_95 : decode cX8_isOtherRisk 95 = .ok (.iconst 0, 1) := by decide +kernel
theorem dX8_isOtherRisk_96 : decode cX8_isOtherRisk 96 = .ok (.istore_n 2, 1) := by decide +kernel
theorem dX8_isOtherRisk_97 : decode cX8_isOtherRisk 97 = .ok (.iinc 3 1, 3) := by decide +kernel
theorem dX8_isOtherRisk_100 : decode cX8_isOtherRisk 100 = .ok (.goto (-96), 3) := by decide +kernel
theorem dX8_isOtherRisk_103 : decode cX8_isOtherRisk 103 = .ok (.iload_n 2, 1) := by decide +kernel
theorem dX8_isOtherRisk_104 : decode cX8_isOtherRisk 104 = .ok (.ifCond .eq 21, 3) := by decide +kernel
theorem dX8_isOtherRisk_107 : decode cX8_isOtherRisk 107 = .ok (.aload_n 0, 1) := by decide +kernel
theorem dX8_isOtherRisk_108 : decode cX8_isOtherRisk 108 = .ok (.getfield 7, 3) := by decide +kernel
theorem dX8_isOtherRisk_111 : decode cX8_isOtherRisk 111 = .ok (.iload_n 1, 1) := by decide +kernel
theorem dX8_isOtherRisk_112 : decode cX8_isOtherRisk 112 = .ok (.iconst 0, 1) := by decide +kernel
theorem dX8_isOtherRisk_113 : decode cX8_isOtherRisk 113 = .ok (.invokestatic 33, 3) := by decide +kernel
theorem dX8_isOtherRisk_116 : decode cX8_isOtherRisk 116 = .ok (.iaload, 1) := by decide +kernel
theorem dX8_isOtherRisk_117 : decode cX8_isOtherRisk 117 = .ok (.iconst 1, 1) := by decide +kernel
theorem dX8_isOtherRisk_118 : decode cX8_isOtherRisk 118 = .ok (.if_icmp .ne 7, 3) := by decide +kernel
theorem dX8_isOtherRisk_121 : decode cX8_isOtherRisk 121 = .ok (.iconst 1, 1) := by decide +kernel
theorem dX8_isOtherRisk_122 : decode cX8_isOtherRisk 122 = .ok (.goto 4, 3) := by decide +kernel
theorem dX8_isOtherRisk_125 : decode cX8_isOtherRisk 125 = .ok (.iconst 0, 1) := by decide +kernel
theorem dX8_isOtherRisk_126 : decode cX8_isOtherRisk 126 = .ok (.ireturn, 1) := by decide +kernel
theorem dX8_reason_0 : decode cX8_reason 0 = .ok (.aload_n 0, 1) := by decide +kernel
theorem dX8_reason_1 : decode cX8_reason 1 = .ok (.getfield 7, 3) := by decide +kernel
theorem dX8_reason_4 : decode cX8_reason 4 = .ok (.iload_n 1, 1) := by decide +kernel
theorem dX8_reason_5 : decode cX8_reason 5 = .ok (.iconst 1, 1) := by decide +kernel
theorem dX8_reason_6 : decode cX8_reason 6 = .ok (.invokestatic 33, 3) := by decide +kernel
theorem dX8_reason_9 : decode cX8_reason 9 = .ok (.iaload, 1) := by decide +kernel
theorem dX8_reason_10 : decode cX8_reason 10 = .ok (.istore_n 2, 1) := by decide +kernel
theorem dX8_reason_11 : decode cX8_reason 11 = .ok (.aload_n 0, 1) := by decide +kernel
theorem dX8_reason_12 : decode cX8_reason 12 = .ok (.getfield 7, 3) := by decide +kernel
theorem dX8_reason_15 : decode cX8_reason 15 = .ok (.iload_n 1, 1) := by decide +kernel
theorem dX8_reason_16 : decode cX8_reason 16 = .ok (.iconst 3, 1) := by decide +kernel
theorem dX8_reason_17 : decode cX8_reason 17 = .ok (.invokestatic 33, 3) := by decide +kernel
theorem dX8_reason_20 : decode cX8_reason 20 = .ok (.iaload, 1) := by decide +kernel
theorem dX8_reason_21 : decode cX8_reason 21 = .ok (.istore_n 3, 1) := by decide +kernel
theorem dX8_reason_22 : decode cX8_reason 22 = .ok (.iload_n 2, 1) := by decide +kernel
theorem dX8_reason_23 : decode cX8_reason 23 = .ok (.iconst 4, 1) := by decide +kernel
theorem dX8_reason_24 : decode cX8_reason 24 = .ok (.if_icmp .eq 8, 3) := by decide +kernel
theorem dX8_reason_27 : decode cX8_reason 27 = .ok (.iload_n 2, 1) := by decide +kernel
theorem dX8_reason_28 : decode cX8_reason 28 = .ok (.iconst 2, 1) := by decide +kernel
theorem dX8_reason_29 : decode cX8_reason 29 = .ok (.if_icmp .ne 14, 3) := by decide +kernel
theorem dX8_reason_32 : decode cX8_reason 32 = .ok (.iload_n 2, 1) := by decide +kernel
theorem dX8_reason_33 : decode cX8_reason 33 = .ok (.iconst 4, 1) := by decide +kernel
theorem dX8_reason_34 : decode cX8_reason 34 = .ok (.if_icmp .ne 7, 3) := by decide +kernel
theorem dX8_reason_37 : decode cX8_reason 37 = .ok (.iconst 2, 1) := by decide +kernel
theorem dX8_reason_38 : decode cX8_reason 38 = .ok (.goto 4, 3) := by decide +kernel
theorem dX8_reason_41 : decode cX8_reason 41 = .ok (.iconst 3, 1) := by decide +kernel
theorem dX8_reason_42 : decode cX8_reason 42 = .ok (.ireturn, 1) := by decide +kernel
theorem dX8_reason_43 : decode cX8_reason 43 = .ok (.iload_n 2, 1) := by decide +kernel
theorem dX8_reason_44 : decode cX8_reason 44 = .ok (.iconst 1, 1) := by decide +kernel
theorem dX8_reason_45 : decode cX8_reason 45 = .ok (.if_icmp .eq 5, 3) := by decide +kernel
theorem dX8_reason_48 : decode cX8_reason 48 = .ok (.iconst 1, 1) := by decide +kernel
theorem dX8_reason_49 : decode cX8_reason 49 = .ok (.ireturn, 1) := by decide +kernel
theorem dX8_reason_50 : decode cX8_reason 50 = .ok (.iload_n 3, 1) := by decide +kernel
theorem dX8_reason_51 : decode cX8_reason 51 = .ok (.ifCond .le 26, 3) := by decide +kernel
theorem dX8_reason_54 : decode cX8_reason 54 = .ok (.aload_n 0, 1) := by decide +kernel
theorem dX8_reason_55 : decode cX8_reason 55 = .ok (.iload_n 1, 1) := by decide +kernel
theorem dX8_reason_56 : decode cX8_reason 56 = .ok (.invokevirtual 137, 3) := by decide +kernel
theorem dX8_reason_59 : decode cX8_reason 59 = .ok (.aload_n 0, 1) := by decide +kernel
theorem dX8_reason_60 : decode cX8_reason 60 = .ok (.getfield 7, 3) := by decide +kernel
theorem dX8_reason_63 : decode cX8_reason 63 = .ok (.iload_n 1, 1) := by decide +kernel
theorem dX8_reason_64 : decode cX8_reason 64 = .ok (.iload_n 3, 1) := by decide +kernel
theorem dX8_reason_65 : decode cX8_reason 65 = .ok (.iconst 1, 1) := by decide +kernel
theorem dX8_reason_66 : decode cX8_reason 66 = .ok (.isub, 1) := by decide +kernel
theorem dX8_reason_67 : decode cX8_reason 67 = .ok (.iconst 1, 1) := by decide +kernel
theorem dX8_reason_68 : decode cX8_reason 68 = .ok (.invokestatic 44, 3) := by decide +kernel
theorem dX8_reason_71 : decode cX8_reason 71 = .ok (.iaload, 1) := by decide +kernel
theorem dX8_reason_72 : decode cX8_reason 72 = .ok (.if_icmp .ge 5, 3) := by decide +kernel
theorem dX8_reason_75 : decode cX8_reason 75 = .ok (.iconst 4, 1) := by decide +kernel
theorem dX8_reason_76 : decode cX8_reason 76 = .ok (.ireturn, 1) := by decide +kernel
theorem dX8_reason_77 : decode cX8_reason 77 = .ok (.iload_n 3, 1) := by decide +kernel
theorem dX8_reason_78 : decode cX8_reason 78 = .ok (.ifCond .le 13, 3) := by decide +kernel
theorem dX8_reason_81 : decode cX8_reason 81 = .ok (.aload_n 0, 1) := by decide +kernel
theorem dX8_reason_82 : decode cX8_reason 82 = .ok (.iload_n 1, 1) := by decide +kernel
theorem dX8_reason_83 : decode cX8_reason 83 = .ok (.invokevirtual 140, 3) := by decide +kernel
theorem dX8_reason_86 : decode cX8_reason 86 = .ok (.ifCond .eq 5, 3) := by decide +kernel
theorem dX8_reason_89 : decode cX8_reason 89 = .ok (.iconst 5, 1) := by decide +kernel
theorem dX8_reason_90 : decode cX8_reason 90 = .ok (.ireturn, 1) := by decide +kernel
theorem dX8_reason_91 : decode cX8_reason 91 = .ok (.iload_n 3, 1) := by decide +kernel
theorem dX8_reason_92 : decode cX8_reason 92 = .ok (.aload_n 0, 1) := by decide +kernel
theorem dX8_reason_93 : decode cX8_reason 93 = .ok (.getfield 7, 3) := by decide +kernel
theorem dX8_reason_96 : decode cX8_reason 96 = .ok (.iload_n 1, 1) := by decide +kernel
theorem dX8_reason_97 : decode cX8_reason 97 = .ok (.iconst 2, 1) := by decide +kernel
theorem dX8_reason_98 : decode cX8_reason 98 = .ok (.invokestatic 33, 3) := by decide +kernel
theorem dX8_reason_101 : decode cX8_reason 101 = .ok (.iaload, 1) := by decide +kernel
theorem dX8_reason_102 : decode cX8_reason 102 = .ok (.if_icmp .ge 23, 3) := by decide +kernel
theorem dX8_reason_105 : decode cX8_reason 105 = .ok (.aload_n 0, 1) := by decide +kernel
theorem dX8_reason_106 : decode cX8_reason 106 = .ok (.aload_n 0, 1) := by decide +kernel
theorem dX8_reason_107 : decode cX8_reason 107 = .ok (.getfield 7, 3) := by decide +kernel
theorem dX8_reason_110 : decode cX8_reason 110 = .ok (.iconst 1, 1) := by decide +kernel
theorem dX8_reason_111 : decode cX8_reason 111 = .ok (.iaload, 1) := by decide +kernel
theorem dX8_reason_112 : decode cX8_reason 112 = .ok (.sipush 168, 3) := by decide +kernel
theorem dX8_reason_115 : decode cX8_reason 115 = .ok (.irem, 1) := by decide +kernel
theorem dX8_reason_116 : decode cX8_reason 116 = .ok (.invokevirtual 143, 3) := by decide +kernel
theorem dX8_reason_119 : decode cX8_reason 119 = .ok (.ifCond .eq 6, 3) := by decide +kernel
theorem dX8_reason_122 : decode cX8_reason 122 = .ok (.bipush 6, 2) := by decide +kernel
theorem dX8_reason_124 : decode cX8_reason 124 = .ok (.ireturn, 1) := by decide +kernel
theorem dX8_reason_125 : decode cX8_reason 125 = .ok (.iload_n 3, 1) := by decide +kernel
theorem dX8_reason_126 : decode cX8_reason 126 = .ok (.ifCond .ne 23, 3) := by decide +kernel
theorem dX8_reason_129 : decode cX8_reason 129 = .ok (.aload_n 0, 1) := by decide +kernel
theorem dX8_reason_130 : decode cX8_reason 130 = .ok (.aload_n 0, 1) := by decide +kernel
theorem dX8_reason_131 : decode cX8_reason 131 = .ok (.getfield 7, 3) := by decide +kernel
theorem dX8_reason_134 : decode cX8_reason 134 = .ok (.iload_n 1, 1) := by decide +kernel
theorem dX8_reason_135 : decode cX8_reason 135 = .ok (.iconst 4, 1) := by decide +kernel
theorem dX8_reason_136 : decode cX8_reason 136 = .ok (.invokestatic 33, 3) := by decide +kernel
theorem dX8_reason_139 : decode cX8_reason 139 = .ok (.iaload, 1) := by decide +kernel
theorem dX8_reason_140 : decode cX8_reason 140 = .ok (.invokevirtual 146, 3) := by decide +kernel
theorem dX8_reason_143 : decode cX8_reason 143 = .ok (.ifCond .ne 6, 3) := by decide +kernel
theorem dX8_reason_146 : decode cX8_reason 146 = .ok (.bipush 7, 2) := by decide +kernel
theorem dX8_reason_148 : decode cX8_reason 148 = .ok (.ireturn, 1) := by decide +kernel
theorem dX8_reason_149 : decode cX8_reason 149 = .ok (.iload_n 3, 1) := by decide +kernel
theorem dX8_reason_150 : decode cX8_reason 150 = .ok (.ifCond .ne 16, 3) := by decide +kernel
theorem dX8_reason_153 : decode cX8_reason 153 = .ok (.aload_n 0, 1) := by decide +kernel
theorem dX8_reason_154 : decode cX8_reason 154 = .ok (.iload_n 1, 1) := by decide +kernel
theorem dX8_reason_155 : decode cX8_reason 155 = .ok (.invokevirtual 149, 3) := by decide +kernel
theorem dX8_reason_158 : decode cX8_reason 158 = .ok (.ifCond .eq 8, 3) := by decide +kernel
theorem dX8_reason_161 : decode cX8_reason 161 = .ok (.bipush 8, 2) := by decide +kernel
theorem dX8_reason_163 : decode cX8_reason 163 = .ok (.goto 4, 3) := by decide +kernel
theorem dX8_reason_166 : decode cX8_reason 166 = .ok (.iconst 0, 1) := by decide +kernel
theorem dX8_reason_167 : decode cX8_reason 167 = .ok (.ireturn, 1) := by decide +kernel
theorem dX8_turnsOn_0 : decode cX8_turnsOn 0 = .ok (.aload_n 0, 1) := by decide +kernel
theorem dX8_turnsOn_1 : decode cX8_turnsOn 1 = .ok (.getfield 7, 3) := by decide +kernel
theorem dX8_turnsOn_4 : decode cX8_turnsOn 4 = .ok (.iload_n 1, 1) := by decide +kernel
theorem dX8_turnsOn_5 : decode cX8_turnsOn 5 = .ok (.iconst 3, 1) := by decide +kernel
theorem dX8_turnsOn_6 : decode cX8_turnsOn 6 = .ok (.invokestatic 33, 3) := by decide +kernel
theorem dX8_turnsOn_9 : decode cX8_turnsOn 9 = .ok (.iaload, 1) := by decide +kernel
theorem dX8_turnsOn_10 : decode cX8_turnsOn 10 = .ok (.ifCond .le 33, 3) := by decide +kernel
theorem dX8_turnsOn_13 : decode cX8_turnsOn 13 = .ok (.aload_n 0, 1) := by decide +kernel
theorem dX8_turnsOn_14 : decode cX8_turnsOn 14 = .ok (.getfield 7, 3) := by decide +kernel
theorem dX8_turnsOn_17 : decode cX8_turnsOn 17 = .ok (.iload_n 1, 1) := by decide +kernel
theorem dX8_turnsOn_18 : decode cX8_turnsOn 18 = .ok (.iconst 3, 1) := by decide +kernel
theorem dX8_turnsOn_19 : decode cX8_turnsOn 19 = .ok (.invokestatic 33, 3) := by decide +kernel
theorem dX8_turnsOn_22 : decode cX8_turnsOn 22 = .ok (.dup2, 1) := by decide +kernel
theorem dX8_turnsOn_23 : decode cX8_turnsOn 23 = .ok (.iaload, 1) := by decide +kernel
theorem dX8_turnsOn_24 : decode cX8_turnsOn 24 = .ok (.iconst 1, 1) := by decide +kernel
theorem dX8_turnsOn_25 : decode cX8_turnsOn 25 = .ok (.isub, 1) := by decide +kernel
theorem dX8_turnsOn_26 : decode cX8_turnsOn 26 = .ok (.iastore, 1) := by decide +kernel
theorem dX8_turnsOn_27 : decode cX8_turnsOn 27 = .ok (.aload_n 0, 1) := by decide +kernel
theorem dX8_turnsOn_28 : decode cX8_turnsOn 28 = .ok (.iload_n 1, 1) := by decide +kernel
theorem dX8_turnsOn_29 : decode cX8_turnsOn 29 = .ok (.iconst 4, 1) := by decide +kernel
theorem dX8_turnsOn_30 : decode cX8_turnsOn 30 = .ok (.aload_n 0, 1) := by decide +kernel
theorem dX8_turnsOn_31 : decode cX8_turnsOn 31 = .ok (.getfield 7, 3) := by decide +kernel
theorem dX8_turnsOn_34 : decode cX8_turnsOn 34 = .ok (.iload_n 1, 1) := by decide +kernel
theorem dX8_turnsOn_35 : decode cX8_turnsOn 35 = .ok (.iconst 3, 1) := by decide +kernel
theorem dX8_turnsOn_36 : decode cX8_turnsOn 36 = .ok (.invokestatic 33, 3) := by decide +kernel
theorem dX8_turnsOn_39 : decode cX8_turnsOn 39 = .ok (.iaload, 1) := by decide +kernel
theorem dX8_turnsOn_40 : decode cX8_turnsOn 40 = .ok (.invokevirtual 104, 3) := by decide +kernel
theorem dX8_turnsOn_43 : decode cX8_turnsOn 43 = .ok (.aload_n 0, 1) := by decide +kernel
theorem dX8_turnsOn_44 : decode cX8_turnsOn 44 = .ok (.getfield 7, 3) := by decide +kernel
theorem dX8_turnsOn_47 : decode cX8_turnsOn 47 = .ok (.iload_n 1, 1) := by decide +kernel
theorem dX8_turnsOn_48 : decode cX8_turnsOn 48 = .ok (.iconst 3, 1) := by decide +kernel
theorem dX8_turnsOn_49 : decode cX8_turnsOn 49 = .ok (.invokestatic 33, 3) := by decide +kernel
theorem dX8_turnsOn_52 : decode cX8_turnsOn 52 = .ok (.iaload, 1) := by decide +kernel
theorem dX8_turnsOn_53 : decode cX8_turnsOn 53 = .ok (.ifCond .ne 11, 3) := by decide +kernel
theorem dX8_turnsOn_56 : decode cX8_turnsOn 56 = .ok (.aload_n 0, 1) := by decide +kernel
theorem dX8_turnsOn_57 : decode cX8_turnsOn 57 = .ok (.iload_n 1, 1) := by decide +kernel
theorem dX8_turnsOn_58 : decode cX8_turnsOn 58 = .ok (.iconst 5, 1) := by decide +kernel
theorem dX8_turnsOn_59 : decode cX8_turnsOn 59 = .ok (.iconst 5, 1) := by decide +kernel
theorem dX8_turnsOn_60 : decode cX8_turnsOn 60 = .ok (.invokevirtual 108, 3) := by decide +kernel
theorem dX8_turnsOn_63 : decode cX8_turnsOn 63 = .ok (.istore_n 2, 1) := by decide +kernel
theorem dX8_turnsOn_64 : decode cX8_turnsOn 64 = .ok (.return_, 1) := by decide +kernel
theorem dX8_goesOn_0 : decode cX8_goesOn 0 = .ok (.aload_n 0, 1) := by decide +kernel
theorem dX8_goesOn_1 : decode cX8_goesOn 1 = .ok (.getfield 7, 3) := by decide +kernel
theorem dX8_goesOn_4 : decode cX8_goesOn 4 = .ok (.iload_n 1, 1) := by decide +kernel
theorem dX8_goesOn_5 : decode cX8_goesOn 5 = .ok (.iconst 3, 1) := by decide +kernel
theorem dX8_goesOn_6 : decode cX8_goesOn 6 = .ok (.invokestatic 33, 3) := by decide +kernel
theorem dX8_goesOn_9 : decode cX8_goesOn 9 = .ok (.iaload, 1) := by decide +kernel
theorem dX8_goesOn_10 : decode cX8_goesOn 10 = .ok (.istore_n 2, 1) := by decide +kernel
theorem dX8_goesOn_11 : decode cX8_goesOn 11 = .ok (.iload_n 2, 1) := by decide +kernel
theorem dX8_goesOn_12 : decode cX8_goesOn 12 = .ok (.aload_n 0, 1) := by decide +kernel
theorem dX8_goesOn_13 : decode cX8_goesOn 13 = .ok (.getfield 7, 3) := by decide +kernel
theorem dX8_goesOn_16 : decode cX8_goesOn 16 = .ok (.iload_n 1, 1) := by decide +kernel
theorem dX8_goesOn_17 : decode cX8_goesOn 17 = .ok (.iconst 2, 1) := by decide +kernel
theorem dX8_goesOn_18 : decode cX8_goesOn 18 = .ok (.invokestatic 33, 3) := by decide +kernel
theorem dX8_goesOn_21 : decode cX8_goesOn 21 = .ok (.iaload, 1) := by decide +kernel
theorem dX8_goesOn_22 : decode cX8_goesOn 22 = .ok (.if_icmp .ne 12, 3) := by decide +kernel
theorem dX8_goesOn_25 : decode cX8_goesOn 25 = .ok (.aload_n 0, 1) := by decide +kernel
theorem dX8_goesOn_26 : decode cX8_goesOn 26 = .ok (.iload_n 1, 1) := by decide +kernel
theorem dX8_goesOn_27 : decode cX8_goesOn 27 = .ok (.iconst 3, 1) := by decide +kernel
theorem dX8_goesOn_28 : decode cX8_goesOn 28 = .ok (.iconst 2, 1) := by decide +kernel
theorem dX8_goesOn_29 : decode cX8_goesOn 29 = .ok (.invokevirtual 108, 3) := by decide +kernel
theorem dX8_goesOn_32 : decode cX8_goesOn 32 = .ok (.istore_n 3, 1) := by decide +kernel
theorem dX8_goesOn_33 : decode cX8_goesOn 33 = .ok (.return_, 1) := by decide +kernel
theorem dX8_goesOn_34 : decode cX8_goesOn 34 = .ok (.aload_n 0, 1) := by decide +kernel
theorem dX8_goesOn_35 : decode cX8_goesOn 35 = .ok (.getfield 7, 3) := by decide +kernel
theorem dX8_goesOn_38 : decode cX8_goesOn 38 = .ok (.iload_n 1, 1) := by decide +kernel
theorem dX8_goesOn_39 : decode cX8_goesOn 39 = .ok (.iload_n 2, 1) := by decide +kernel
theorem dX8_goesOn_40 : decode cX8_goesOn 40 = .ok (.iconst 3, 1) := by decide +kernel
theorem dX8_goesOn_41 : decode cX8_goesOn 41 = .ok (.invokestatic 44, 3) := by decide +kernel
theorem dX8_goesOn_44 : decode cX8_goesOn 44 = .ok (.aload_n 0, 1) := by decide +kernel
theorem dX8_goesOn_45 : decode cX8_goesOn 45 = .ok (.getfield 7, 3) := by decide +kernel
theorem dX8_goesOn_48 : decode cX8_goesOn 48 = .ok (.iconst 1, 1) := by decide +kernel
theorem dX8_goesOn_49 : decode cX8_goesOn 49 = .ok (.iaload, 1) := by decide +kernel
theorem dX8_goesOn_50 : decode cX8_goesOn 50 = .ok (.iastore, 1) := by decide +kernel
theorem dX8_goesOn_51 : decode cX8_goesOn 51 = .ok (.aload_n 0, 1) := by decide +kernel
theorem dX8_goesOn_52 : decode cX8_goesOn 52 = .ok (.getfield 7, 3) := by decide +kernel
theorem dX8_goesOn_55 : decode cX8_goesOn 55 = .ok (.iload_n 1, 1) := by decide +kernel
theorem dX8_goesOn_56 : decode cX8_goesOn 56 = .ok (.iconst 3, 1) := by decide +kernel
theorem dX8_goesOn_57 : decode cX8_goesOn 57 = .ok (.invokestatic 33, 3) := by decide +kernel
theorem dX8_goesOn_60 : decode cX8_goesOn 60 = .ok (.dup2, 1) := by decide +kernel
theorem dX8_goesOn_61 : decode cX8_goesOn 61 = .ok (.iaload, 1) := by decide +kernel
theorem dX8_goesOn_62 : decode cX8_goesOn 62 = .ok (.iconst 1, 1) := by decide +kernel
theorem dX8_goesOn_63 : decode cX8_goesOn 63 = .ok (.iadd, 1) := by decide +kernel
theorem dX8_goesOn_64 : decode cX8_goesOn 64 = .ok (.iastore, 1) := by decide +kernel
theorem dX8_goesOn_65 : decode cX8_goesOn 65 = .ok (.iconst 0, 1) := by decide +kernel
theorem dX8_goesOn_66 : decode cX8_goesOn 66 = .ok (.istore_n 3, 1) := by decide +kernel
theorem dX8_goesOn_67 : decode cX8_goesOn 67 = .ok (.iload_n 3, 1) := by decide +kernel
theorem dX8_goesOn_68 : decode cX8_goesOn 68 = .ok (.iconst 4, 1) := by decide +kernel
theorem dX8_goesOn_69 : decode cX8_goesOn 69 = .ok (.if_icmp .ge 22, 3) := by decide +kernel
theorem dX8_goesOn_72 : decode cX8_goesOn 72 = .ok (.aload_n 0, 1) := by decide +kernel
theorem dX8_goesOn_73 : decode cX8_goesOn 73 = .ok (.getfield 7, 3) := by decide +kernel
theorem dX8_goesOn_76 : decode cX8_goesOn 76 = .ok (.iload_n 1, 1) := by decide +kernel
theorem dX8_goesOn_77 : decode cX8_goesOn 77 = .ok (.iconst 5, 1) := by decide +kernel
theorem dX8_goesOn_78 : decode cX8_goesOn 78 = .ok (.iload_n 3, 1) := by decide +kernel
theorem dX8_goesOn_79 : decode cX8_goesOn 79 = .ok (.iadd, 1) := by decide +kernel
theorem dX8_goesOn_80 : decode cX8_goesOn 80 = .ok (.invokestatic 33, 3) := by decide +kernel
theorem dX8_goesOn_83 : decode cX8_goesOn 83 = .ok (.iconst 0, 1) := by decide +kernel
theorem dX8_goesOn_84 : decode cX8_goesOn 84 = .ok (.iastore, 1) := by decide +kernel
theorem dX8_goesOn_85 : decode cX8_goesOn 85 = .ok (.iinc 3 1, 3) := by decide +kernel
theorem dX8_goesOn_88 : decode cX8_goesOn 88 = .ok (.goto (-21), 3) := by decide +kernel
theorem dX8_goesOn_91 : decode cX8_goesOn 91 = .ok (.aload_n 0, 1) := by decide +kernel
theorem dX8_goesOn_92 : decode cX8_goesOn 92 = .ok (.iload_n 1, 1) := by decide +kernel
theorem dX8_goesOn_93 : decode cX8_goesOn 93 = .ok (.iconst 1, 1) := by decide +kernel
theorem dX8_goesOn_94 : decode cX8_goesOn 94 = .ok (.iload_n 2, 1) := by decide +kernel
theorem dX8_goesOn_95 : decode cX8_goesOn 95 = .ok (.invokevirtual 104, 3) := by decide +kernel
theorem dX8_goesOn_98 : decode cX8_goesOn 98 = .ok (.return_, 1) := by decide +kernel
theorem dX8_passes_0 : decode cX8_passes 0 = .ok (.iconst 0, 1) := by decide +kernel
theorem dX8_passes_1 : decode cX8_passes 1 = .ok (.istore_n 1, 1) := by decide +kernel
theorem dX8_passes_2 : decode cX8_passes 2 = .ok (.iload_n 1, 1) := by decide +kernel
theorem dX8_passes_3 : decode cX8_passes 3 = .ok (.aload_n 0, 1) := by decide +kernel
theorem dX8_passes_4 : decode cX8_passes 4 = .ok (.getfield 7, 3) := by decide +kernel
theorem dX8_passes_7 : decode cX8_passes 7 = .ok (.bipush 10, 2) := by decide +kernel
theorem dX8_passes_9 : decode cX8_passes 9 = .ok (.iaload, 1) := by decide +kernel
theorem dX8_passes_10 : decode cX8_passes 10 = .ok (.if_icmp .ge 85, 3) := by decide +kernel
theorem dX8_passes_13 : decode cX8_passes 13 = .ok (.aload_n 0, 1) := by decide +kernel
theorem dX8_passes_14 : decode cX8_passes 14 = .ok (.iload_n 1, 1) := by decide +kernel
theorem dX8_passes_15 : decode cX8_passes 15 = .ok (.invokevirtual 114, 3) := by decide +kernel
theorem dX8_passes_18 : decode cX8_passes 18 = .ok (.ifCond .eq 22, 3) := by decide +kernel
theorem dX8_passes_21 : decode cX8_passes 21 = .ok (.aload_n 0, 1) := by decide +kernel
theorem dX8_passes_22 : decode cX8_passes 22 = .ok (.iload_n 1, 1) := by decide +kernel
theorem dX8_passes_23 : decode cX8_passes 23 = .ok (.invokevirtual 152, 3) := by decide +kernel
theorem dX8_passes_26 : decode cX8_passes 26 = .ok (.ifCond .eq 14, 3) := by decide +kernel
theorem dX8_passes_29 : decode cX8_passes 29 = .ok (.aload_n 0, 1) := by decide +kernel
theorem dX8_passes_30 : decode cX8_passes 30 = .ok (.iload_n 1, 1) := by decide +kernel
theorem dX8_passes_31 : decode cX8_passes 31 = .ok (.iconst 4, 1) := by decide +kernel
theorem dX8_passes_32 : decode cX8_passes 32 = .ok (.iconst 3, 1) := by decide +kernel
theorem dX8_passes_33 : decode cX8_passes 33 = .ok (.invokevirtual 108, 3) := by decide +kernel
theorem dX8_passes_36 : decode cX8_passes 36 = .ok (.istore_n 2, 1) := by decide +kernel
theorem dX8_passes_37 : decode cX8_passes 37 = .ok (.goto 52, 3) := by decide +kernel
theorem dX8_passes_40 : decode cX8_passes 40 = .ok (.aload_n 0, 1) := by decide +kernel
theorem dX8_passes_41 : decode cX8_passes 41 = .ok (.getfield 7, 3) := by decide +kernel
theorem dX8_passes_44 : decode cX8_passes 44 = .ok (.iload_n 1, 1) := by decide +kernel
theorem dX8_passes_45 : decode cX8_passes 45 = .ok (.iconst 1, 1) := by decide +kernel
theorem dX8_passes_46 : decode cX8_passes 46 = .ok (.invokestatic 33, 3) := by decide +kernel
theorem dX8_passes_49 : decode cX8_passes 49 = .ok (.iaload, 1) := by decide +kernel
theorem dX8_passes_50 : decode cX8_passes 50 = .ok (.iconst 4, 1) := by decide +kernel
theorem dX8_passes_51 : decode cX8_passes 51 = .ok (.if_icmp .ne 11, 3) := by decide +kernel
theorem dX8_passes_54 : decode cX8_passes 54 = .ok (.aload_n 0, 1) := by decide +kernel
theorem dX8_passes_55 : decode cX8_passes 55 = .ok (.iload_n 1, 1) := by decide +kernel
theorem dX8_passes_56 : decode cX8_passes 56 = .ok (.invokevirtual 155, 3) := by decide +kernel
theorem dX8_passes_59 : decode cX8_passes 59 = .ok (.goto 30, 3) := by decide +kernel
theorem dX8_passes_62 : decode cX8_passes 62 = .ok (.aload_n 0, 1) := by decide +kernel
theorem dX8_passes_63 : decode cX8_passes 63 = .ok (.getfield 7, 3) := by decide +kernel
theorem dX8_passes_66 : decode cX8_passes 66 = .ok (.iload_n 1, 1) := by decide +kernel
theorem dX8_passes_67 : decode cX8_passes 67 = .ok (.iconst 1, 1) := by decide +kernel
theorem dX8_passes_68 : decode cX8_passes 68 = .ok (.invokestatic 33, 3) := by decide +kernel
theorem dX8_passes_71 : decode cX8_passes 71 = .ok (.iaload, 1) := by decide +kernel
theorem dX8_passes_72 : decode cX8_passes 72 = .ok (.iconst 1, 1) := by decide +kernel
theorem dX8_passes_73 : decode cX8_passes 73 = .ok (.if_icmp .ne 16, 3) := by decide +kernel
theorem dX8_passes_76 : decode cX8_passes 76 = .ok (.aload_n 0, 1) := by decide +kernel
theorem dX8_passes_77 : decode cX8_passes 77 = .ok (.iload_n 1, 1) := by decide +kernel
theorem dX8_passes_78 : decode cX8_passes 78 = .ok (.invokevirtual 158, 3) := by decide +kernel
theorem dX8_passes_81 : decode cX8_passes 81 = .ok (.ifCond .ne 8, 3) := by decide +kernel
theorem dX8_passes_84 : decode cX8_passes 84 = .ok (.aload_n 0, 1) := by decide +kernel
theorem dX8_passes_85 : decode cX8_passes 85 = .ok (.iload_n 1, 1) := by decide +kernel
theorem dX8_passes_86 : decode cX8_passes 86 = .ok (.invokevirtual 161, 3) := by decide +kernel
theorem dX8_passes_89 : decode cX8_passes 89 = .ok (.iinc 1 1, 3) := by decide +kernel
theorem dX8_passes_92 : decode cX8_passes 92 = .ok (.goto (-90), 3) := by decide +kernel
theorem dX8_passes_95 : decode cX8_passes 95 = .ok (.aload_n 0, 1) := by decide +kernel
theorem dX8_passes_96 : decode cX8_passes 96 = .ok (.getfield 7, 3) := by decide +kernel
theorem dX8_passes_99 : decode cX8_passes 99 = .ok (.iconst 1, 1) := by decide +kernel
theorem dX8_passes_100 : decode cX8_passes 100 = .ok (.dup2, 1) := by decide +kernel
theorem dX8_passes_101 : decode cX8_passes 101 = .ok (.iaload, 1) := by decide +kernel
theorem dX8_passes_102 : decode cX8_passes 102 = .ok (.iconst 1, 1) := by decide +kernel
theorem dX8_passes_103 : decode cX8_passes 103 = .ok (.iadd, 1) := by decide +kernel
theorem dX8_passes_104 : decode cX8_passes 104 = .ok (.iastore, 1) := by decide +kernel
theorem dX8_passes_105 : decode cX8_passes 105 = .ok (.return_, 1) := by decide +kernel
theorem dX8_pass_0 : decode cX8_pass 0 = .ok (.iload_n 1, 1) := by decide +kernel
theorem dX8_pass_1 : decode cX8_pass 1 = .ok (.iconst 1, 1) := by decide +kernel
theorem dX8_pass_2 : decode cX8_pass 2 = .ok (.bipush 100, 2) := by decide +kernel
theorem dX8_pass_4 : decode cX8_pass 4 = .ok (.invokestatic 37, 3) := by decide +kernel
theorem dX8_pass_7 : decode cX8_pass 7 = .ok (.ifCond .ne 6, 3) := by decide +kernel
theorem dX8_pass_10 : decode cX8_pass 10 = .ok (.bipush (-12), 2) := by decide +kernel
theorem dX8_pass_12 : decode cX8_pass 12 = .ok (.ireturn, 1) := by decide +kernel
theorem dX8_pass_13 : decode cX8_pass 13 = .ok (.aload_n 0, 1) := by decide +kernel
theorem dX8_pass_14 : decode cX8_pass 14 = .ok (.iconst 0, 1) := by decide +kernel
theorem dX8_pass_15 : decode cX8_pass 15 = .ok (.putfield 101, 3) := by decide +kernel
theorem dX8_pass_18 : decode cX8_pass 18 = .ok (.iconst 0, 1) := by decide +kernel
theorem dX8_pass_19 : decode cX8_pass 19 = .ok (.istore_n 2, 1) := by decide +kernel
theorem dX8_pass_20 : decode cX8_pass 20 = .ok (.iload_n 2, 1) := by decide +kernel
theorem dX8_pass_21 : decode cX8_pass 21 = .ok (.iload_n 1, 1) := by decide +kernel
theorem dX8_pass_22 : decode cX8_pass 22 = .ok (.if_icmp .ge 13, 3) := by decide +kernel
theorem dX8_pass_25 : decode cX8_pass 25 = .ok (.aload_n 0, 1) := by decide +kernel
theorem dX8_pass_26 : decode cX8_pass 26 = .ok (.invokevirtual 164, 3) := by decide +kernel
theorem dX8_pass_29 : decode cX8_pass 29 = .ok (.iinc 2 1, 3) := by decide +kernel
theorem dX8_pass_32 : decode cX8_pass 32 = .ok (.goto (-12), 3) := by decide +kernel
theorem dX8_pass_35 : decode cX8_pass 35 = .ok (.aload_n 0, 1) := by decide +kernel
theorem dX8_pass_36 : decode cX8_pass 36 = .ok (.getfield 101, 3) := by decide +kernel
theorem dX8_pass_39 : decode cX8_pass 39 = .ok (.ireturn, 1) := by decide +kernel
theorem dX8_time_0 : decode cX8_time 0 = .ok (.aload_n 0, 1) := by decide +kernel
theorem dX8_time_1 : decode cX8_time 1 = .ok (.getfield 7, 3) := by decide +kernel
theorem dX8_time_4 : decode cX8_time 4 = .ok (.iconst 1, 1) := by decide +kernel
theorem dX8_time_5 : decode cX8_time 5 = .ok (.iaload, 1) := by decide +kernel
theorem dX8_time_6 : decode cX8_time 6 = .ok (.ireturn, 1) := by decide +kernel
theorem dX8_tells_0 : decode cX8_tells 0 = .ok (.iload_n 2, 1) := by decide +kernel
theorem dX8_tells_1 : decode cX8_tells 1 = .ok (.tableswitch 95 0 5 #[39, 50, 61, 72, 78, 84], 39) := by decide +kernel
theorem dX8_tells_40 : decode cX8_tells 40 = .ok (.aload_n 0, 1) := by decide +kernel
theorem dX8_tells_41 : decode cX8_tells 41 = .ok (.getfield 7, 3) := by decide +kernel
theorem dX8_tells_44 : decode cX8_tells 44 = .ok (.iload_n 1, 1) := by decide +kernel
theorem dX8_tells_45 : decode cX8_tells 45 = .ok (.iconst 1, 1) := by decide +kernel
theorem dX8_tells_46 : decode cX8_tells 46 = .ok (.invokestatic 33, 3) := by decide +kernel
theorem dX8_tells_49 : decode cX8_tells 49 = .ok (.iaload, 1) := by decide +kernel
theorem dX8_tells_50 : decode cX8_tells 50 = .ok (.ireturn, 1) := by decide +kernel
theorem dX8_tells_51 : decode cX8_tells 51 = .ok (.aload_n 0, 1) := by decide +kernel
theorem dX8_tells_52 : decode cX8_tells 52 = .ok (.getfield 7, 3) := by decide +kernel
theorem dX8_tells_55 : decode cX8_tells 55 = .ok (.iload_n 1, 1) := by decide +kernel
theorem dX8_tells_56 : decode cX8_tells 56 = .ok (.iconst 2, 1) := by decide +kernel
theorem dX8_tells_57 : decode cX8_tells 57 = .ok (.invokestatic 33, 3) := by decide +kernel
theorem dX8_tells_60 : decode cX8_tells 60 = .ok (.iaload, 1) := by decide +kernel
theorem dX8_tells_61 : decode cX8_tells 61 = .ok (.ireturn, 1) := by decide +kernel
theorem dX8_tells_62 : decode cX8_tells 62 = .ok (.aload_n 0, 1) := by decide +kernel
theorem dX8_tells_63 : decode cX8_tells 63 = .ok (.getfield 7, 3) := by decide +kernel
theorem dX8_tells_66 : decode cX8_tells 66 = .ok (.iload_n 1, 1) := by decide +kernel
theorem dX8_tells_67 : decode cX8_tells 67 = .ok (.iconst 3, 1) := by decide +kernel
theorem dX8_tells_68 : decode cX8_tells 68 = .ok (.invokestatic 33, 3) := by decide +kernel
theorem dX8_tells_71 : decode cX8_tells 71 = .ok (.iaload, 1) := by decide +kernel
theorem dX8_tells_72 : decode cX8_tells 72 = .ok (.ireturn, 1) := by decide +kernel
theorem dX8_tells_73 : decode cX8_tells 73 = .ok (.aload_n 0, 1) := by decide +kernel
theorem dX8_tells_74 : decode cX8_tells 74 = .ok (.iload_n 1, 1) := by decide +kernel
theorem dX8_tells_75 : decode cX8_tells 75 = .ok (.invokevirtual 137, 3) := by decide +kernel
theorem dX8_tells_78 : decode cX8_tells 78 = .ok (.ireturn, 1) := by decide +kernel
theorem dX8_tells_79 : decode cX8_tells 79 = .ok (.aload_n 0, 1) := by decide +kernel
theorem dX8_tells_80 : decode cX8_tells 80 = .ok (.iload_n 1, 1) := by decide +kernel
theorem dX8_tells_81 : decode cX8_tells 81 = .ok (.invokevirtual 158, 3) := by decide +kernel
theorem dX8_tells_84 : decode cX8_tells 84 = .ok (.ireturn, 1) := by decide +kernel
theorem dX8_tells_85 : decode cX8_tells 85 = .ok (.aload_n 0, 1) := by decide +kernel
theorem dX8_tells_86 : decode cX8_tells 86 = .ok (.getfield 7, 3) := by decide +kernel
theorem dX8_tells_89 : decode cX8_tells 89 = .ok (.iload_n 1, 1) := by decide +kernel
theorem dX8_tells_90 : decode cX8_tells 90 = .ok (.iconst 4, 1) := by decide +kernel
theorem dX8_tells_91 : decode cX8_tells 91 = .ok (.invokestatic 33, 3) := by decide +kernel
theorem dX8_tells_94 : decode cX8_tells 94 = .ok (.iaload, 1) := by decide +kernel
theorem dX8_tells_95 : decode cX8_tells 95 = .ok (.ireturn, 1) := by decide +kernel
theorem dX8_tells_96 : decode cX8_tells 96 = .ok (.aload_n 0, 1) := by decide +kernel
theorem dX8_tells_97 : decode cX8_tells 97 = .ok (.getfield 7, 3) := by decide +kernel
theorem dX8_tells_100 : decode cX8_tells 100 = .ok (.iload_n 1, 1) := by decide +kernel
theorem dX8_tells_101 : decode cX8_tells 101 = .ok (.iconst 0, 1) := by decide +kernel
theorem dX8_tells_102 : decode cX8_tells 102 = .ok (.invokestatic 33, 3) := by decide +kernel
theorem dX8_tells_105 : decode cX8_tells 105 = .ok (.iaload, 1) := by decide +kernel
theorem dX8_tells_106 : decode cX8_tells 106 = .ok (.ireturn, 1) := by decide +kernel
theorem dX8_change_0 : decode cX8_change 0 = .ok (.aload_n 0, 1) := by decide +kernel
theorem dX8_change_1 : decode cX8_change 1 = .ok (.iload_n 1, 1) := by decide +kernel
theorem dX8_change_2 : decode cX8_change 2 = .ok (.invokevirtual 48, 3) := by decide +kernel
theorem dX8_change_5 : decode cX8_change 5 = .ok (.ifCond .ne 6, 3) := by decide +kernel
theorem dX8_change_8 : decode cX8_change 8 = .ok (.bipush (-11), 2) := by decide +kernel
theorem dX8_change_10 : decode cX8_change 10 = .ok (.ireturn, 1) := by decide +kernel
theorem dX8_change_11 : decode cX8_change 11 = .ok (.iload_n 2, 1) := by decide +kernel
theorem dX8_change_12 : decode cX8_change 12 = .ok (.iconst 0, 1) := by decide +kernel
theorem dX8_change_13 : decode cX8_change 13 = .ok (.bipush 6, 2) := by decide +kernel
theorem dX8_change_15 : decode cX8_change 15 = .ok (.invokestatic 37, 3) := by decide +kernel
theorem dX8_change_18 : decode cX8_change 18 = .ok (.ifCond .eq 12, 3) := by decide +kernel
theorem dX8_change_21 : decode cX8_change 21 = .ok (.aload_n 0, 1) := by decide +kernel
theorem dX8_change_22 : decode cX8_change 22 = .ok (.iload_n 1, 1) := by decide +kernel
theorem dX8_change_23 : decode cX8_change 23 = .ok (.iload_n 2, 1) := by decide +kernel
theorem dX8_change_24 : decode cX8_change 24 = .ok (.invokevirtual 167, 3) := by decide +kernel
theorem dX8_change_27 : decode cX8_change 27 = .ok (.goto 5, 3) := by decide +kernel
theorem dX8_change_30 : decode cX8_change 30 = .ok (.bipush (-12), 2) := by decide +kernel
theorem dX8_change_32 : decode cX8_change 32 = .ok (.ireturn, 1) := by decide +kernel
theorem dX8_probes_0 : decode cX8_probes 0 = .ok (.aload_n 0, 1) := by decide +kernel
theorem dX8_probes_1 : decode cX8_probes 1 = .ok (.iload_n 1, 1) := by decide +kernel
theorem dX8_probes_2 : decode cX8_probes 2 = .ok (.invokevirtual 48, 3) := by decide +kernel
theorem dX8_probes_5 : decode cX8_probes 5 = .ok (.ifCond .ne 6, 3) := by decide +kernel
theorem dX8_probes_8 : decode cX8_probes 8 = .ok (.bipush (-11), 2) := by decide +kernel
theorem dX8_probes_10 : decode cX8_probes 10 = .ok (.ireturn, 1) := by decide +kernel
theorem dX8_probes_11 : decode cX8_probes 11 = .ok (.iload_n 2, 1) := by decide +kernel
theorem dX8_probes_12 : decode cX8_probes 12 = .ok (.iconst 0, 1) := by decide +kernel
theorem dX8_probes_13 : decode cX8_probes 13 = .ok (.iconst 3, 1) := by decide +kernel
theorem dX8_probes_14 : decode cX8_probes 14 = .ok (.invokestatic 37, 3) := by decide +kernel
theorem dX8_probes_17 : decode cX8_probes 17 = .ok (.ifCond .eq 18, 3) := by decide +kernel
theorem dX8_probes_20 : decode cX8_probes 20 = .ok (.aload_n 0, 1) := by decide +kernel
theorem dX8_probes_21 : decode cX8_probes 21 = .ok (.getfield 7, 3) := by decide +kernel
theorem dX8_probes_24 : decode cX8_probes 24 = .ok (.iload_n 1, 1) := by decide +kernel
theorem dX8_probes_25 : decode cX8_probes 25 = .ok (.iconst 5, 1) := by decide +kernel
theorem dX8_probes_26 : decode cX8_probes 26 = .ok (.iload_n 2, 1) := by decide +kernel
theorem dX8_probes_27 : decode cX8_probes 27 = .ok (.iadd, 1) := by decide +kernel
theorem dX8_probes_28 : decode cX8_probes 28 = .ok (.invokestatic 33, 3) := by decide +kernel
theorem dX8_probes_31 : decode cX8_probes 31 = .ok (.iaload, 1) := by decide +kernel
theorem dX8_probes_32 : decode cX8_probes 32 = .ok (.goto 5, 3) := by decide +kernel
theorem dX8_probes_35 : decode cX8_probes 35 = .ok (.bipush (-12), 2) := by decide +kernel
theorem dX8_probes_37 : decode cX8_probes 37 = .ok (.ireturn, 1) := by decide +kernel
theorem dX8_chance_0 : decode cX8_chance 0 = .ok (.aload_n 0, 1) := by decide +kernel
theorem dX8_chance_1 : decode cX8_chance 1 = .ok (.iload_n 1, 1) := by decide +kernel
theorem dX8_chance_2 : decode cX8_chance 2 = .ok (.invokevirtual 48, 3) := by decide +kernel
theorem dX8_chance_5 : decode cX8_chance 5 = .ok (.ifCond .ne 7, 3) := by decide +kernel
theorem dX8_chance_8 : decode cX8_chance 8 = .ok (.ldc2_w 170, 3) := by decide +kernel
theorem dX8_chance_11 : decode cX8_chance 11 = .ok (.lreturn, 1) := by decide +kernel
theorem dX8_chance_12 : decode cX8_chance 12 = .ok (.aload_n 0, 1) := by decide +kernel
theorem dX8_chance_13 : decode cX8_chance 13 = .ok (.iload_n 1, 1) := by decide +kernel
theorem dX8_chance_14 : decode cX8_chance 14 = .ok (.invokevirtual 127, 3) := by decide +kernel
theorem dX8_chance_17 : decode cX8_chance 17 = .ok (.iload_n 2, 1) := by decide +kernel
theorem dX8_chance_18 : decode cX8_chance 18 = .ok (.ifCond .eq 10, 3) := by decide +kernel
theorem dX8_chance_21 : decode cX8_chance 21 = .ok (.aload_n 0, 1) := by decide +kernel
theorem dX8_chance_22 : decode cX8_chance 22 = .ok (.getfield 124, 3) := by decide +kernel
theorem dX8_chance_25 : decode cX8_chance 25 = .ok (.goto 7, 3) := by decide +kernel
theorem dX8_chance_28 : decode cX8_chance 28 = .ok (.aload_n 0, 1) := by decide +kernel
theorem dX8_chance_29 : decode cX8_chance 29 = .ok (.getfield 117, 3) := by decide +kernel
theorem dX8_chance_32 : decode cX8_chance 32 = .ok (.aload_n 0, 1) := by decide +kernel
theorem dX8_chance_33 : decode cX8_chance 33 = .ok (.getfield 117, 3) := by decide +kernel
theorem dX8_chance_36 : decode cX8_chance 36 = .ok (.aload_n 0, 1) := by decide +kernel
theorem dX8_chance_37 : decode cX8_chance 37 = .ok (.getfield 124, 3) := by decide +kernel
theorem dX8_chance_40 : decode cX8_chance 40 = .ok (.invokestatic 172, 3) := by decide +kernel
theorem dX8_chance_43 : decode cX8_chance 43 = .ok (.ldiv, 1) := by decide +kernel
theorem dX8_chance_44 : decode cX8_chance 44 = .ok (.lreturn, 1) := by decide +kernel
theorem dX8_having_0 : decode cX8_having 0 = .ok (.iconst 0, 1) := by decide +kernel
theorem dX8_having_1 : decode cX8_having 1 = .ok (.istore_n 2, 1) := by decide +kernel
theorem dX8_having_2 : decode cX8_having 2 = .ok (.iconst 0, 1) := by decide +kernel
theorem dX8_having_3 : decode cX8_having 3 = .ok (.istore_n 3, 1) := by decide +kernel
theorem dX8_having_4 : decode cX8_having 4 = .ok (.iload_n 3, 1) := by decide +kernel
theorem dX8_having_5 : decode cX8_having 5 = .ok (.aload_n 0, 1) := by decide +kernel
theorem dX8_having_6 : decode cX8_having 6 = .ok (.getfield 7, 3) := by decide +kernel
theorem dX8_having_9 : decode cX8_having 9 = .ok (.bipush 10, 2) := by decide +kernel
theorem dX8_having_11 : decode cX8_having 11 = .ok (.iaload, 1) := by decide +kernel
theorem dX8_having_12 : decode cX8_having 12 = .ok (.if_icmp .ge 23, 3) := by decide +kernel
theorem dX8_having_15 : decode cX8_having 15 = .ok (.iload_n 2, 1) := by decide +kernel
theorem dX8_having_16 : decode cX8_having 16 = .ok (.aload_n 0, 1) := by decide +kernel
theorem dX8_having_17 : decode cX8_having 17 = .ok (.iload_n 3, 1) := by decide +kernel
theorem dX8_having_18 : decode cX8_having 18 = .ok (.invokevirtual 111, 3) := by decide +kernel
theorem dX8_having_21 : decode cX8_having 21 = .ok (.iload_n 1, 1) := by decide +kernel
theorem dX8_having_22 : decode cX8_having 22 = .ok (.ishr, 1) := by decide +kernel
theorem dX8_having_23 : decode cX8_having 23 = .ok (.iconst 1, 1) := by decide +kernel
theorem dX8_having_24 : decode cX8_having 24 = .ok (.iand, 1) := by decide +kernel
theorem dX8_having_25 : decode cX8_having 25 = .ok (.iload_n 3, 1) := by decide +kernel
theorem dX8_having_26 : decode cX8_having 26 = .ok (.ishl, 1) := by decide +kernel
theorem dX8_having_27 : decode cX8_having 27 = .ok (.ior, 1) := by decide +kernel
theorem dX8_having_28 : decode cX8_having 28 = .ok (.istore_n 2, 1) := by decide +kernel
theorem dX8_having_29 : decode cX8_having 29 = .ok (.iinc 3 1, 3) := by decide +kernel
theorem dX8_having_32 : decode cX8_having 32 = .ok (.goto (-28), 3) := by decide +kernel
theorem dX8_having_35 : decode cX8_having 35 = .ok (.iload_n 2, 1) := by decide +kernel
theorem dX8_having_36 : decode cX8_having 36 = .ok (.ireturn, 1) := by decide +kernel
theorem dX8_has_0 : decode cX8_has 0 = .ok (.aload_n 0, 1) := by decide +kernel
theorem dX8_has_1 : decode cX8_has 1 = .ok (.iload_n 1, 1) := by decide +kernel
theorem dX8_has_2 : decode cX8_has 2 = .ok (.invokevirtual 80, 3) := by decide +kernel
theorem dX8_has_5 : decode cX8_has 5 = .ok (.ifCond .eq 11, 3) := by decide +kernel
theorem dX8_has_8 : decode cX8_has 8 = .ok (.aload_n 0, 1) := by decide +kernel
theorem dX8_has_9 : decode cX8_has 9 = .ok (.iload_n 1, 1) := by decide +kernel
theorem dX8_has_10 : decode cX8_has 10 = .ok (.invokevirtual 176, 3) := by decide +kernel
theorem dX8_has_13 : decode cX8_has 13 = .ok (.goto 5, 3) := by decide +kernel
theorem dX8_has_16 : decode cX8_has 16 = .ok (.bipush (-11), 2) := by decide +kernel
theorem dX8_has_18 : decode cX8_has 18 = .ok (.ireturn, 1) := by decide +kernel
theorem dX8_isFrozen_0 : decode cX8_isFrozen 0 = .ok (.iload_n 1, 1) := by decide +kernel
theorem dX8_isFrozen_1 : decode cX8_isFrozen 1 = .ok (.iconst 0, 1) := by decide +kernel
theorem dX8_isFrozen_2 : decode cX8_isFrozen 2 = .ok (.sipush 167, 3) := by decide +kernel
theorem dX8_isFrozen_5 : decode cX8_isFrozen 5 = .ok (.invokestatic 37, 3) := by decide +kernel
theorem dX8_isFrozen_8 : decode cX8_isFrozen 8 = .ok (.ifCond .ne 8, 3) := by decide +kernel
theorem dX8_isFrozen_11 : decode cX8_isFrozen 11 = .ok (.bipush (-12), 2) := by decide +kernel
theorem dX8_isFrozen_13 : decode cX8_isFrozen 13 = .ok (.goto 16, 3) := by decide +kernel
theorem dX8_isFrozen_16 : decode cX8_isFrozen 16 = .ok (.aload_n 0, 1) := by decide +kernel
theorem dX8_isFrozen_17 : decode cX8_isFrozen 17 = .ok (.iload_n 1, 1) := by decide +kernel
theorem dX8_isFrozen_18 : decode cX8_isFrozen 18 = .ok (.invokevirtual 143, 3) := by decide +kernel
theorem dX8_isFrozen_21 : decode cX8_isFrozen 21 = .ok (.ifCond .eq 7, 3) := by decide +kernel
theorem dX8_isFrozen_24 : decode cX8_isFrozen 24 = .ok (.iconst 1, 1) := by decide +kernel
theorem dX8_isFrozen_25 : decode cX8_isFrozen 25 = .ok (.goto 4, 3) := by decide +kernel
theorem dX8_isFrozen_28 : decode cX8_isFrozen 28 = .ok (.iconst 0, 1) := by decide +kernel
theorem dX8_isFrozen_29 : decode cX8_isFrozen 29 = .ok (.ireturn, 1) := by decide +kernel
theorem dX8_isOver_0 : decode cX8_isOver 0 = .ok (.aload_n 0, 1) := by decide +kernel
theorem dX8_isOver_1 : decode cX8_isOver 1 = .ok (.getfield 7, 3) := by decide +kernel
theorem dX8_isOver_4 : decode cX8_isOver 4 = .ok (.iload_n 1, 1) := by decide +kernel
theorem dX8_isOver_5 : decode cX8_isOver 5 = .ok (.iconst 1, 1) := by decide +kernel
theorem dX8_isOver_6 : decode cX8_isOver 6 = .ok (.invokestatic 33, 3) := by decide +kernel
theorem dX8_isOver_9 : decode cX8_isOver 9 = .ok (.iaload, 1) := by decide +kernel
theorem dX8_isOver_10 : decode cX8_isOver 10 = .ok (.iconst 3, 1) := by decide +kernel
theorem dX8_isOver_11 : decode cX8_isOver 11 = .ok (.if_icmp .eq 17, 3) := by decide +kernel
theorem dX8_isOver_14 : decode cX8_isOver 14 = .ok (.aload_n 0, 1) := by decide +kernel
theorem dX8_isOver_15 : decode cX8_isOver 15 = .ok (.getfield 7, 3) := by decide +kernel
theorem dX8_isOver_18 : decode cX8_isOver 18 = .ok (.iload_n 1, 1) := by decide +kernel
theorem dX8_isOver_19 : decode cX8_isOver 19 = .ok (.iconst 1, 1) := by decide +kernel
theorem dX8_isOver_20 : decode cX8_isOver 20 = .ok (.invokestatic 33, 3) := by decide +kernel
theorem dX8_isOver_23 : decode cX8_isOver 23 = .ok (.iaload, 1) := by decide +kernel
theorem dX8_isOver_24 : decode cX8_isOver 24 = .ok (.iconst 5, 1) := by decide +kernel
theorem dX8_isOver_25 : decode cX8_isOver 25 = .ok (.if_icmp .ne 7, 3) := by decide +kernel
theorem dX8_isOver_28 : decode cX8_isOver 28 = .ok (.iconst 1, 1) := by decide +kernel
theorem dX8_isOver_29 : decode cX8_isOver 29 = .ok (.goto 4, 3) := by decide +kernel
theorem dX8_isOver_32 : decode cX8_isOver 32 = .ok (.iconst 0, 1) := by decide +kernel
theorem dX8_isOver_33 : decode cX8_isOver 33 = .ok (.ireturn, 1) := by decide +kernel
theorem dX8_forecast_0 : decode cX8_forecast 0 = .ok (.aload_n 0, 1) := by decide +kernel
theorem dX8_forecast_1 : decode cX8_forecast 1 = .ok (.iload_n 1, 1) := by decide +kernel
theorem dX8_forecast_2 : decode cX8_forecast 2 = .ok (.invokevirtual 48, 3) := by decide +kernel
theorem dX8_forecast_5 : decode cX8_forecast 5 = .ok (.ifCond .ne 6, 3) := by decide +kernel
theorem dX8_forecast_8 : decode cX8_forecast 8 = .ok (.bipush (-11), 2) := by decide +kernel
theorem dX8_forecast_10 : decode cX8_forecast 10 = .ok (.ireturn, 1) := by decide +kernel
theorem dX8_forecast_11 : decode cX8_forecast 11 = .ok (.iconst 0, 1) := by decide +kernel
theorem dX8_forecast_12 : decode cX8_forecast 12 = .ok (.istore_n 2, 1) := by decide +kernel
theorem dX8_forecast_13 : decode cX8_forecast 13 = .ok (.iload_n 2, 1) := by decide +kernel
theorem dX8_forecast_14 : decode cX8_forecast 14 = .ok (.sipush 257, 3) := by decide +kernel
theorem dX8_forecast_17 : decode cX8_forecast 17 = .ok (.if_icmp .ge 21, 3) := by decide +kernel
theorem dX8_forecast_20 : decode cX8_forecast 20 = .ok (.aload_n 0, 1) := by decide +kernel
theorem dX8_forecast_21 : decode cX8_forecast 21 = .ok (.getfield 13, 3) := by decide +kernel
theorem dX8_forecast_24 : decode cX8_forecast 24 = .ok (.iload_n 2, 1) := by decide +kernel
theorem dX8_forecast_25 : decode cX8_forecast 25 = .ok (.aload_n 0, 1) := by decide +kernel
theorem dX8_forecast_26 : decode cX8_forecast 26 = .ok (.getfield 7, 3) := by decide +kernel
theorem dX8_forecast_29 : decode cX8_forecast 29 = .ok (.iload_n 2, 1) := by decide +kernel
theorem dX8_forecast_30 : decode cX8_forecast 30 = .ok (.iaload, 1) := by decide +kernel
theorem dX8_forecast_31 : decode cX8_forecast 31 = .ok (.iastore, 1) := by decide +kernel
theorem dX8_forecast_32 : decode cX8_forecast 32 = .ok (.iinc 2 1, 3) := by decide +kernel
theorem dX8_forecast_35 : decode cX8_forecast 35 = .ok (.goto (-22), 3) := by decide +kernel
theorem dX8_forecast_38 : decode cX8_forecast 38 = .ok (.aload_n 0, 1) := by decide +kernel
theorem dX8_forecast_39 : decode cX8_forecast 39 = .ok (.iconst 1, 1) := by decide +kernel
theorem dX8_forecast_40 : decode cX8_forecast 40 = .ok (.putfield 131, 3) := by decide +kernel
theorem dX8_forecast_43 : decode cX8_forecast 43 = .ok (.iconst 0, 1) := by decide +kernel
theorem dX8_forecast_44 : decode cX8_forecast 44 = .ok (.istore_n 2, 1) := by decide +kernel
theorem dX8_forecast_45 : decode cX8_forecast 45 = .ok (.iload_n 2, 1) := by decide +kernel
theorem dX8_forecast_46 : decode cX8_forecast 46 = .ok (.sipush 400, 3) := by decide +kernel
theorem dX8_forecast_49 : decode cX8_forecast 49 = .ok (.if_icmp .ge 21, 3) := by decide +kernel
theorem dX8_forecast_52 : decode cX8_forecast 52 = .ok (.aload_n 0, 1) := by decide +kernel
theorem dX8_forecast_53 : decode cX8_forecast 53 = .ok (.iload_n 1, 1) := by decide +kernel
theorem dX8_forecast_54 : decode cX8_forecast 54 = .ok (.invokevirtual 179, 3) := by decide +kernel
theorem dX8_forecast_57 : decode cX8_forecast 57 = .ok (.ifCond .ne 13, 3) := by decide +kernel
theorem dX8_forecast_60 : decode cX8_forecast 60 = .ok (.aload_n 0, 1) := by decide +kernel
theorem dX8_forecast_61 : decode cX8_forecast 61 = .ok (.invokevirtual 164, 3) := by decide +kernel
theorem dX8_forecast_64 : decode cX8_forecast 64 = .ok (.iinc 2 1, 3) := by decide +kernel
theorem dX8_forecast_67 : decode cX8_forecast 67 = .ok (.goto (-22), 3) := by decide +kernel
theorem dX8_forecast_70 : decode cX8_forecast 70 = .ok (.aload_n 0, 1) := by decide +kernel
theorem dX8_forecast_71 : decode cX8_forecast 71 = .ok (.iload_n 1, 1) := by decide +kernel
theorem dX8_forecast_72 : decode cX8_forecast 72 = .ok (.invokevirtual 179, 3) := by decide +kernel
theorem dX8_forecast_75 : decode cX8_forecast 75 = .ok (.ifCond .eq 7, 3) := by decide +kernel
theorem dX8_forecast_78 : decode cX8_forecast 78 = .ok (.iload_n 2, 1) := by decide +kernel
theorem dX8_forecast_79 : decode cX8_forecast 79 = .ok (.goto 5, 3) := by decide +kernel
theorem dX8_forecast_82 : decode cX8_forecast 82 = .ok (.bipush (-15), 2) := by decide +kernel
theorem dX8_forecast_84 : decode cX8_forecast 84 = .ok (.istore_n 3, 1) := by decide +kernel
theorem dX8_forecast_85 : decode cX8_forecast 85 = .ok (.aload_n 0, 1) := by decide +kernel
theorem dX8_forecast_86 : decode cX8_forecast 86 = .ok (.iconst 0, 1) := by decide +kernel
theorem dX8_forecast_87 : decode cX8_forecast 87 = .ok (.putfield 131, 3) := by decide +kernel
theorem dX8_forecast_90 : decode cX8_forecast 90 = .ok (.iconst 0, 1) := by decide +kernel
theorem dX8_forecast_91 : decode cX8_forecast 91 = .ok (.istore 4, 2) := by decide +kernel
theorem dX8_forecast_93 : decode cX8_forecast 93 = .ok (.iload 4, 2) := by decide +kernel
theorem dX8_forecast_95 : decode cX8_forecast 95 = .ok (.sipush 257, 3) := by decide +kernel
theorem dX8_forecast_98 : decode cX8_forecast 98 = .ok (.if_icmp .ge 23, 3) := by decide +kernel
theorem dX8_forecast_101 : decode cX8_forecast 101 = .ok (.aload_n 0, 1) := by decide +kernel
theorem dX8_forecast_102 : decode cX8_forecast 102 = .ok (.getfield 7, 3) := by decide +kernel
theorem dX8_forecast_105 : decode cX8_forecast 105 = .ok (.iload 4, 2) := by decide +kernel
theorem dX8_forecast_107 : decode cX8_forecast 107 = .ok (.aload_n 0, 1) := by decide +kernel
theorem dX8_forecast_108 : decode cX8_forecast 108 = .ok (.getfield 13, 3) := by decide +kernel
theorem dX8_forecast_111 : decode cX8_forecast 111 = .ok (.iload 4, 2) := by decide +kernel
theorem dX8_forecast_113 : decode cX8_forecast 113 = .ok (.iaload, 1) := by decide +kernel
theorem dX8_forecast_114 : decode cX8_forecast 114 = .ok (.iastore, 1) := by decide +kernel
theorem dX8_forecast_115 : decode cX8_forecast 115 = .ok (.iinc 4 1, 3) := by decide +kernel
theorem dX8_forecast_118 : decode cX8_forecast 118 = .ok (.goto (-25), 3) := by decide +kernel
theorem dX8_forecast_121 : decode cX8_forecast 121 = .ok (.iload_n 3, 1) := by decide +kernel
theorem dX8_forecast_122 : decode cX8_forecast 122 = .ok (.ireturn, 1) := by decide +kernel
theorem dX8_entries_0 : decode cX8_entries 0 = .ok (.aload_n 0, 1) := by decide +kernel
theorem dX8_entries_1 : decode cX8_entries 1 = .ok (.getfield 7, 3) := by decide +kernel
theorem dX8_entries_4 : decode cX8_entries 4 = .ok (.bipush 11, 2) := by decide +kernel
theorem dX8_entries_6 : decode cX8_entries 6 = .ok (.iaload, 1) := by decide +kernel
theorem dX8_entries_7 : decode cX8_entries 7 = .ok (.ireturn, 1) := by decide +kernel
theorem dX8_entry_0 : decode cX8_entry 0 = .ok (.iload_n 1, 1) := by decide +kernel
theorem dX8_entry_1 : decode cX8_entry 1 = .ok (.iconst 0, 1) := by decide +kernel
theorem dX8_entry_2 : decode cX8_entry 2 = .ok (.aload_n 0, 1) := by decide +kernel
theorem dX8_entry_3 : decode cX8_entry 3 = .ok (.getfield 7, 3) := by decide +kernel
theorem dX8_entry_6 : decode cX8_entry 6 = .ok (.bipush 11, 2) := by decide +kernel
theorem dX8_entry_8 : decode cX8_entry 8 = .ok (.iaload, 1) := by decide +kernel
theorem dX8_entry_9 : decode cX8_entry 9 = .ok (.iconst 1, 1) := by decide +kernel
theorem dX8_entry_10 : decode cX8_entry 10 = .ok (.isub, 1) := by decide +kernel
theorem dX8_entry_11 : decode cX8_entry 11 = .ok (.invokestatic 37, 3) := by decide +kernel
theorem dX8_entry_14 : decode cX8_entry 14 = .ok (.ifCond .ne 6, 3) := by decide +kernel
theorem dX8_entry_17 : decode cX8_entry 17 = .ok (.bipush (-11), 2) := by decide +kernel
theorem dX8_entry_19 : decode cX8_entry 19 = .ok (.ireturn, 1) := by decide +kernel
theorem dX8_entry_20 : decode cX8_entry 20 = .ok (.iload_n 2, 1) := by decide +kernel
theorem dX8_entry_21 : decode cX8_entry 21 = .ok (.iconst 0, 1) := by decide +kernel
theorem dX8_entry_22 : decode cX8_entry 22 = .ok (.iconst 3, 1) := by decide +kernel
theorem dX8_entry_23 : decode cX8_entry 23 = .ok (.invokestatic 37, 3) := by decide +kernel
theorem dX8_entry_26 : decode cX8_entry 26 = .ok (.ifCond .eq 19, 3) := by decide +kernel
theorem dX8_entry_29 : decode cX8_entry 29 = .ok (.aload_n 0, 1) := by decide +kernel
theorem dX8_entry_30 : decode cX8_entry 30 = .ok (.getfield 7, 3) := by decide +kernel
theorem dX8_entry_33 : decode cX8_entry 33 = .ok (.bipush 12, 2) := by decide +kernel
theorem dX8_entry_35 : decode cX8_entry 35 = .ok (.iconst 4, 1) := by decide +kernel
theorem dX8_entry_36 : decode cX8_entry 36 = .ok (.iload_n 1, 1) := by decide +kernel
theorem dX8_entry_37 : decode cX8_entry 37 = .ok (.imul, 1) := by decide +kernel
theorem dX8_entry_38 : decode cX8_entry 38 = .ok (.iadd, 1) := by decide +kernel
theorem dX8_entry_39 : decode cX8_entry 39 = .ok (.iload_n 2, 1) := by decide +kernel
theorem dX8_entry_40 : decode cX8_entry 40 = .ok (.iadd, 1) := by decide +kernel
theorem dX8_entry_41 : decode cX8_entry 41 = .ok (.iaload, 1) := by decide +kernel
theorem dX8_entry_42 : decode cX8_entry 42 = .ok (.goto 5, 3) := by decide +kernel
theorem dX8_entry_45 : decode cX8_entry 45 = .ok (.bipush (-12), 2) := by decide +kernel
theorem dX8_entry_47 : decode cX8_entry 47 = .ok (.ireturn, 1) := by decide +kernel
theorem dX8_count_0 : decode cX8_count 0 = .ok (.iload_n 1, 1) := by decide +kernel
theorem dX8_count_1 : decode cX8_count 1 = .ok (.iconst 1, 1) := by decide +kernel
theorem dX8_count_2 : decode cX8_count 2 = .ok (.bipush 7, 2) := by decide +kernel
theorem dX8_count_4 : decode cX8_count 4 = .ok (.invokestatic 37, 3) := by decide +kernel
theorem dX8_count_7 : decode cX8_count 7 = .ok (.ifCond .ne 6, 3) := by decide +kernel
theorem dX8_count_10 : decode cX8_count 10 = .ok (.bipush (-12), 2) := by decide +kernel
theorem dX8_count_12 : decode cX8_count 12 = .ok (.ireturn, 1) := by decide +kernel
theorem dX8_count_13 : decode cX8_count 13 = .ok (.iload_n 2, 1) := by decide +kernel
theorem dX8_count_14 : decode cX8_count 14 = .ok (.iconst (-1), 1) := by decide +kernel
theorem dX8_count_15 : decode cX8_count 15 = .ok (.if_icmp .eq 14, 3) := by decide +kernel
theorem dX8_count_18 : decode cX8_count 18 = .ok (.aload_n 0, 1) := by decide +kernel
theorem dX8_count_19 : decode cX8_count 19 = .ok (.iload_n 2, 1) := by decide +kernel
theorem dX8_count_20 : decode cX8_count 20 = .ok (.invokevirtual 48, 3) := by decide +kernel
theorem dX8_count_23 : decode cX8_count 23 = .ok (.ifCond .ne 6, 3) := by decide +kernel
theorem dX8_count_26 : decode cX8_count 26 = .ok (.bipush (-11), 2) := by decide +kernel
theorem dX8_count_28 : decode cX8_count 28 = .ok (.ireturn, 1) := by decide +kernel
theorem dX8_count_29 : decode cX8_count 29 = .ok (.iconst 0, 1) := by decide +kernel
theorem dX8_count_30 : decode cX8_count 30 = .ok (.istore_n 3, 1) := by decide +kernel
theorem dX8_count_31 : decode cX8_count 31 = .ok (.bipush 12, 2) := by decide +kernel
theorem dX8_count_33 : decode cX8_count 33 = .ok (.istore 4, 2) := by decide +kernel
theorem dX8_count_35 : decode cX8_count 35 = .ok (.iload 4, 2) := by decide +kernel
theorem dX8_count_37 : decode cX8_count 37 = .ok (.bipush 12, 2) := by decide +kernel
theorem dX8_count_39 : decode cX8_count 39 = .ok (.iconst 4, 1) := by decide +kernel
theorem dX8_count_40 : decode cX8_count 40 = .ok (.aload_n 0, 1) := by decide +kernel
theorem dX8_count_41 : decode cX8_count 41 = .ok (.getfield 7, 3) := by decide +kernel
theorem dX8_count_44 : decode cX8_count 44 = .ok (.bipush 11, 2) := by decide +kernel
theorem dX8_count_46 : decode cX8_count 46 = .ok (.iaload, 1) := by decide +kernel
theorem dX8_count_47 : decode cX8_count 47 = .ok (.imul, 1) := by decide +kernel
theorem dX8_count_48 : decode cX8_count 48 = .ok (.iadd, 1) := by decide +kernel
theorem dX8_count_49 : decode cX8_count 49 = .ok (.if_icmp .ge 48, 3) := by decide +kernel
theorem dX8_count_52 : decode cX8_count 52 = .ok (.iload_n 3, 1) := by decide +kernel
theorem dX8_count_53 : decode cX8_count 53 = .ok (.aload_n 0, 1) := by decide +kernel
theorem dX8_count_54 : decode cX8_count 54 = .ok (.getfield 7, 3) := by decide +kernel
theorem dX8_count_57 : decode cX8_count 57 = .ok (.iload 4, 2) := by decide +kernel
theorem dX8_count_59 : decode cX8_count 59 = .ok (.iconst 2, 1) := by decide +kernel
theorem dX8_count_60 : decode cX8_count 60 = .ok (.iadd, 1) := by decide +kernel
theorem dX8_count_61 : decode cX8_count 61 = .ok (.iaload, 1) := by decide +kernel
theorem dX8_count_62 : decode cX8_count 62 = .ok (.iload_n 1, 1) := by decide +kernel
theorem dX8_count_63 : decode cX8_count 63 = .ok (.if_icmp .ne 25, 3) := by decide +kernel
theorem dX8_count_66 : decode cX8_count 66 = .ok (.iload_n 2, 1) := by decide +kernel
theorem dX8_count_67 : decode cX8_count 67 = .ok (.iconst (-1), 1) := by decide +kernel
theorem dX8_count_68 : decode cX8_count 68 = .ok (.if_icmp .eq 16, 3) := by decide +kernel
theorem dX8_count_71 : decode cX8_count 71 = .ok (.aload_n 0, 1) := by decide +kernel
theorem dX8_count_72 : decode cX8_count 72 = .ok (.getfield 7, 3) := by decide +kernel
theorem dX8_count_75 : decode cX8_count 75 = .ok (.iload 4, 2) := by decide +kernel
theorem dX8_count_77 : decode cX8_count 77 = .ok (.iconst 1, 1) := by decide +kernel
theorem dX8_count_78 : decode cX8_count 78 = .ok (.iadd, 1) := by decide +kernel
theorem dX8_count_79 : decode cX8_count 79 = .ok (.iaload, 1) := by decide +kernel
theorem dX8_count_80 : decode cX8_count 80 = .ok (.iload_n 2, 1) := by decide +kernel
theorem dX8_count_81 : decode cX8_count 81 = .ok (.if_icmp .ne 7, 3) := by decide +kernel
theorem dX8_count_84 : decode cX8_count 84 = .ok (.iconst 1, 1) := by decide +kernel
theorem dX8_count_85 : decode cX8_count 85 = .ok (.goto 4, 3) := by decide +kernel
theorem dX8_count_88 : decode cX8_count 88 = .ok (.iconst 0, 1) := by decide +kernel
theorem dX8_count_89 : decode cX8_count 89 = .ok (.iadd, 1) := by decide +kernel
theorem dX8_count_90 : decode cX8_count 90 = .ok (.istore_n 3, 1) := by decide +kernel
theorem dX8_count_91 : decode cX8_count 91 = .ok (.iinc 4 4, 3) := by decide +kernel
theorem dX8_count_94 : decode cX8_count 94 = .ok (.goto (-59), 3) := by decide +kernel
theorem dX8_count_97 : decode cX8_count 97 = .ok (.iload_n 3, 1) := by decide +kernel
theorem dX8_count_98 : decode cX8_count 98 = .ok (.ireturn, 1) := by decide +kernel
theorem dX8_save_0 : decode cX8_save 0 = .ok (.iload_n 1, 1) := by decide +kernel
theorem dX8_save_1 : decode cX8_save 1 = .ok (.iconst 0, 1) := by decide +kernel
theorem dX8_save_2 : decode cX8_save 2 = .ok (.iconst 1, 1) := by decide +kernel
theorem dX8_save_3 : decode cX8_save 3 = .ok (.invokestatic 37, 3) := by decide +kernel
theorem dX8_save_6 : decode cX8_save 6 = .ok (.ifCond .ne 6, 3) := by decide +kernel
theorem dX8_save_9 : decode cX8_save 9 = .ok (.bipush (-11), 2) := by decide +kernel
theorem dX8_save_11 : decode cX8_save 11 = .ok (.ireturn, 1) := by decide +kernel
theorem dX8_save_12 : decode cX8_save 12 = .ok (.iconst 0, 1) := by decide +kernel
theorem dX8_save_13 : decode cX8_save 13 = .ok (.istore_n 2, 1) := by decide +kernel
theorem dX8_save_14 : decode cX8_save 14 = .ok (.iload_n 2, 1) := by decide +kernel
theorem dX8_save_15 : decode cX8_save 15 = .ok (.sipush 257, 3) := by decide +kernel
theorem dX8_save_18 : decode cX8_save 18 = .ok (.if_icmp .ge 27, 3) := by decide +kernel
theorem dX8_save_21 : decode cX8_save 21 = .ok (.aload_n 0, 1) := by decide +kernel
theorem dX8_save_22 : decode cX8_save 22 = .ok (.getfield 16, 3) := by decide +kernel
theorem dX8_save_25 : decode cX8_save 25 = .ok (.sipush 257, 3) := by decide +kernel
theorem dX8_save_28 : decode cX8_save 28 = .ok (.iload_n 1, 1) := by decide +kernel
theorem dX8_save_29 : decode cX8_save 29 = .ok (.imul, 1) := by decide +kernel
theorem dX8_save_30 : decode cX8_save 30 = .ok (.iload_n 2, 1) := by decide +kernel
theorem dX8_save_31 : decode cX8_save 31 = .ok (.iadd, 1) := by decide +kernel
theorem dX8_save_32 : decode cX8_save 32 = .ok (.aload_n 0, 1) := by decide +kernel
theorem dX8_save_33 : decode cX8_save 33 = .ok (.getfield 7, 3) := by decide +kernel
theorem dX8_save_36 : decode cX8_save 36 = .ok (.iload_n 2, 1) := by decide +kernel
theorem dX8_save_37 : decode cX8_save 37 = .ok (.iaload, 1) := by decide +kernel
theorem dX8_save_38 : decode cX8_save 38 = .ok (.iastore, 1) := by decide +kernel
theorem dX8_save_39 : decode cX8_save 39 = .ok (.iinc 2 1, 3) := by decide +kernel
theorem dX8_save_42 : decode cX8_save 42 = .ok (.goto (-28), 3) := by decide +kernel
theorem dX8_save_45 : decode cX8_save 45 = .ok (.aload_n 0, 1) := by decide +kernel
theorem dX8_save_46 : decode cX8_save 46 = .ok (.getfield 19, 3) := by decide +kernel
theorem dX8_save_49 : decode cX8_save 49 = .ok (.iload_n 1, 1) := by decide +kernel
theorem dX8_save_50 : decode cX8_save 50 = .ok (.iconst 1, 1) := by decide +kernel
theorem dX8_save_51 : decode cX8_save 51 = .ok (.bastore, 1) := by decide +kernel
theorem dX8_save_52 : decode cX8_save 52 = .ok (.aload_n 0, 1) := by decide +kernel
theorem dX8_save_53 : decode cX8_save 53 = .ok (.getfield 7, 3) := by decide +kernel
theorem dX8_save_56 : decode cX8_save 56 = .ok (.iconst 1, 1) := by decide +kernel
theorem dX8_save_57 : decode cX8_save 57 = .ok (.iaload, 1) := by decide +kernel
theorem dX8_save_58 : decode cX8_save 58 = .ok (.ireturn, 1) := by decide +kernel
theorem dX8_restore_0 : decode cX8_restore 0 = .ok (.iload_n 1, 1) := by decide +kernel
theorem dX8_restore_1 : decode cX8_restore 1 = .ok (.iconst 0, 1) := by decide +kernel
theorem dX8_restore_2 : decode cX8_restore 2 = .ok (.iconst 1, 1) := by decide +kernel
theorem dX8_restore_3 : decode cX8_restore 3 = .ok (.invokestatic 37, 3) := by decide +kernel
theorem dX8_restore_6 : decode cX8_restore 6 = .ok (.ifCond .ne 6, 3) := by decide +kernel
theorem dX8_restore_9 : decode cX8_restore 9 = .ok (.bipush (-11), 2) := by decide +kernel
theorem dX8_restore_11 : decode cX8_restore 11 = .ok (.ireturn, 1) := by decide +kernel
theorem dX8_restore_12 : decode cX8_restore 12 = .ok (.aload_n 0, 1) := by decide +kernel
theorem dX8_restore_13 : decode cX8_restore 13 = .ok (.getfield 19, 3) := by decide +kernel
theorem dX8_restore_16 : decode cX8_restore 16 = .ok (.iload_n 1, 1) := by decide +kernel
theorem dX8_restore_17 : decode cX8_restore 17 = .ok (.baload, 1) := by decide +kernel
theorem dX8_restore_18 : decode cX8_restore 18 = .ok (.ifCond .ne 6, 3) := by decide +kernel
theorem dX8_restore_21 : decode cX8_restore 21 = .ok (.bipush (-13), 2) := by decide +kernel
theorem dX8_restore_23 : decode cX8_restore 23 = .ok (.ireturn, 1) := by decide +kernel
theorem dX8_restore_24 : decode cX8_restore 24 = .ok (.iconst 0, 1) := by decide +kernel
theorem dX8_restore_25 : decode cX8_restore 25 = .ok (.istore_n 2, 1) := by decide +kernel
theorem dX8_restore_26 : decode cX8_restore 26 = .ok (.iload_n 2, 1) := by decide +kernel
theorem dX8_restore_27 : decode cX8_restore 27 = .ok (.sipush 257, 3) := by decide +kernel
theorem dX8_restore_30 : decode cX8_restore 30 = .ok (.if_icmp .ge 27, 3) := by decide +kernel
theorem dX8_restore_33 : decode cX8_restore 33 = .ok (.aload_n 0, 1) := by decide +kernel
theorem dX8_restore_34 : decode cX8_restore 34 = .ok (.getfield 7, 3) := by decide +kernel
theorem dX8_restore_37 : decode cX8_restore 37 = .ok (.iload_n 2, 1) := by decide +kernel
theorem dX8_restore_38 : decode cX8_restore 38 = .ok (.aload_n 0, 1) := by decide +kernel
theorem dX8_restore_39 : decode cX8_restore 39 = .ok (.getfield 16, 3) := by decide +kernel
theorem dX8_restore_42 : decode cX8_restore 42 = .ok (.sipush 257, 3) := by decide +kernel
theorem dX8_restore_45 : decode cX8_restore 45 = .ok (.iload_n 1, 1) := by decide +kernel
theorem dX8_restore_46 : decode cX8_restore 46 = .ok (.imul, 1) := by decide +kernel
theorem dX8_restore_47 : decode cX8_restore 47 = .ok (.iload_n 2, 1) := by decide +kernel
theorem dX8_restore_48 : decode cX8_restore 48 = .ok (.iadd, 1) := by decide +kernel
theorem dX8_restore_49 : decode cX8_restore 49 = .ok (.iaload, 1) := by decide +kernel
theorem dX8_restore_50 : decode cX8_restore 50 = .ok (.iastore, 1) := by decide +kernel
theorem dX8_restore_51 : decode cX8_restore 51 = .ok (.iinc 2 1, 3) := by decide +kernel
theorem dX8_restore_54 : decode cX8_restore 54 = .ok (.goto (-28), 3) := by decide +kernel
theorem dX8_restore_57 : decode cX8_restore 57 = .ok (.aload_n 0, 1) := by decide +kernel
theorem dX8_restore_58 : decode cX8_restore 58 = .ok (.getfield 7, 3) := by decide +kernel
theorem dX8_restore_61 : decode cX8_restore 61 = .ok (.iconst 1, 1) := by decide +kernel
theorem dX8_restore_62 : decode cX8_restore 62 = .ok (.iaload, 1) := by decide +kernel
theorem dX8_restore_63 : decode cX8_restore 63 = .ok (.ireturn, 1) := by decide +kernel
theorem dX8_more_0 : decode cX8_more 0 = .ok (.ldc2_w 182, 3) := by decide +kernel
theorem dX8_more_3 : decode cX8_more 3 = .ok (.lload_n 0, 1) := by decide +kernel
theorem dX8_more_4 : decode cX8_more 4 = .ok (.lmul, 1) := by decide +kernel
theorem dX8_more_5 : decode cX8_more 5 = .ok (.lload_n 2, 1) := by decide +kernel
theorem dX8_more_6 : decode cX8_more 6 = .ok (.ladd, 1) := by decide +kernel
theorem dX8_more_7 : decode cX8_more 7 = .ok (.lreturn, 1) := by decide +kernel
theorem dX8_checksum_0 : decode cX8_checksum 0 = .ok (.ldc2_w 184, 3) := by decide +kernel
theorem dX8_checksum_3 : decode cX8_checksum 3 = .ok (.aload_n 0, 1) := by decide +kernel
theorem dX8_checksum_4 : decode cX8_checksum 4 = .ok (.getfield 7, 3) := by decide +kernel
theorem dX8_checksum_7 : decode cX8_checksum 7 = .ok (.iconst 1, 1) := by decide +kernel
theorem dX8_checksum_8 : decode cX8_checksum 8 = .ok (.iaload, 1) := by decide +kernel
theorem dX8_checksum_9 : decode cX8_checksum 9 = .ok (.i2l, 1) := by decide +kernel
theorem dX8_checksum_10 : decode cX8_checksum 10 = .ok (.invokestatic 186, 3) := by decide +kernel
theorem dX8_checksum_13 : decode cX8_checksum 13 = .ok (.aload_n 0, 1) := by decide +kernel
theorem dX8_checksum_14 : decode cX8_checksum 14 = .ok (.getfield 7, 3) := by decide +kernel
theorem dX8_checksum_17 : decode cX8_checksum 17 = .ok (.bipush 10, 2) := by decide +kernel
theorem dX8_checksum_19 : decode cX8_checksum 19 = .ok (.iaload, 1) := by decide +kernel
theorem dX8_checksum_20 : decode cX8_checksum 20 = .ok (.i2l, 1) := by decide +kernel
theorem dX8_checksum_21 : decode cX8_checksum 21 = .ok (.invokestatic 186, 3) := by decide +kernel
theorem dX8_checksum_24 : decode cX8_checksum 24 = .ok (.lstore_n 1, 1) := by decide +kernel
theorem dX8_checksum_25 : decode cX8_checksum 25 = .ok (.iconst 0, 1) := by decide +kernel
theorem dX8_checksum_26 : decode cX8_checksum 26 = .ok (.istore_n 3, 1) := by decide +kernel
theorem dX8_checksum_27 : decode cX8_checksum 27 = .ok (.iload_n 3, 1) := by decide +kernel
theorem dX8_checksum_28 : decode cX8_checksum 28 = .ok (.aload_n 0, 1) := by decide +kernel
theorem dX8_checksum_29 : decode cX8_checksum 29 = .ok (.getfield 7, 3) := by decide +kernel
theorem dX8_checksum_32 : decode cX8_checksum 32 = .ok (.bipush 10, 2) := by decide +kernel
theorem dX8_checksum_34 : decode cX8_checksum 34 = .ok (.iaload, 1) := by decide +kernel
theorem dX8_checksum_35 : decode cX8_checksum 35 = .ok (.if_icmp .ge 92, 3) := by decide +kernel
theorem dX8_checksum_38 : decode cX8_checksum 38 = .ok (.iconst 0, 1) := by decide +kernel
theorem dX8_checksum_39 : decode cX8_checksum 39 = .ok (.istore 4, 2) := by decide +kernel
theorem dX8_checksum_41 : decode cX8_checksum 41 = .ok (.iload 4, 2) := by decide +kernel
theorem dX8_checksum_43 : decode cX8_checksum 43 = .ok (.bipush 7, 2) := by decide +kernel
theorem dX8_checksum_45 : decode cX8_checksum 45 = .ok (.if_icmp .ge 22, 3) := by decide +kernel
theorem dX8_checksum_48 : decode cX8_checksum 48 = .ok (.lload_n 1, 1) := by decide +kernel
theorem dX8_checksum_49 : decode cX8_checksum 49 = .ok (.aload_n 0, 1) := by decide +kernel
theorem dX8_checksum_50 : decode cX8_checksum 50 = .ok (.iload_n 3, 1) := by decide +kernel
theorem dX8_checksum_51 : decode cX8_checksum 51 = .ok (.iload 4, 2) := by decide +kernel
theorem dX8_checksum_53 : decode cX8_checksum 53 = .ok (.invokevirtual 167, 3) := by decide +kernel
theorem dX8_checksum_56 : decode cX8_checksum 56 = .ok (.i2l, 1) := by decide +kernel
theorem dX8_checksum_57 : decode cX8_checksum 57 = .ok (.invokestatic 186, 3) := by decide +kernel
theorem dX8_checksum_60 : decode cX8_checksum 60 = .ok (.lstore_n 1, 1) := by decide +kernel
theorem dX8_checksum_61 : decode cX8_checksum 61 = .ok (.iinc 4 1, 3) := by decide +kernel
theorem dX8_checksum_64 : decode cX8_checksum 64 = .ok (.goto (-23), 3) := by decide +kernel
theorem dX8_checksum_67 : decode cX8_checksum 67 = .ok (.iconst 0, 1) := by decide +kernel
theorem dX8_checksum_68 : decode cX8_checksum 68 = .ok (.istore 4, 2) := by decide +kernel
theorem dX8_checksum_70 : decode cX8_checksum 70 = .ok (.iload 4, 2) := by decide +kernel
theorem dX8_checksum_72 : decode cX8_checksum 72 = .ok (.iconst 4, 1) := by decide +kernel
theorem dX8_checksum_73 : decode cX8_checksum 73 = .ok (.if_icmp .ge 28, 3) := by decide +kernel
theorem dX8_checksum_76 : decode cX8_checksum 76 = .ok (.lload_n 1, 1) := by decide +kernel
theorem dX8_checksum_77 : decode cX8_checksum 77 = .ok (.aload_n 0, 1) := by decide +kernel
theorem dX8_checksum_78 : decode cX8_checksum 78 = .ok (.getfield 7, 3) := by decide +kernel
theorem dX8_checksum_81 : decode cX8_checksum 81 = .ok (.iload_n 3, 1) := by decide +kernel
theorem dX8_checksum_82 : decode cX8_checksum 82 = .ok (.iconst 5, 1) := by decide +kernel
theorem dX8_checksum_83 : decode cX8_checksum 83 = .ok (.iload 4, 2) := by decide +kernel
theorem dX8_checksum_85 : decode cX8_checksum 85 = .ok (.iadd, 1) := by decide +kernel
theorem dX8_checksum_86 : decode cX8_checksum 86 = .ok (.invokestatic 33, 3) := by decide +kernel
theorem dX8_checksum_89 : decode cX8_checksum 89 = .ok (.iaload, 1) := by decide +kernel
theorem dX8_checksum_90 : decode cX8_checksum 90 = .ok (.i2l, 1) := by decide +kernel
theorem dX8_checksum_91 : decode cX8_checksum 91 = .ok (.invokestatic 186, 3) := by decide +kernel
theorem dX8_checksum_94 : decode cX8_checksum 94 = .ok (.lstore_n 1, 1) := by decide +kernel
theorem dX8_checksum_95 : decode cX8_checksum 95 = .ok (.iinc 4 1, 3) := by decide +kernel
theorem dX8_checksum_98 : decode cX8_checksum 98 = .ok (.goto (-28), 3) := by decide +kernel
theorem dX8_checksum_101 : decode cX8_checksum 101 = .ok (.lload_n 1, 1) := by decide +kernel
theorem dX8_checksum_102 : decode cX8_checksum 102 = .ok (.aload_n 0, 1) := by decide +kernel
theorem dX8_checksum_103 : decode cX8_checksum 103 = .ok (.iload_n 3, 1) := by decide +kernel
theorem dX8_checksum_104 : decode cX8_checksum 104 = .ok (.iconst 0, 1) := by decide +kernel
theorem dX8_checksum_105 : decode cX8_checksum 105 = .ok (.invokevirtual 189, 3) := by decide +kernel
theorem dX8_checksum_108 : decode cX8_checksum 108 = .ok (.invokestatic 186, 3) := by decide +kernel
theorem dX8_checksum_111 : decode cX8_checksum 111 = .ok (.aload_n 0, 1) := by decide +kernel
theorem dX8_checksum_112 : decode cX8_checksum 112 = .ok (.iload_n 3, 1) := by decide +kernel
theorem dX8_checksum_113 : decode cX8_checksum 113 = .ok (.iconst 1, 1) := by decide +kernel
theorem dX8_checksum_114 : decode cX8_checksum 114 = .ok (.invokevirtual 189, 3) := by decide +kernel
theorem dX8_checksum_117 : decode cX8_checksum 117 = .ok (.invokestatic 186, 3) := by decide +kernel
theorem dX8_checksum_120 : decode cX8_checksum 120 = .ok (.lstore_n 1, 1) := by decide +kernel
theorem dX8_checksum_121 : decode cX8_checksum 121 = .ok (.iinc 3 1, 3) := by decide +kernel
theorem dX8_checksum_124 : decode cX8_checksum 124 = .ok (.goto (-97), 3) := by decide +kernel
theorem dX8_checksum_127 : decode cX8_checksum 127 = .ok (.iconst 0, 1) := by decide +kernel
theorem dX8_checksum_128 : decode cX8_checksum 128 = .ok (.istore_n 3, 1) := by decide +kernel
theorem dX8_checksum_129 : decode cX8_checksum 129 = .ok (.iload_n 3, 1) := by decide +kernel
theorem dX8_checksum_130 : decode cX8_checksum 130 = .ok (.aload_n 0, 1) := by decide +kernel
theorem dX8_checksum_131 : decode cX8_checksum 131 = .ok (.getfield 7, 3) := by decide +kernel
theorem dX8_checksum_134 : decode cX8_checksum 134 = .ok (.iconst 0, 1) := by decide +kernel
theorem dX8_checksum_135 : decode cX8_checksum 135 = .ok (.iaload, 1) := by decide +kernel
theorem dX8_checksum_136 : decode cX8_checksum 136 = .ok (.if_icmp .ge 20, 3) := by decide +kernel
theorem dX8_checksum_139 : decode cX8_checksum 139 = .ok (.lload_n 1, 1) := by decide +kernel
theorem dX8_checksum_140 : decode cX8_checksum 140 = .ok (.aload_n 0, 1) := by decide +kernel
theorem dX8_checksum_141 : decode cX8_checksum 141 = .ok (.iload_n 3, 1) := by decide +kernel
theorem dX8_checksum_142 : decode cX8_checksum 142 = .ok (.invokevirtual 176, 3) := by decide +kernel
theorem dX8_checksum_145 : decode cX8_checksum 145 = .ok (.i2l, 1) := by decide +kernel
theorem dX8_checksum_146 : decode cX8_checksum 146 = .ok (.invokestatic 186, 3) := by decide +kernel
theorem dX8_checksum_149 : decode cX8_checksum 149 = .ok (.lstore_n 1, 1) := by decide +kernel
theorem dX8_checksum_150 : decode cX8_checksum 150 = .ok (.iinc 3 1, 3) := by decide +kernel
theorem dX8_checksum_153 : decode cX8_checksum 153 = .ok (.goto (-24), 3) := by decide +kernel
theorem dX8_checksum_156 : decode cX8_checksum 156 = .ok (.lload_n 1, 1) := by decide +kernel
theorem dX8_checksum_157 : decode cX8_checksum 157 = .ok (.aload_n 0, 1) := by decide +kernel
theorem dX8_checksum_158 : decode cX8_checksum 158 = .ok (.getfield 7, 3) := by decide +kernel
theorem dX8_checksum_161 : decode cX8_checksum 161 = .ok (.bipush 11, 2) := by decide +kernel
theorem dX8_checksum_163 : decode cX8_checksum 163 = .ok (.iaload, 1) := by decide +kernel
theorem dX8_checksum_164 : decode cX8_checksum 164 = .ok (.i2l, 1) := by decide +kernel
theorem dX8_checksum_165 : decode cX8_checksum 165 = .ok (.invokestatic 186, 3) := by decide +kernel
theorem dX8_checksum_168 : decode cX8_checksum 168 = .ok (.lstore_n 1, 1) := by decide +kernel
theorem dX8_checksum_169 : decode cX8_checksum 169 = .ok (.bipush 12, 2) := by decide +kernel
theorem dX8_checksum_171 : decode cX8_checksum 171 = .ok (.istore_n 3, 1) := by decide +kernel
theorem dX8_checksum_172 : decode cX8_checksum 172 = .ok (.iload_n 3, 1) := by decide +kernel
theorem dX8_checksum_173 : decode cX8_checksum 173 = .ok (.bipush 12, 2) := by decide +kernel
theorem dX8_checksum_175 : decode cX8_checksum 175 = .ok (.iconst 4, 1) := by decide +kernel
theorem dX8_checksum_176 : decode cX8_checksum 176 = .ok (.aload_n 0, 1) := by decide +kernel
theorem dX8_checksum_177 : decode cX8_checksum 177 = .ok (.getfield 7, 3) := by decide +kernel
theorem dX8_checksum_180 : decode cX8_checksum 180 = .ok (.bipush 11, 2) := by decide +kernel
theorem dX8_checksum_182 : decode cX8_checksum 182 = .ok (.iaload, 1) := by decide +kernel
theorem dX8_checksum_183 : decode cX8_checksum 183 = .ok (.imul, 1) := by decide +kernel
theorem dX8_checksum_184 : decode cX8_checksum 184 = .ok (.iadd, 1) := by decide +kernel
theorem dX8_checksum_185 : decode cX8_checksum 185 = .ok (.if_icmp .ge 21, 3) := by decide +kernel
theorem dX8_checksum_188 : decode cX8_checksum 188 = .ok (.lload_n 1, 1) := by decide +kernel
theorem dX8_checksum_189 : decode cX8_checksum 189 = .ok (.aload_n 0, 1) := by decide +kernel
theorem dX8_checksum_190 : decode cX8_checksum 190 = .ok (.getfield 7, 3) := by decide +kernel
theorem dX8_checksum_193 : decode cX8_checksum 193 = .ok (.iload_n 3, 1) := by decide +kernel
theorem dX8_checksum_194 : decode cX8_checksum 194 = .ok (.iaload, 1) := by decide +kernel
theorem dX8_checksum_195 : decode cX8_checksum 195 = .ok (.i2l, 1) := by decide +kernel
theorem dX8_checksum_196 : decode cX8_checksum 196 = .ok (.invokestatic 186, 3) := by decide +kernel
theorem dX8_checksum_199 : decode cX8_checksum 199 = .ok (.lstore_n 1, 1) := by decide +kernel
theorem dX8_checksum_200 : decode cX8_checksum 200 = .ok (.iinc 3 1, 3) := by decide +kernel
theorem dX8_checksum_203 : decode cX8_checksum 203 = .ok (.goto (-31), 3) := by decide +kernel
theorem dX8_checksum_206 : decode cX8_checksum 206 = .ok (.lload_n 1, 1) := by decide +kernel
theorem dX8_checksum_207 : decode cX8_checksum 207 = .ok (.lreturn, 1) := by decide +kernel
theorem dJ6_bitCount_0f7a4_0 : decode cJ6_bitCount_0f7a4 0 = .ok (.iload_n 0, 1) := by decide +kernel
theorem dJ6_bitCount_0f7a4_1 : decode cJ6_bitCount_0f7a4 1 = .ok (.iload_n 0, 1) := by decide +kernel
theorem dJ6_bitCount_0f7a4_2 : decode cJ6_bitCount_0f7a4 2 = .ok (.iconst 1, 1) := by decide +kernel
theorem dJ6_bitCount_0f7a4_3 : decode cJ6_bitCount_0f7a4 3 = .ok (.iushr, 1) := by decide +kernel
theorem dJ6_bitCount_0f7a4_4 : decode cJ6_bitCount_0f7a4 4 = .ok (.ldc_w 265, 3) := by decide +kernel
theorem dJ6_bitCount_0f7a4_7 : decode cJ6_bitCount_0f7a4 7 = .ok (.iand, 1) := by decide +kernel
theorem dJ6_bitCount_0f7a4_8 : decode cJ6_bitCount_0f7a4 8 = .ok (.isub, 1) := by decide +kernel
theorem dJ6_bitCount_0f7a4_9 : decode cJ6_bitCount_0f7a4 9 = .ok (.istore_n 0, 1) := by decide +kernel
theorem dJ6_bitCount_0f7a4_10 : decode cJ6_bitCount_0f7a4 10 = .ok (.iload_n 0, 1) := by decide +kernel
theorem dJ6_bitCount_0f7a4_11 : decode cJ6_bitCount_0f7a4 11 = .ok (.ldc_w 266, 3) := by decide +kernel
theorem dJ6_bitCount_0f7a4_14 : decode cJ6_bitCount_0f7a4 14 = .ok (.iand, 1) := by decide +kernel
theorem dJ6_bitCount_0f7a4_15 : decode cJ6_bitCount_0f7a4 15 = .ok (.iload_n 0, 1) := by decide +kernel
theorem dJ6_bitCount_0f7a4_16 : decode cJ6_bitCount_0f7a4 16 = .ok (.iconst 2, 1) := by decide +kernel
theorem dJ6_bitCount_0f7a4_17 : decode cJ6_bitCount_0f7a4 17 = .ok (.iushr, 1) := by decide +kernel
theorem dJ6_bitCount_0f7a4_18 : decode cJ6_bitCount_0f7a4 18 = .ok (.ldc_w 266, 3) := by decide +kernel
theorem dJ6_bitCount_0f7a4_21 : decode cJ6_bitCount_0f7a4 21 = .ok (.iand, 1) := by decide +kernel
theorem dJ6_bitCount_0f7a4_22 : decode cJ6_bitCount_0f7a4 22 = .ok (.iadd, 1) := by decide +kernel
theorem dJ6_bitCount_0f7a4_23 : decode cJ6_bitCount_0f7a4 23 = .ok (.istore_n 0, 1) := by decide +kernel
theorem dJ6_bitCount_0f7a4_24 : decode cJ6_bitCount_0f7a4 24 = .ok (.iload_n 0, 1) := by decide +kernel
theorem dJ6_bitCount_0f7a4_25 : decode cJ6_bitCount_0f7a4 25 = .ok (.iload_n 0, 1) := by decide +kernel
theorem dJ6_bitCount_0f7a4_26 : decode cJ6_bitCount_0f7a4 26 = .ok (.iconst 4, 1) := by decide +kernel
theorem dJ6_bitCount_0f7a4_27 : decode cJ6_bitCount_0f7a4 27 = .ok (.iushr, 1) := by decide +kernel
theorem dJ6_bitCount_0f7a4_28 : decode cJ6_bitCount_0f7a4 28 = .ok (.iadd, 1) := by decide +kernel
theorem dJ6_bitCount_0f7a4_29 : decode cJ6_bitCount_0f7a4 29 = .ok (.ldc_w 267, 3) := by decide +kernel
theorem dJ6_bitCount_0f7a4_32 : decode cJ6_bitCount_0f7a4 32 = .ok (.iand, 1) := by decide +kernel
theorem dJ6_bitCount_0f7a4_33 : decode cJ6_bitCount_0f7a4 33 = .ok (.istore_n 0, 1) := by decide +kernel
theorem dJ6_bitCount_0f7a4_34 : decode cJ6_bitCount_0f7a4 34 = .ok (.iload_n 0, 1) := by decide +kernel
theorem dJ6_bitCount_0f7a4_35 : decode cJ6_bitCount_0f7a4 35 = .ok (.iload_n 0, 1) := by decide +kernel
theorem dJ6_bitCount_0f7a4_36 : decode cJ6_bitCount_0f7a4 36 = .ok (.bipush 8, 2) := by decide +kernel
theorem dJ6_bitCount_0f7a4_38 : decode cJ6_bitCount_0f7a4 38 = .ok (.iushr, 1) := by decide +kernel
theorem dJ6_bitCount_0f7a4_39 : decode cJ6_bitCount_0f7a4 39 = .ok (.iadd, 1) := by decide +kernel
theorem dJ6_bitCount_0f7a4_40 : decode cJ6_bitCount_0f7a4 40 = .ok (.istore_n 0, 1) := by decide +kernel
theorem dJ6_bitCount_0f7a4_41 : decode cJ6_bitCount_0f7a4 41 = .ok (.iload_n 0, 1) := by decide +kernel
theorem dJ6_bitCount_0f7a4_42 : decode cJ6_bitCount_0f7a4 42 = .ok (.iload_n 0, 1) := by decide +kernel
theorem dJ6_bitCount_0f7a4_43 : decode cJ6_bitCount_0f7a4 43 = .ok (.bipush 16, 2) := by decide +kernel
theorem dJ6_bitCount_0f7a4_45 : decode cJ6_bitCount_0f7a4 45 = .ok (.iushr, 1) := by decide +kernel
theorem dJ6_bitCount_0f7a4_46 : decode cJ6_bitCount_0f7a4 46 = .ok (.iadd, 1) := by decide +kernel
theorem dJ6_bitCount_0f7a4_47 : decode cJ6_bitCount_0f7a4 47 = .ok (.istore_n 0, 1) := by decide +kernel
theorem dJ6_bitCount_0f7a4_48 : decode cJ6_bitCount_0f7a4 48 = .ok (.iload_n 0, 1) := by decide +kernel
theorem dJ6_bitCount_0f7a4_49 : decode cJ6_bitCount_0f7a4 49 = .ok (.bipush 63, 2) := by decide +kernel
theorem dJ6_bitCount_0f7a4_51 : decode cJ6_bitCount_0f7a4 51 = .ok (.iand, 1) := by decide +kernel
theorem dJ6_bitCount_0f7a4_52 : decode cJ6_bitCount_0f7a4 52 = .ok (.ireturn, 1) := by decide +kernel
theorem dJ9_max_f86c9_0 : decode cJ9_max_f86c9 0 = .ok (.lload_n 0, 1) := by decide +kernel
theorem dJ9_max_f86c9_1 : decode cJ9_max_f86c9 1 = .ok (.lload_n 2, 1) := by decide +kernel
theorem dJ9_max_f86c9_2 : decode cJ9_max_f86c9 2 = .ok (.lcmp, 1) := by decide +kernel
theorem dJ9_max_f86c9_3 : decode cJ9_max_f86c9 3 = .ok (.ifCond .lt 7, 3) := by decide +kernel
theorem dJ9_max_f86c9_6 : decode cJ9_max_f86c9 6 = .ok (.lload_n 0, 1) := by decide +kernel
theorem dJ9_max_f86c9_7 : decode cJ9_max_f86c9 7 = .ok (.goto 4, 3) := by decide +kernel
theorem dJ9_max_f86c9_10 : decode cJ9_max_f86c9 10 = .ok (.lload_n 2, 1) := by decide +kernel
theorem dJ9_max_f86c9_11 : decode cJ9_max_f86c9 11 = .ok (.lreturn, 1) := by decide +kernel
theorem dJ9_min_7cf53_0 : decode cJ9_min_7cf53 0 = .ok (.iload_n 0, 1) := by decide +kernel
theorem dJ9_min_7cf53_1 : decode cJ9_min_7cf53 1 = .ok (.iload_n 1, 1) := by decide +kernel
theorem dJ9_min_7cf53_2 : decode cJ9_min_7cf53 2 = .ok (.if_icmp .gt 7, 3) := by decide +kernel
theorem dJ9_min_7cf53_5 : decode cJ9_min_7cf53 5 = .ok (.iload_n 0, 1) := by decide +kernel
theorem dJ9_min_7cf53_6 : decode cJ9_min_7cf53 6 = .ok (.goto 4, 3) := by decide +kernel
theorem dJ9_min_7cf53_9 : decode cJ9_min_7cf53 9 = .ok (.iload_n 1, 1) := by decide +kernel
theorem dJ9_min_7cf53_10 : decode cJ9_min_7cf53 10 = .ok (.ireturn, 1) := by decide +kernel
end
section
def sr_G : List Cond := lw_tbl.filter goodWord
theorem sr_in {w : Cond} (h : w ∈ lw_tbl) (hg : goodWord w = true) : w ∈ sr_G := List.mem_filter.mpr ⟨h, hg⟩
theorem sr_in_all {ws : List Cond} (h : ∀ w ∈ ws, w ∈ lw_tbl) (hg : ws.all goodWord = true) : ∀ w ∈ ws, w ∈ sr_G := fun w hw => sr_in (h w hw) (List.all_eq_true.mp hg w hw)
theorem sr_good {ws : List Cond} (h : ∀ w ∈ ws, w ∈ sr_G) : GoodIn sr_G ws := fun w hw => ⟨h w hw, good_of_word (List.mem_filter.mp (h w hw)).2⟩
theorem lk_0 : Cond.initialized RL ∈ sr_G := sr_in (List.mem_of_getElem? (i := 48) (by decide +kernel)) rfl
theorem lk_1 : Cond.initialized RX7 ∈ sr_G := sr_in (List.mem_of_getElem? (i := 49) (by decide +kernel)) rfl
theorem lk_2 : Cond.initialized RX1 ∈ sr_G := sr_in (List.mem_of_getElem? (i := 50) (by decide +kernel)) rfl
theorem lk_3 : Cond.initialized RX0 ∈ sr_G := sr_in (List.mem_of_getElem? (i := 51) (by decide +kernel)) rfl
theorem lk_4 : Cond.initialized RX4 ∈ sr_G := sr_in (List.mem_of_getElem? (i := 52) (by decide +kernel)) rfl
theorem lk_5 : Cond.initialized RX6 ∈ sr_G := sr_in (List.mem_of_getElem? (i := 53) (by decide +kernel)) rfl
theorem lk_6 : Cond.initialized RX2 ∈ sr_G := sr_in (List.mem_of_getElem? (i := 54) (by decide +kernel)) rfl
theorem lk_7 : Cond.initialized RX3 ∈ sr_G := sr_in (List.mem_of_getElem? (i := 55) (by decide +kernel)) rfl
theorem lk_8 : Cond.initialized RX5 ∈ sr_G := sr_in (List.mem_of_getElem? (i := 56) (by decide +kernel)) rfl
theorem lk_9 : Cond.initialized RX8 ∈ sr_G := sr_in (List.mem_of_getElem? (i := 57) (by decide +kernel)) rfl
theorem lk_10 : Cond.initialized RJ6 ∈ sr_G := sr_in (List.mem_of_getElem? (i := 58) (by decide +kernel)) rfl
theorem lk_11 : Cond.initialized RJ10 ∈ sr_G := sr_in (List.mem_of_getElem? (i := 59) (by decide +kernel)) rfl
theorem lk_12 : Cond.initialized RJ9 ∈ sr_G := sr_in (List.mem_of_getElem? (i := 60) (by decide +kernel)) rfl
theorem lk_13 : Cond.classLink RL 7 RX7 ∈ sr_G := sr_in (List.mem_of_getElem? (i := 61) (by decide +kernel)) rfl
theorem lk_14 : Cond.instantiable RX7 5 ∈ sr_G := sr_in (List.mem_of_getElem? (i := 62) (by decide +kernel)) rfl
theorem lk_15 : Cond.methodLink RL 9 yX7_init ∈ sr_G := sr_in (List.mem_of_getElem? (i := 63) (by decide +kernel)) rfl
theorem lk_16 : Cond.instanceMethod yX7_init ∈ sr_G := sr_in (List.mem_of_getElem? (i := 64) (by decide +kernel)) rfl
theorem lk_17 : Cond.code yX7_init cX7_init 2 (Option.none : Option FieldType) ∈ sr_G := sr_in (List.mem_of_getElem? (i := 65) (by decide +kernel)) rfl
theorem lk_18 : Cond.methodLink RX7 1 objectInit ∈ sr_G := sr_in (List.mem_of_getElem? (i := 66) (by decide +kernel)) rfl
theorem lk_19 : Cond.instanceMethod objectInit ∈ sr_G := sr_in (List.mem_of_getElem? (i := 67) (by decide +kernel)) rfl
theorem lk_20 : Cond.code objectInit object_method_1_code 1 (Option.none : Option FieldType) ∈ sr_G := sr_in (List.mem_of_getElem? (i := 68) (by decide +kernel)) rfl
theorem lk_21 : Cond.classLink RX7 7 RX1 ∈ sr_G := sr_in (List.mem_of_getElem? (i := 69) (by decide +kernel)) rfl
theorem lk_22 : Cond.instantiable RX1 8 ∈ sr_G := sr_in (List.mem_of_getElem? (i := 70) (by decide +kernel)) rfl
theorem lk_23 : Cond.methodLink RX7 9 yX1_init ∈ sr_G := sr_in (List.mem_of_getElem? (i := 71) (by decide +kernel)) rfl
theorem lk_24 : Cond.instanceMethod yX1_init ∈ sr_G := sr_in (List.mem_of_getElem? (i := 72) (by decide +kernel)) rfl
theorem lk_25 : Cond.code yX1_init cX1_init 3 (Option.none : Option FieldType) ∈ sr_G := sr_in (List.mem_of_getElem? (i := 73) (by decide +kernel)) rfl
theorem lk_26 : Cond.methodLink RX1 3 objectInit ∈ sr_G := sr_in (List.mem_of_getElem? (i := 74) (by decide +kernel)) rfl
theorem lk_27 : Cond.classLink RX1 15 RX0 ∈ sr_G := sr_in (List.mem_of_getElem? (i := 75) (by decide +kernel)) rfl
theorem lk_28 : Cond.arrayOver (FieldType.object "StagedRollout$Change") ∈ lw_tbl := List.mem_of_getElem? (i := 76) (by decide +kernel)
theorem lk_29 : Cond.instantiable RX0 8 ∈ sr_G := sr_in (List.mem_of_getElem? (i := 77) (by decide +kernel)) rfl
theorem lk_30 : Cond.methodLink RX1 21 yX0_init ∈ sr_G := sr_in (List.mem_of_getElem? (i := 78) (by decide +kernel)) rfl
theorem lk_31 : Cond.instanceMethod yX0_init ∈ sr_G := sr_in (List.mem_of_getElem? (i := 79) (by decide +kernel)) rfl
theorem lk_32 : Cond.code yX0_init cX0_init 2 (Option.none : Option FieldType) ∈ sr_G := sr_in (List.mem_of_getElem? (i := 80) (by decide +kernel)) rfl
theorem lk_33 : Cond.methodLink RX0 3 objectInit ∈ sr_G := sr_in (List.mem_of_getElem? (i := 81) (by decide +kernel)) rfl
theorem lk_34 : Cond.classLink RX0 15 RX4 ∈ sr_G := sr_in (List.mem_of_getElem? (i := 82) (by decide +kernel)) rfl
theorem lk_35 : Cond.instantiable RX4 2 ∈ sr_G := sr_in (List.mem_of_getElem? (i := 83) (by decide +kernel)) rfl
theorem lk_36 : Cond.methodLink RX0 17 yX4_init ∈ sr_G := sr_in (List.mem_of_getElem? (i := 84) (by decide +kernel)) rfl
theorem lk_37 : Cond.instanceMethod yX4_init ∈ sr_G := sr_in (List.mem_of_getElem? (i := 85) (by decide +kernel)) rfl
theorem lk_38 : Cond.code yX4_init cX4_init 1 (Option.none : Option FieldType) ∈ sr_G := sr_in (List.mem_of_getElem? (i := 86) (by decide +kernel)) rfl
theorem lk_39 : Cond.methodLink RX4 3 objectInit ∈ sr_G := sr_in (List.mem_of_getElem? (i := 87) (by decide +kernel)) rfl
theorem lk_40 : Cond.fieldLink RX4 9 "StagedRollout$Plan" "numbers" "[I" ∈ sr_G := sr_in (List.mem_of_getElem? (i := 88) (by decide +kernel)) rfl
theorem lk_41 : Cond.fieldLink RX4 15 "StagedRollout$Plan" "size" "I" ∈ sr_G := sr_in (List.mem_of_getElem? (i := 89) (by decide +kernel)) rfl
theorem lk_42 : Cond.fieldLink RX0 46 "StagedRollout$Plan" "size" "I" ∈ sr_G := sr_in (List.mem_of_getElem? (i := 90) (by decide +kernel)) rfl
theorem lk_43 : Cond.fieldLink RX5 29 "StagedRollout$Plan" "size" "I" ∈ sr_G := sr_in (List.mem_of_getElem? (i := 91) (by decide +kernel)) rfl
theorem lk_44 : Cond.fieldLink RX7 94 "StagedRollout$Plan" "size" "I" ∈ sr_G := sr_in (List.mem_of_getElem? (i := 92) (by decide +kernel)) rfl
theorem lk_50 : Cond.arrayClass (FieldType.int) ∈ sr_G := sr_in (List.mem_of_getElem? (i := 98) (by decide +kernel)) rfl
theorem lk_51 : Cond.classLink RX0 22 RX6 ∈ sr_G := sr_in (List.mem_of_getElem? (i := 99) (by decide +kernel)) rfl
theorem lk_52 : Cond.instantiable RX6 6 ∈ sr_G := sr_in (List.mem_of_getElem? (i := 100) (by decide +kernel)) rfl
theorem lk_53 : Cond.methodLink RX0 24 yX6_init ∈ sr_G := sr_in (List.mem_of_getElem? (i := 101) (by decide +kernel)) rfl
theorem lk_54 : Cond.instanceMethod yX6_init ∈ sr_G := sr_in (List.mem_of_getElem? (i := 102) (by decide +kernel)) rfl
theorem lk_55 : Cond.code yX6_init cX6_init 1 (Option.none : Option FieldType) ∈ sr_G := sr_in (List.mem_of_getElem? (i := 103) (by decide +kernel)) rfl
theorem lk_56 : Cond.methodLink RX6 3 objectInit ∈ sr_G := sr_in (List.mem_of_getElem? (i := 104) (by decide +kernel)) rfl
theorem lk_57 : Cond.fieldLink RX6 18 "StagedRollout$Tally" "badTreated" "I" ∈ sr_G := sr_in (List.mem_of_getElem? (i := 105) (by decide +kernel)) rfl
theorem lk_58 : Cond.fieldLink RX7 172 "StagedRollout$Tally" "badTreated" "I" ∈ sr_G := sr_in (List.mem_of_getElem? (i := 106) (by decide +kernel)) rfl
theorem lk_59 : Cond.fieldLink RX6 22 "StagedRollout$Tally" "goodTreated" "I" ∈ sr_G := sr_in (List.mem_of_getElem? (i := 107) (by decide +kernel)) rfl
theorem lk_60 : Cond.fieldLink RX7 177 "StagedRollout$Tally" "goodTreated" "I" ∈ sr_G := sr_in (List.mem_of_getElem? (i := 108) (by decide +kernel)) rfl
theorem lk_61 : Cond.fieldLink RX6 25 "StagedRollout$Tally" "badControl" "I" ∈ sr_G := sr_in (List.mem_of_getElem? (i := 109) (by decide +kernel)) rfl
theorem lk_62 : Cond.fieldLink RX7 180 "StagedRollout$Tally" "badControl" "I" ∈ sr_G := sr_in (List.mem_of_getElem? (i := 110) (by decide +kernel)) rfl
theorem lk_63 : Cond.fieldLink RX6 28 "StagedRollout$Tally" "goodControl" "I" ∈ sr_G := sr_in (List.mem_of_getElem? (i := 111) (by decide +kernel)) rfl
theorem lk_64 : Cond.fieldLink RX7 183 "StagedRollout$Tally" "goodControl" "I" ∈ sr_G := sr_in (List.mem_of_getElem? (i := 112) (by decide +kernel)) rfl
theorem lk_65 : Cond.fieldLink RX6 9 "StagedRollout$Tally" "numerator" "J" ∈ sr_G := sr_in (List.mem_of_getElem? (i := 113) (by decide +kernel)) rfl
theorem lk_66 : Cond.fieldLink RX7 192 "StagedRollout$Tally" "numerator" "J" ∈ sr_G := sr_in (List.mem_of_getElem? (i := 114) (by decide +kernel)) rfl
theorem lk_67 : Cond.fieldLink RX6 15 "StagedRollout$Tally" "denominator" "J" ∈ sr_G := sr_in (List.mem_of_getElem? (i := 115) (by decide +kernel)) rfl
theorem lk_68 : Cond.fieldLink RX7 188 "StagedRollout$Tally" "denominator" "J" ∈ sr_G := sr_in (List.mem_of_getElem? (i := 116) (by decide +kernel)) rfl
theorem lk_82 : Cond.fieldLink RX0 9 "StagedRollout$Change" "number" "I" ∈ sr_G := sr_in (List.mem_of_getElem? (i := 130) (by decide +kernel)) rfl
theorem lk_83 : Cond.fieldLink RX1 124 "StagedRollout$Change" "number" "I" ∈ sr_G := sr_in (List.mem_of_getElem? (i := 131) (by decide +kernel)) rfl
theorem lk_84 : Cond.fieldLink RX0 18 "StagedRollout$Change" "plan" "LStagedRollout$Plan;" ∈ sr_G := sr_in (List.mem_of_getElem? (i := 132) (by decide +kernel)) rfl
theorem lk_85 : Cond.fieldLink RX7 82 "StagedRollout$Change" "plan" "LStagedRollout$Plan;" ∈ sr_G := sr_in (List.mem_of_getElem? (i := 133) (by decide +kernel)) rfl
theorem lk_86 : Cond.fieldLink RX0 25 "StagedRollout$Change" "tally" "LStagedRollout$Tally;" ∈ sr_G := sr_in (List.mem_of_getElem? (i := 134) (by decide +kernel)) rfl
theorem lk_87 : Cond.fieldLink RX1 153 "StagedRollout$Change" "tally" "LStagedRollout$Tally;" ∈ sr_G := sr_in (List.mem_of_getElem? (i := 135) (by decide +kernel)) rfl
theorem lk_88 : Cond.fieldLink RX7 168 "StagedRollout$Change" "tally" "LStagedRollout$Tally;" ∈ sr_G := sr_in (List.mem_of_getElem? (i := 136) (by decide +kernel)) rfl
theorem lk_89 : Cond.fieldLink RX0 29 "StagedRollout$Change" "begunAt" "[I" ∈ sr_G := sr_in (List.mem_of_getElem? (i := 137) (by decide +kernel)) rfl
theorem lk_90 : Cond.fieldLink RX0 37 "StagedRollout$Change" "doneFirst" "I" ∈ sr_G := sr_in (List.mem_of_getElem? (i := 138) (by decide +kernel)) rfl
theorem lk_91 : Cond.fieldLink RX7 95 "StagedRollout$Change" "doneFirst" "I" ∈ sr_G := sr_in (List.mem_of_getElem? (i := 139) (by decide +kernel)) rfl
theorem lk_92 : Cond.fieldLink RX1 111 "StagedRollout$Change" "doneFirst" "I" ∈ sr_G := sr_in (List.mem_of_getElem? (i := 140) (by decide +kernel)) rfl
theorem lk_93 : Cond.fieldLink RX0 40 "StagedRollout$Change" "state" "I" ∈ sr_G := sr_in (List.mem_of_getElem? (i := 141) (by decide +kernel)) rfl
theorem lk_94 : Cond.fieldLink RX7 77 "StagedRollout$Change" "state" "I" ∈ sr_G := sr_in (List.mem_of_getElem? (i := 142) (by decide +kernel)) rfl
theorem lk_95 : Cond.fieldLink RX1 77 "StagedRollout$Change" "state" "I" ∈ sr_G := sr_in (List.mem_of_getElem? (i := 143) (by decide +kernel)) rfl
theorem lk_96 : Cond.fieldLink RX0 43 "StagedRollout$Change" "begun" "I" ∈ sr_G := sr_in (List.mem_of_getElem? (i := 144) (by decide +kernel)) rfl
theorem lk_97 : Cond.fieldLink RX1 104 "StagedRollout$Change" "begun" "I" ∈ sr_G := sr_in (List.mem_of_getElem? (i := 145) (by decide +kernel)) rfl
theorem lk_98 : Cond.fieldLink RX7 132 "StagedRollout$Change" "begun" "I" ∈ sr_G := sr_in (List.mem_of_getElem? (i := 146) (by decide +kernel)) rfl
theorem lk_99 : Cond.fieldLink RX0 33 "StagedRollout$Change" "isRisky" "Z" ∈ sr_G := sr_in (List.mem_of_getElem? (i := 147) (by decide +kernel)) rfl
theorem lk_100 : Cond.fieldLink RX1 117 "StagedRollout$Change" "isRisky" "Z" ∈ sr_G := sr_in (List.mem_of_getElem? (i := 148) (by decide +kernel)) rfl
theorem lk_101 : Cond.fieldLink RX7 164 "StagedRollout$Change" "isRisky" "Z" ∈ sr_G := sr_in (List.mem_of_getElem? (i := 149) (by decide +kernel)) rfl
theorem lk_119 : Cond.classLink RX1 24 RX2 ∈ sr_G := sr_in (List.mem_of_getElem? (i := 167) (by decide +kernel)) rfl
theorem lk_120 : Cond.instantiable RX2 3 ∈ sr_G := sr_in (List.mem_of_getElem? (i := 168) (by decide +kernel)) rfl
theorem lk_121 : Cond.methodLink RX1 26 yX2_init ∈ sr_G := sr_in (List.mem_of_getElem? (i := 169) (by decide +kernel)) rfl
theorem lk_122 : Cond.instanceMethod yX2_init ∈ sr_G := sr_in (List.mem_of_getElem? (i := 170) (by decide +kernel)) rfl
theorem lk_123 : Cond.code yX2_init cX2_init 1 (Option.none : Option FieldType) ∈ sr_G := sr_in (List.mem_of_getElem? (i := 171) (by decide +kernel)) rfl
theorem lk_124 : Cond.methodLink RX2 3 objectInit ∈ sr_G := sr_in (List.mem_of_getElem? (i := 172) (by decide +kernel)) rfl
theorem lk_125 : Cond.fieldLink RX2 9 "StagedRollout$FrozenHours" "from" "[I" ∈ sr_G := sr_in (List.mem_of_getElem? (i := 173) (by decide +kernel)) rfl
theorem lk_126 : Cond.fieldLink RX2 15 "StagedRollout$FrozenHours" "to" "[I" ∈ sr_G := sr_in (List.mem_of_getElem? (i := 174) (by decide +kernel)) rfl
theorem lk_127 : Cond.fieldLink RX2 18 "StagedRollout$FrozenHours" "size" "I" ∈ sr_G := sr_in (List.mem_of_getElem? (i := 175) (by decide +kernel)) rfl
theorem lk_128 : Cond.fieldLink RX1 51 "StagedRollout$FrozenHours" "size" "I" ∈ sr_G := sr_in (List.mem_of_getElem? (i := 176) (by decide +kernel)) rfl
theorem lk_129 : Cond.fieldLink RX7 61 "StagedRollout$FrozenHours" "size" "I" ∈ sr_G := sr_in (List.mem_of_getElem? (i := 177) (by decide +kernel)) rfl
theorem lk_137 : Cond.classLink RX1 31 RX3 ∈ sr_G := sr_in (List.mem_of_getElem? (i := 185) (by decide +kernel)) rfl
theorem lk_138 : Cond.instantiable RX3 4 ∈ sr_G := sr_in (List.mem_of_getElem? (i := 186) (by decide +kernel)) rfl
theorem lk_139 : Cond.methodLink RX1 33 yX3_init ∈ sr_G := sr_in (List.mem_of_getElem? (i := 187) (by decide +kernel)) rfl
theorem lk_140 : Cond.instanceMethod yX3_init ∈ sr_G := sr_in (List.mem_of_getElem? (i := 188) (by decide +kernel)) rfl
theorem lk_141 : Cond.code yX3_init cX3_init 1 (Option.none : Option FieldType) ∈ sr_G := sr_in (List.mem_of_getElem? (i := 189) (by decide +kernel)) rfl
theorem lk_142 : Cond.methodLink RX3 3 objectInit ∈ sr_G := sr_in (List.mem_of_getElem? (i := 190) (by decide +kernel)) rfl
theorem lk_143 : Cond.fieldLink RX3 9 "StagedRollout$Log" "numbers" "[I" ∈ sr_G := sr_in (List.mem_of_getElem? (i := 191) (by decide +kernel)) rfl
theorem lk_144 : Cond.fieldLink RX3 15 "StagedRollout$Log" "oldest" "I" ∈ sr_G := sr_in (List.mem_of_getElem? (i := 192) (by decide +kernel)) rfl
theorem lk_145 : Cond.fieldLink RX3 19 "StagedRollout$Log" "size" "I" ∈ sr_G := sr_in (List.mem_of_getElem? (i := 193) (by decide +kernel)) rfl
theorem lk_146 : Cond.fieldLink RX7 207 "StagedRollout$Log" "size" "I" ∈ sr_G := sr_in (List.mem_of_getElem? (i := 194) (by decide +kernel)) rfl
theorem lk_147 : Cond.fieldLink RX3 26 "StagedRollout$Log" "received" "I" ∈ sr_G := sr_in (List.mem_of_getElem? (i := 195) (by decide +kernel)) rfl
theorem lk_148 : Cond.fieldLink RX7 146 "StagedRollout$Log" "received" "I" ∈ sr_G := sr_in (List.mem_of_getElem? (i := 196) (by decide +kernel)) rfl
theorem lk_158 : Cond.fieldLink RX1 17 "StagedRollout$Fleet" "list" "[LStagedRollout$Change;" ∈ sr_G := sr_in (List.mem_of_getElem? (i := 206) (by decide +kernel)) rfl
theorem lk_159 : Cond.fieldLink RX1 27 "StagedRollout$Fleet" "frozen" "LStagedRollout$FrozenHours;" ∈ sr_G := sr_in (List.mem_of_getElem? (i := 207) (by decide +kernel)) rfl
theorem lk_160 : Cond.fieldLink RX7 51 "StagedRollout$Fleet" "frozen" "LStagedRollout$FrozenHours;" ∈ sr_G := sr_in (List.mem_of_getElem? (i := 208) (by decide +kernel)) rfl
theorem lk_161 : Cond.fieldLink RX1 34 "StagedRollout$Fleet" "log" "LStagedRollout$Log;" ∈ sr_G := sr_in (List.mem_of_getElem? (i := 209) (by decide +kernel)) rfl
theorem lk_162 : Cond.fieldLink RX7 142 "StagedRollout$Fleet" "log" "LStagedRollout$Log;" ∈ sr_G := sr_in (List.mem_of_getElem? (i := 210) (by decide +kernel)) rfl
theorem lk_163 : Cond.fieldLink RX1 9 "StagedRollout$Fleet" "ignoresProbes" "Z" ∈ sr_G := sr_in (List.mem_of_getElem? (i := 211) (by decide +kernel)) rfl
theorem lk_164 : Cond.fieldLink RX1 45 "StagedRollout$Fleet" "size" "I" ∈ sr_G := sr_in (List.mem_of_getElem? (i := 212) (by decide +kernel)) rfl
theorem lk_165 : Cond.fieldLink RX7 68 "StagedRollout$Fleet" "size" "I" ∈ sr_G := sr_in (List.mem_of_getElem? (i := 213) (by decide +kernel)) rfl
theorem lk_166 : Cond.fieldLink RX1 38 "StagedRollout$Fleet" "cells" "I" ∈ sr_G := sr_in (List.mem_of_getElem? (i := 214) (by decide +kernel)) rfl
theorem lk_167 : Cond.fieldLink RX7 40 "StagedRollout$Fleet" "cells" "I" ∈ sr_G := sr_in (List.mem_of_getElem? (i := 215) (by decide +kernel)) rfl
theorem lk_168 : Cond.fieldLink RX1 48 "StagedRollout$Fleet" "hour" "I" ∈ sr_G := sr_in (List.mem_of_getElem? (i := 216) (by decide +kernel)) rfl
theorem lk_169 : Cond.fieldLink RX7 154 "StagedRollout$Fleet" "hour" "I" ∈ sr_G := sr_in (List.mem_of_getElem? (i := 217) (by decide +kernel)) rfl
theorem lk_170 : Cond.fieldLink RX1 42 "StagedRollout$Fleet" "limit" "I" ∈ sr_G := sr_in (List.mem_of_getElem? (i := 218) (by decide +kernel)) rfl
theorem lk_171 : Cond.fieldLink RX7 48 "StagedRollout$Fleet" "limit" "I" ∈ sr_G := sr_in (List.mem_of_getElem? (i := 219) (by decide +kernel)) rfl
theorem lk_189 : Cond.arrayOver (FieldType.object "StagedRollout$Fleet") ∈ lw_tbl := List.mem_of_getElem? (i := 237) (by decide +kernel)
theorem lk_190 : Cond.classLink RX7 29 RX5 ∈ sr_G := sr_in (List.mem_of_getElem? (i := 238) (by decide +kernel)) rfl
theorem lk_191 : Cond.instantiable RX5 4 ∈ sr_G := sr_in (List.mem_of_getElem? (i := 239) (by decide +kernel)) rfl
theorem lk_192 : Cond.methodLink RX7 31 yX5_init ∈ sr_G := sr_in (List.mem_of_getElem? (i := 240) (by decide +kernel)) rfl
theorem lk_193 : Cond.instanceMethod yX5_init ∈ sr_G := sr_in (List.mem_of_getElem? (i := 241) (by decide +kernel)) rfl
theorem lk_194 : Cond.code yX5_init cX5_init 1 (Option.none : Option FieldType) ∈ sr_G := sr_in (List.mem_of_getElem? (i := 242) (by decide +kernel)) rfl
theorem lk_195 : Cond.methodLink RX5 3 objectInit ∈ sr_G := sr_in (List.mem_of_getElem? (i := 243) (by decide +kernel)) rfl
theorem lk_196 : Cond.classLink RX5 15 RX4 ∈ sr_G := sr_in (List.mem_of_getElem? (i := 244) (by decide +kernel)) rfl
theorem lk_197 : Cond.methodLink RX5 17 yX4_init ∈ sr_G := sr_in (List.mem_of_getElem? (i := 245) (by decide +kernel)) rfl
theorem lk_198 : Cond.fieldLink RX5 9 "StagedRollout$PlanText" "letters" "[B" ∈ sr_G := sr_in (List.mem_of_getElem? (i := 246) (by decide +kernel)) rfl
theorem lk_199 : Cond.fieldLink RX5 18 "StagedRollout$PlanText" "plan" "LStagedRollout$Plan;" ∈ sr_G := sr_in (List.mem_of_getElem? (i := 247) (by decide +kernel)) rfl
theorem lk_200 : Cond.fieldLink RX7 119 "StagedRollout$PlanText" "plan" "LStagedRollout$Plan;" ∈ sr_G := sr_in (List.mem_of_getElem? (i := 248) (by decide +kernel)) rfl
theorem lk_201 : Cond.fieldLink RX5 22 "StagedRollout$PlanText" "length" "I" ∈ sr_G := sr_in (List.mem_of_getElem? (i := 249) (by decide +kernel)) rfl
theorem lk_202 : Cond.fieldLink RX7 110 "StagedRollout$PlanText" "length" "I" ∈ sr_G := sr_in (List.mem_of_getElem? (i := 250) (by decide +kernel)) rfl
theorem lk_203 : Cond.fieldLink RX5 26 "StagedRollout$PlanText" "at" "I" ∈ sr_G := sr_in (List.mem_of_getElem? (i := 251) (by decide +kernel)) rfl
theorem lk_204 : Cond.fieldLink RX7 116 "StagedRollout$PlanText" "at" "I" ∈ sr_G := sr_in (List.mem_of_getElem? (i := 252) (by decide +kernel)) rfl
theorem lk_214 : Cond.arrayClass (FieldType.boolean) ∈ sr_G := sr_in (List.mem_of_getElem? (i := 262) (by decide +kernel)) rfl
theorem lk_215 : Cond.arrayClass (FieldType.byte) ∈ sr_G := sr_in (List.mem_of_getElem? (i := 263) (by decide +kernel)) rfl
theorem lk_216 : Cond.fieldLink RX7 12 "StagedRollout" "fleet" "LStagedRollout$Fleet;" ∈ sr_G := sr_in (List.mem_of_getElem? (i := 264) (by decide +kernel)) rfl
theorem lk_217 : Cond.fieldLink RX7 18 "StagedRollout" "trial" "LStagedRollout$Fleet;" ∈ sr_G := sr_in (List.mem_of_getElem? (i := 265) (by decide +kernel)) rfl
theorem lk_218 : Cond.fieldLink RX7 21 "StagedRollout" "slots" "[LStagedRollout$Fleet;" ∈ sr_G := sr_in (List.mem_of_getElem? (i := 266) (by decide +kernel)) rfl
theorem lk_219 : Cond.fieldLink RX7 25 "StagedRollout" "isKept" "[Z" ∈ sr_G := sr_in (List.mem_of_getElem? (i := 267) (by decide +kernel)) rfl
theorem lk_220 : Cond.fieldLink RX7 32 "StagedRollout" "text" "LStagedRollout$PlanText;" ∈ sr_G := sr_in (List.mem_of_getElem? (i := 268) (by decide +kernel)) rfl
theorem lk_232 : Cond.methodLink RL 13 yX7_begin ∈ sr_G := sr_in (List.mem_of_getElem? (i := 280) (by decide +kernel)) rfl
theorem lk_233 : Cond.instanceMethod yX7_begin ∈ sr_G := sr_in (List.mem_of_getElem? (i := 281) (by decide +kernel)) rfl
theorem lk_234 : Cond.selects RX7 yX7_begin yX7_begin ∈ sr_G := sr_in (List.mem_of_getElem? (i := 282) (by decide +kernel)) rfl
theorem lk_235 : Cond.code yX7_begin cX7_begin 3 (Option.some FieldType.int) ∈ sr_G := sr_in (List.mem_of_getElem? (i := 283) (by decide +kernel)) rfl
theorem lk_236 : Cond.methodLink RX7 36 yX7_isWithin ∈ sr_G := sr_in (List.mem_of_getElem? (i := 284) (by decide +kernel)) rfl
theorem lk_237 : Cond.static yX7_isWithin ∈ sr_G := sr_in (List.mem_of_getElem? (i := 285) (by decide +kernel)) rfl
theorem lk_238 : Cond.code yX7_isWithin cX7_isWithin 3 (Option.some FieldType.boolean) ∈ sr_G := sr_in (List.mem_of_getElem? (i := 286) (by decide +kernel)) rfl
theorem lk_239 : Cond.methodLink RX7 44 yX1_beginAnew ∈ sr_G := sr_in (List.mem_of_getElem? (i := 287) (by decide +kernel)) rfl
theorem lk_240 : Cond.instanceMethod yX1_beginAnew ∈ sr_G := sr_in (List.mem_of_getElem? (i := 288) (by decide +kernel)) rfl
theorem lk_241 : Cond.selects RX1 yX1_beginAnew yX1_beginAnew ∈ sr_G := sr_in (List.mem_of_getElem? (i := 289) (by decide +kernel)) rfl
theorem lk_242 : Cond.code yX1_beginAnew cX1_beginAnew 2 (Option.none : Option FieldType) ∈ sr_G := sr_in (List.mem_of_getElem? (i := 290) (by decide +kernel)) rfl
theorem lk_243 : Cond.methodLink RX1 52 yX3_empty ∈ sr_G := sr_in (List.mem_of_getElem? (i := 291) (by decide +kernel)) rfl
theorem lk_244 : Cond.instanceMethod yX3_empty ∈ sr_G := sr_in (List.mem_of_getElem? (i := 292) (by decide +kernel)) rfl
theorem lk_245 : Cond.selects RX3 yX3_empty yX3_empty ∈ sr_G := sr_in (List.mem_of_getElem? (i := 293) (by decide +kernel)) rfl
theorem lk_246 : Cond.code yX3_empty cX3_empty 1 (Option.none : Option FieldType) ∈ sr_G := sr_in (List.mem_of_getElem? (i := 294) (by decide +kernel)) rfl
theorem lk_247 : Cond.methodLink RL 18 yX7_setLimit ∈ sr_G := sr_in (List.mem_of_getElem? (i := 295) (by decide +kernel)) rfl
theorem lk_248 : Cond.instanceMethod yX7_setLimit ∈ sr_G := sr_in (List.mem_of_getElem? (i := 296) (by decide +kernel)) rfl
theorem lk_249 : Cond.selects RX7 yX7_setLimit yX7_setLimit ∈ sr_G := sr_in (List.mem_of_getElem? (i := 297) (by decide +kernel)) rfl
theorem lk_250 : Cond.code yX7_setLimit cX7_setLimit 3 (Option.some FieldType.int) ∈ sr_G := sr_in (List.mem_of_getElem? (i := 298) (by decide +kernel)) rfl
theorem lk_251 : Cond.methodLink RL 22 yX7_freeze ∈ sr_G := sr_in (List.mem_of_getElem? (i := 299) (by decide +kernel)) rfl
theorem lk_252 : Cond.instanceMethod yX7_freeze ∈ sr_G := sr_in (List.mem_of_getElem? (i := 300) (by decide +kernel)) rfl
theorem lk_253 : Cond.selects RX7 yX7_freeze yX7_freeze ∈ sr_G := sr_in (List.mem_of_getElem? (i := 301) (by decide +kernel)) rfl
theorem lk_254 : Cond.code yX7_freeze cX7_freeze 3 (Option.some FieldType.int) ∈ sr_G := sr_in (List.mem_of_getElem? (i := 302) (by decide +kernel)) rfl
theorem lk_255 : Cond.methodLink RX7 55 yX2_put ∈ sr_G := sr_in (List.mem_of_getElem? (i := 303) (by decide +kernel)) rfl
theorem lk_256 : Cond.instanceMethod yX2_put ∈ sr_G := sr_in (List.mem_of_getElem? (i := 304) (by decide +kernel)) rfl
theorem lk_257 : Cond.selects RX2 yX2_put yX2_put ∈ sr_G := sr_in (List.mem_of_getElem? (i := 305) (by decide +kernel)) rfl
theorem lk_258 : Cond.code yX2_put cX2_put 3 (Option.some FieldType.boolean) ∈ sr_G := sr_in (List.mem_of_getElem? (i := 306) (by decide +kernel)) rfl
theorem lk_259 : Cond.methodLink RL 27 yX7_thaw ∈ sr_G := sr_in (List.mem_of_getElem? (i := 307) (by decide +kernel)) rfl
theorem lk_260 : Cond.instanceMethod yX7_thaw ∈ sr_G := sr_in (List.mem_of_getElem? (i := 308) (by decide +kernel)) rfl
theorem lk_261 : Cond.selects RX7 yX7_thaw yX7_thaw ∈ sr_G := sr_in (List.mem_of_getElem? (i := 309) (by decide +kernel)) rfl
theorem lk_262 : Cond.code yX7_thaw cX7_thaw 2 (Option.some FieldType.int) ∈ sr_G := sr_in (List.mem_of_getElem? (i := 310) (by decide +kernel)) rfl
theorem lk_263 : Cond.methodLink RL 32 yX7_addChange ∈ sr_G := sr_in (List.mem_of_getElem? (i := 311) (by decide +kernel)) rfl
theorem lk_264 : Cond.instanceMethod yX7_addChange ∈ sr_G := sr_in (List.mem_of_getElem? (i := 312) (by decide +kernel)) rfl
theorem lk_265 : Cond.selects RX7 yX7_addChange yX7_addChange ∈ sr_G := sr_in (List.mem_of_getElem? (i := 313) (by decide +kernel)) rfl
theorem lk_266 : Cond.code yX7_addChange cX7_addChange 2 (Option.some FieldType.int) ∈ sr_G := sr_in (List.mem_of_getElem? (i := 314) (by decide +kernel)) rfl
theorem lk_267 : Cond.methodLink RX7 64 yX1_putChange ∈ sr_G := sr_in (List.mem_of_getElem? (i := 315) (by decide +kernel)) rfl
theorem lk_268 : Cond.instanceMethod yX1_putChange ∈ sr_G := sr_in (List.mem_of_getElem? (i := 316) (by decide +kernel)) rfl
theorem lk_269 : Cond.selects RX1 yX1_putChange yX1_putChange ∈ sr_G := sr_in (List.mem_of_getElem? (i := 317) (by decide +kernel)) rfl
theorem lk_270 : Cond.code yX1_putChange cX1_putChange 2 (Option.some FieldType.boolean) ∈ sr_G := sr_in (List.mem_of_getElem? (i := 318) (by decide +kernel)) rfl
theorem lk_271 : Cond.methodLink RX1 65 yX0_makeNew ∈ sr_G := sr_in (List.mem_of_getElem? (i := 319) (by decide +kernel)) rfl
theorem lk_272 : Cond.instanceMethod yX0_makeNew ∈ sr_G := sr_in (List.mem_of_getElem? (i := 320) (by decide +kernel)) rfl
theorem lk_273 : Cond.selects RX0 yX0_makeNew yX0_makeNew ∈ sr_G := sr_in (List.mem_of_getElem? (i := 321) (by decide +kernel)) rfl
theorem lk_274 : Cond.code yX0_makeNew cX0_makeNew 2 (Option.none : Option FieldType) ∈ sr_G := sr_in (List.mem_of_getElem? (i := 322) (by decide +kernel)) rfl
theorem lk_275 : Cond.methodLink RX0 49 yX6_empty ∈ sr_G := sr_in (List.mem_of_getElem? (i := 323) (by decide +kernel)) rfl
theorem lk_276 : Cond.instanceMethod yX6_empty ∈ sr_G := sr_in (List.mem_of_getElem? (i := 324) (by decide +kernel)) rfl
theorem lk_277 : Cond.selects RX6 yX6_empty yX6_empty ∈ sr_G := sr_in (List.mem_of_getElem? (i := 325) (by decide +kernel)) rfl
theorem lk_278 : Cond.code yX6_empty cX6_empty 1 (Option.none : Option FieldType) ∈ sr_G := sr_in (List.mem_of_getElem? (i := 326) (by decide +kernel)) rfl
theorem lk_279 : Cond.methodLink RL 37 yX7_addStage ∈ sr_G := sr_in (List.mem_of_getElem? (i := 327) (by decide +kernel)) rfl
theorem lk_280 : Cond.instanceMethod yX7_addStage ∈ sr_G := sr_in (List.mem_of_getElem? (i := 328) (by decide +kernel)) rfl
theorem lk_281 : Cond.selects RX7 yX7_addStage yX7_addStage ∈ sr_G := sr_in (List.mem_of_getElem? (i := 329) (by decide +kernel)) rfl
theorem lk_282 : Cond.code yX7_addStage cX7_addStage 6 (Option.some FieldType.int) ∈ sr_G := sr_in (List.mem_of_getElem? (i := 330) (by decide +kernel)) rfl
theorem lk_283 : Cond.methodLink RX7 69 yX1_find ∈ sr_G := sr_in (List.mem_of_getElem? (i := 331) (by decide +kernel)) rfl
theorem lk_284 : Cond.instanceMethod yX1_find ∈ sr_G := sr_in (List.mem_of_getElem? (i := 332) (by decide +kernel)) rfl
theorem lk_285 : Cond.selects RX1 yX1_find yX1_find ∈ sr_G := sr_in (List.mem_of_getElem? (i := 333) (by decide +kernel)) rfl
theorem lk_286 : Cond.code yX1_find cX1_find 2 (Option.some (FieldType.object "StagedRollout$Change")) ∈ sr_G := sr_in (List.mem_of_getElem? (i := 334) (by decide +kernel)) rfl
theorem lk_287 : Cond.methodLink RX7 73 yX1_allCells ∈ sr_G := sr_in (List.mem_of_getElem? (i := 335) (by decide +kernel)) rfl
theorem lk_288 : Cond.instanceMethod yX1_allCells ∈ sr_G := sr_in (List.mem_of_getElem? (i := 336) (by decide +kernel)) rfl
theorem lk_289 : Cond.selects RX1 yX1_allCells yX1_allCells ∈ sr_G := sr_in (List.mem_of_getElem? (i := 337) (by decide +kernel)) rfl
theorem lk_290 : Cond.code yX1_allCells cX1_allCells 1 (Option.some FieldType.int) ∈ sr_G := sr_in (List.mem_of_getElem? (i := 338) (by decide +kernel)) rfl
theorem lk_291 : Cond.methodLink RX7 86 yX4_cellsOfFirst ∈ sr_G := sr_in (List.mem_of_getElem? (i := 339) (by decide +kernel)) rfl
theorem lk_292 : Cond.instanceMethod yX4_cellsOfFirst ∈ sr_G := sr_in (List.mem_of_getElem? (i := 340) (by decide +kernel)) rfl
theorem lk_293 : Cond.selects RX4 yX4_cellsOfFirst yX4_cellsOfFirst ∈ sr_G := sr_in (List.mem_of_getElem? (i := 341) (by decide +kernel)) rfl
theorem lk_294 : Cond.code yX4_cellsOfFirst cX4_cellsOfFirst 4 (Option.some FieldType.int) ∈ sr_G := sr_in (List.mem_of_getElem? (i := 342) (by decide +kernel)) rfl
theorem lk_295 : Cond.methodLink RX7 92 yX4_put ∈ sr_G := sr_in (List.mem_of_getElem? (i := 343) (by decide +kernel)) rfl
theorem lk_296 : Cond.instanceMethod yX4_put ∈ sr_G := sr_in (List.mem_of_getElem? (i := 344) (by decide +kernel)) rfl
theorem lk_297 : Cond.selects RX4 yX4_put yX4_put ∈ sr_G := sr_in (List.mem_of_getElem? (i := 345) (by decide +kernel)) rfl
theorem lk_298 : Cond.code yX4_put cX4_put 5 (Option.some FieldType.boolean) ∈ sr_G := sr_in (List.mem_of_getElem? (i := 346) (by decide +kernel)) rfl
theorem lk_299 : Cond.methodLink RL 42 yX7_putAfter ∈ sr_G := sr_in (List.mem_of_getElem? (i := 347) (by decide +kernel)) rfl
theorem lk_300 : Cond.instanceMethod yX7_putAfter ∈ sr_G := sr_in (List.mem_of_getElem? (i := 348) (by decide +kernel)) rfl
theorem lk_301 : Cond.selects RX7 yX7_putAfter yX7_putAfter ∈ sr_G := sr_in (List.mem_of_getElem? (i := 349) (by decide +kernel)) rfl
theorem lk_302 : Cond.code yX7_putAfter cX7_putAfter 4 (Option.some FieldType.int) ∈ sr_G := sr_in (List.mem_of_getElem? (i := 350) (by decide +kernel)) rfl
theorem lk_303 : Cond.methodLink RX7 98 yJ6_bitCount_0f7a4 ∈ sr_G := sr_in (List.mem_of_getElem? (i := 351) (by decide +kernel)) rfl
theorem lk_304 : Cond.static yJ6_bitCount_0f7a4 ∈ sr_G := sr_in (List.mem_of_getElem? (i := 352) (by decide +kernel)) rfl
theorem lk_305 : Cond.code yJ6_bitCount_0f7a4 cJ6_bitCount_0f7a4 1 (Option.some FieldType.int) ∈ sr_G := sr_in (List.mem_of_getElem? (i := 353) (by decide +kernel)) rfl
theorem lk_306 : Cond.constant RJ6 265 1431655765 ∈ sr_G := sr_in (List.mem_of_getElem? (i := 354) (by decide +kernel)) rfl
theorem lk_307 : Cond.constant RJ6 266 858993459 ∈ sr_G := sr_in (List.mem_of_getElem? (i := 355) (by decide +kernel)) rfl
theorem lk_308 : Cond.constant RJ6 267 252645135 ∈ sr_G := sr_in (List.mem_of_getElem? (i := 356) (by decide +kernel)) rfl
theorem lk_309 : Cond.methodLink RL 46 yX7_changes ∈ sr_G := sr_in (List.mem_of_getElem? (i := 357) (by decide +kernel)) rfl
theorem lk_310 : Cond.instanceMethod yX7_changes ∈ sr_G := sr_in (List.mem_of_getElem? (i := 358) (by decide +kernel)) rfl
theorem lk_311 : Cond.selects RX7 yX7_changes yX7_changes ∈ sr_G := sr_in (List.mem_of_getElem? (i := 359) (by decide +kernel)) rfl
theorem lk_312 : Cond.code yX7_changes cX7_changes 1 (Option.some FieldType.int) ∈ sr_G := sr_in (List.mem_of_getElem? (i := 360) (by decide +kernel)) rfl
theorem lk_313 : Cond.methodLink RL 50 yX7_stage ∈ sr_G := sr_in (List.mem_of_getElem? (i := 361) (by decide +kernel)) rfl
theorem lk_314 : Cond.instanceMethod yX7_stage ∈ sr_G := sr_in (List.mem_of_getElem? (i := 362) (by decide +kernel)) rfl
theorem lk_315 : Cond.selects RX7 yX7_stage yX7_stage ∈ sr_G := sr_in (List.mem_of_getElem? (i := 363) (by decide +kernel)) rfl
theorem lk_316 : Cond.code yX7_stage cX7_stage 5 (Option.some FieldType.int) ∈ sr_G := sr_in (List.mem_of_getElem? (i := 364) (by decide +kernel)) rfl
theorem lk_317 : Cond.methodLink RX7 103 yX4_number ∈ sr_G := sr_in (List.mem_of_getElem? (i := 365) (by decide +kernel)) rfl
theorem lk_318 : Cond.instanceMethod yX4_number ∈ sr_G := sr_in (List.mem_of_getElem? (i := 366) (by decide +kernel)) rfl
theorem lk_319 : Cond.selects RX4 yX4_number yX4_number ∈ sr_G := sr_in (List.mem_of_getElem? (i := 367) (by decide +kernel)) rfl
theorem lk_320 : Cond.code yX4_number cX4_number 5 (Option.some FieldType.int) ∈ sr_G := sr_in (List.mem_of_getElem? (i := 368) (by decide +kernel)) rfl
theorem lk_321 : Cond.methodLinkNest RX4 19 yX7_isWithin RX7 ∈ lw_tbl := List.mem_of_getElem? (i := 369) (by decide +kernel)
theorem lk_322 : Cond.methodLink RL 55 yX7_append ∈ sr_G := sr_in (List.mem_of_getElem? (i := 370) (by decide +kernel)) rfl
theorem lk_323 : Cond.instanceMethod yX7_append ∈ sr_G := sr_in (List.mem_of_getElem? (i := 371) (by decide +kernel)) rfl
theorem lk_324 : Cond.selects RX7 yX7_append yX7_append ∈ sr_G := sr_in (List.mem_of_getElem? (i := 372) (by decide +kernel)) rfl
theorem lk_325 : Cond.code yX7_append cX7_append 2 (Option.some FieldType.int) ∈ sr_G := sr_in (List.mem_of_getElem? (i := 373) (by decide +kernel)) rfl
theorem lk_326 : Cond.methodLink RX7 107 yX5_put ∈ sr_G := sr_in (List.mem_of_getElem? (i := 374) (by decide +kernel)) rfl
theorem lk_327 : Cond.instanceMethod yX5_put ∈ sr_G := sr_in (List.mem_of_getElem? (i := 375) (by decide +kernel)) rfl
theorem lk_328 : Cond.selects RX5 yX5_put yX5_put ∈ sr_G := sr_in (List.mem_of_getElem? (i := 376) (by decide +kernel)) rfl
theorem lk_329 : Cond.code yX5_put cX5_put 2 (Option.some FieldType.boolean) ∈ sr_G := sr_in (List.mem_of_getElem? (i := 377) (by decide +kernel)) rfl
theorem lk_330 : Cond.methodLink RL 59 yX7_clearText ∈ sr_G := sr_in (List.mem_of_getElem? (i := 378) (by decide +kernel)) rfl
theorem lk_331 : Cond.instanceMethod yX7_clearText ∈ sr_G := sr_in (List.mem_of_getElem? (i := 379) (by decide +kernel)) rfl
theorem lk_332 : Cond.selects RX7 yX7_clearText yX7_clearText ∈ sr_G := sr_in (List.mem_of_getElem? (i := 380) (by decide +kernel)) rfl
theorem lk_333 : Cond.code yX7_clearText cX7_clearText 2 (Option.some FieldType.int) ∈ sr_G := sr_in (List.mem_of_getElem? (i := 381) (by decide +kernel)) rfl
theorem lk_334 : Cond.methodLink RL 63 yX7_faultPosition ∈ sr_G := sr_in (List.mem_of_getElem? (i := 382) (by decide +kernel)) rfl
theorem lk_335 : Cond.instanceMethod yX7_faultPosition ∈ sr_G := sr_in (List.mem_of_getElem? (i := 383) (by decide +kernel)) rfl
theorem lk_336 : Cond.selects RX7 yX7_faultPosition yX7_faultPosition ∈ sr_G := sr_in (List.mem_of_getElem? (i := 384) (by decide +kernel)) rfl
theorem lk_337 : Cond.code yX7_faultPosition cX7_faultPosition 1 (Option.some FieldType.int) ∈ sr_G := sr_in (List.mem_of_getElem? (i := 385) (by decide +kernel)) rfl
theorem lk_338 : Cond.methodLink RX7 113 yX5_parse ∈ sr_G := sr_in (List.mem_of_getElem? (i := 386) (by decide +kernel)) rfl
theorem lk_339 : Cond.instanceMethod yX5_parse ∈ sr_G := sr_in (List.mem_of_getElem? (i := 387) (by decide +kernel)) rfl
theorem lk_340 : Cond.selects RX5 yX5_parse yX5_parse ∈ sr_G := sr_in (List.mem_of_getElem? (i := 388) (by decide +kernel)) rfl
theorem lk_341 : Cond.code yX5_parse cX5_parse 3 (Option.some FieldType.boolean) ∈ sr_G := sr_in (List.mem_of_getElem? (i := 389) (by decide +kernel)) rfl
theorem lk_342 : Cond.methodLink RX5 32 yX5_parseStage ∈ sr_G := sr_in (List.mem_of_getElem? (i := 390) (by decide +kernel)) rfl
theorem lk_344 : Cond.instanceMethod yX5_parseStage ∈ sr_G := sr_in (List.mem_of_getElem? (i := 392) (by decide +kernel)) rfl
theorem lk_345 : Cond.code yX5_parseStage cX5_parseStage 5 (Option.some FieldType.boolean) ∈ sr_G := sr_in (List.mem_of_getElem? (i := 393) (by decide +kernel)) rfl
theorem lk_346 : Cond.methodLink RX5 36 yX5_parseCells ∈ sr_G := sr_in (List.mem_of_getElem? (i := 394) (by decide +kernel)) rfl
theorem lk_348 : Cond.instanceMethod yX5_parseCells ∈ sr_G := sr_in (List.mem_of_getElem? (i := 396) (by decide +kernel)) rfl
theorem lk_349 : Cond.code yX5_parseCells cX5_parseCells 7 (Option.some FieldType.int) ∈ sr_G := sr_in (List.mem_of_getElem? (i := 397) (by decide +kernel)) rfl
theorem lk_350 : Cond.methodLink RX5 51 yX4_cellsOfFirst ∈ sr_G := sr_in (List.mem_of_getElem? (i := 398) (by decide +kernel)) rfl
theorem lk_351 : Cond.methodLink RX5 54 yX5_digitAt ∈ sr_G := sr_in (List.mem_of_getElem? (i := 399) (by decide +kernel)) rfl
theorem lk_353 : Cond.instanceMethod yX5_digitAt ∈ sr_G := sr_in (List.mem_of_getElem? (i := 401) (by decide +kernel)) rfl
theorem lk_354 : Cond.code yX5_digitAt cX5_digitAt 3 (Option.some FieldType.int) ∈ sr_G := sr_in (List.mem_of_getElem? (i := 402) (by decide +kernel)) rfl
theorem lk_355 : Cond.methodLink RX5 57 yX5_letterAt ∈ sr_G := sr_in (List.mem_of_getElem? (i := 403) (by decide +kernel)) rfl
theorem lk_357 : Cond.instanceMethod yX5_letterAt ∈ sr_G := sr_in (List.mem_of_getElem? (i := 405) (by decide +kernel)) rfl
theorem lk_358 : Cond.code yX5_letterAt cX5_letterAt 2 (Option.some FieldType.int) ∈ sr_G := sr_in (List.mem_of_getElem? (i := 406) (by decide +kernel)) rfl
theorem lk_359 : Cond.methodLinkNest RX5 60 yX7_isWithin RX7 ∈ lw_tbl := List.mem_of_getElem? (i := 407) (by decide +kernel)
theorem lk_360 : Cond.methodLink RX5 40 yX5_skip ∈ sr_G := sr_in (List.mem_of_getElem? (i := 408) (by decide +kernel)) rfl
theorem lk_362 : Cond.instanceMethod yX5_skip ∈ sr_G := sr_in (List.mem_of_getElem? (i := 410) (by decide +kernel)) rfl
theorem lk_363 : Cond.code yX5_skip cX5_skip 2 (Option.some FieldType.boolean) ∈ sr_G := sr_in (List.mem_of_getElem? (i := 411) (by decide +kernel)) rfl
theorem lk_364 : Cond.methodLink RX5 44 yX5_parseNumber ∈ sr_G := sr_in (List.mem_of_getElem? (i := 412) (by decide +kernel)) rfl
theorem lk_366 : Cond.instanceMethod yX5_parseNumber ∈ sr_G := sr_in (List.mem_of_getElem? (i := 414) (by decide +kernel)) rfl
theorem lk_367 : Cond.code yX5_parseNumber cX5_parseNumber 5 (Option.some FieldType.int) ∈ sr_G := sr_in (List.mem_of_getElem? (i := 415) (by decide +kernel)) rfl
theorem lk_368 : Cond.methodLink RX5 47 yX4_put ∈ sr_G := sr_in (List.mem_of_getElem? (i := 416) (by decide +kernel)) rfl
theorem lk_369 : Cond.methodLink RL 67 yX7_read ∈ sr_G := sr_in (List.mem_of_getElem? (i := 417) (by decide +kernel)) rfl
theorem lk_370 : Cond.instanceMethod yX7_read ∈ sr_G := sr_in (List.mem_of_getElem? (i := 418) (by decide +kernel)) rfl
theorem lk_371 : Cond.selects RX7 yX7_read yX7_read ∈ sr_G := sr_in (List.mem_of_getElem? (i := 419) (by decide +kernel)) rfl
theorem lk_372 : Cond.code yX7_read cX7_read 3 (Option.some FieldType.int) ∈ sr_G := sr_in (List.mem_of_getElem? (i := 420) (by decide +kernel)) rfl
theorem lk_373 : Cond.methodLink RX7 120 yX4_copyFrom ∈ sr_G := sr_in (List.mem_of_getElem? (i := 421) (by decide +kernel)) rfl
theorem lk_374 : Cond.instanceMethod yX4_copyFrom ∈ sr_G := sr_in (List.mem_of_getElem? (i := 422) (by decide +kernel)) rfl
theorem lk_375 : Cond.selects RX4 yX4_copyFrom yX4_copyFrom ∈ sr_G := sr_in (List.mem_of_getElem? (i := 423) (by decide +kernel)) rfl
theorem lk_376 : Cond.code yX4_copyFrom cX4_copyFrom 2 (Option.none : Option FieldType) ∈ sr_G := sr_in (List.mem_of_getElem? (i := 424) (by decide +kernel)) rfl
theorem lk_377 : Cond.methodLink RX4 23 arraycopyName ∈ sr_G := sr_in (List.mem_of_getElem? (i := 425) (by decide +kernel)) rfl
theorem lk_378 : Cond.static arraycopyName ∈ sr_G := sr_in (List.mem_of_getElem? (i := 426) (by decide +kernel)) rfl
theorem lk_379 : Cond.native arraycopyName ∈ sr_G := sr_in (List.mem_of_getElem? (i := 427) (by decide +kernel)) rfl
theorem lk_380 : Cond.methodLink RL 71 yX7_start ∈ sr_G := sr_in (List.mem_of_getElem? (i := 428) (by decide +kernel)) rfl
theorem lk_381 : Cond.instanceMethod yX7_start ∈ sr_G := sr_in (List.mem_of_getElem? (i := 429) (by decide +kernel)) rfl
theorem lk_382 : Cond.selects RX7 yX7_start yX7_start ∈ sr_G := sr_in (List.mem_of_getElem? (i := 430) (by decide +kernel)) rfl
theorem lk_383 : Cond.code yX7_start cX7_start 3 (Option.some FieldType.int) ∈ sr_G := sr_in (List.mem_of_getElem? (i := 431) (by decide +kernel)) rfl
theorem lk_384 : Cond.methodLink RL 75 yX7_hold ∈ sr_G := sr_in (List.mem_of_getElem? (i := 432) (by decide +kernel)) rfl
theorem lk_385 : Cond.instanceMethod yX7_hold ∈ sr_G := sr_in (List.mem_of_getElem? (i := 433) (by decide +kernel)) rfl
theorem lk_386 : Cond.selects RX7 yX7_hold yX7_hold ∈ sr_G := sr_in (List.mem_of_getElem? (i := 434) (by decide +kernel)) rfl
theorem lk_387 : Cond.code yX7_hold cX7_hold 2 (Option.some FieldType.int) ∈ sr_G := sr_in (List.mem_of_getElem? (i := 435) (by decide +kernel)) rfl
theorem lk_388 : Cond.methodLink RX7 124 yX7_move ∈ sr_G := sr_in (List.mem_of_getElem? (i := 436) (by decide +kernel)) rfl
theorem lk_390 : Cond.instanceMethod yX7_move ∈ sr_G := sr_in (List.mem_of_getElem? (i := 438) (by decide +kernel)) rfl
theorem lk_391 : Cond.code yX7_move cX7_move 6 (Option.some FieldType.int) ∈ sr_G := sr_in (List.mem_of_getElem? (i := 439) (by decide +kernel)) rfl
theorem lk_392 : Cond.methodLink RX7 128 yX1_become ∈ sr_G := sr_in (List.mem_of_getElem? (i := 440) (by decide +kernel)) rfl
theorem lk_393 : Cond.instanceMethod yX1_become ∈ sr_G := sr_in (List.mem_of_getElem? (i := 441) (by decide +kernel)) rfl
theorem lk_394 : Cond.selects RX1 yX1_become yX1_become ∈ sr_G := sr_in (List.mem_of_getElem? (i := 442) (by decide +kernel)) rfl
theorem lk_395 : Cond.code yX1_become cX1_become 4 (Option.none : Option FieldType) ∈ sr_G := sr_in (List.mem_of_getElem? (i := 443) (by decide +kernel)) rfl
theorem lk_396 : Cond.methodLink RX1 127 yX3_put ∈ sr_G := sr_in (List.mem_of_getElem? (i := 444) (by decide +kernel)) rfl
theorem lk_397 : Cond.instanceMethod yX3_put ∈ sr_G := sr_in (List.mem_of_getElem? (i := 445) (by decide +kernel)) rfl
theorem lk_398 : Cond.selects RX3 yX3_put yX3_put ∈ sr_G := sr_in (List.mem_of_getElem? (i := 446) (by decide +kernel)) rfl
theorem lk_399 : Cond.code yX3_put cX3_put 6 (Option.none : Option FieldType) ∈ sr_G := sr_in (List.mem_of_getElem? (i := 447) (by decide +kernel)) rfl
theorem lk_400 : Cond.methodLink RX3 22 yX3_placeOf ∈ sr_G := sr_in (List.mem_of_getElem? (i := 448) (by decide +kernel)) rfl
theorem lk_402 : Cond.instanceMethod yX3_placeOf ∈ sr_G := sr_in (List.mem_of_getElem? (i := 450) (by decide +kernel)) rfl
theorem lk_403 : Cond.code yX3_placeOf cX3_placeOf 3 (Option.some FieldType.int) ∈ sr_G := sr_in (List.mem_of_getElem? (i := 451) (by decide +kernel)) rfl
theorem lk_404 : Cond.methodLinkNest RX3 29 yX7_isWithin RX7 ∈ lw_tbl := List.mem_of_getElem? (i := 452) (by decide +kernel)
theorem lk_405 : Cond.methodLink RL 79 yX7_resume ∈ sr_G := sr_in (List.mem_of_getElem? (i := 453) (by decide +kernel)) rfl
theorem lk_406 : Cond.instanceMethod yX7_resume ∈ sr_G := sr_in (List.mem_of_getElem? (i := 454) (by decide +kernel)) rfl
theorem lk_407 : Cond.selects RX7 yX7_resume yX7_resume ∈ sr_G := sr_in (List.mem_of_getElem? (i := 455) (by decide +kernel)) rfl
theorem lk_408 : Cond.code yX7_resume cX7_resume 2 (Option.some FieldType.int) ∈ sr_G := sr_in (List.mem_of_getElem? (i := 456) (by decide +kernel)) rfl
theorem lk_409 : Cond.methodLink RL 83 yX7_turnBack ∈ sr_G := sr_in (List.mem_of_getElem? (i := 457) (by decide +kernel)) rfl
theorem lk_410 : Cond.instanceMethod yX7_turnBack ∈ sr_G := sr_in (List.mem_of_getElem? (i := 458) (by decide +kernel)) rfl
theorem lk_411 : Cond.selects RX7 yX7_turnBack yX7_turnBack ∈ sr_G := sr_in (List.mem_of_getElem? (i := 459) (by decide +kernel)) rfl
theorem lk_412 : Cond.code yX7_turnBack cX7_turnBack 2 (Option.some FieldType.int) ∈ sr_G := sr_in (List.mem_of_getElem? (i := 460) (by decide +kernel)) rfl
theorem lk_413 : Cond.methodLink RL 87 yX7_report ∈ sr_G := sr_in (List.mem_of_getElem? (i := 461) (by decide +kernel)) rfl
theorem lk_414 : Cond.instanceMethod yX7_report ∈ sr_G := sr_in (List.mem_of_getElem? (i := 462) (by decide +kernel)) rfl
theorem lk_415 : Cond.selects RX7 yX7_report yX7_report ∈ sr_G := sr_in (List.mem_of_getElem? (i := 463) (by decide +kernel)) rfl
theorem lk_416 : Cond.code yX7_report cX7_report 4 (Option.some FieldType.int) ∈ sr_G := sr_in (List.mem_of_getElem? (i := 464) (by decide +kernel)) rfl
theorem lk_417 : Cond.methodLink RX7 135 yX1_isCell ∈ sr_G := sr_in (List.mem_of_getElem? (i := 465) (by decide +kernel)) rfl
theorem lk_418 : Cond.instanceMethod yX1_isCell ∈ sr_G := sr_in (List.mem_of_getElem? (i := 466) (by decide +kernel)) rfl
theorem lk_419 : Cond.selects RX1 yX1_isCell yX1_isCell ∈ sr_G := sr_in (List.mem_of_getElem? (i := 467) (by decide +kernel)) rfl
theorem lk_420 : Cond.code yX1_isCell cX1_isCell 2 (Option.some FieldType.boolean) ∈ sr_G := sr_in (List.mem_of_getElem? (i := 468) (by decide +kernel)) rfl
theorem lk_421 : Cond.methodLink RX7 138 yX1_takeProbes ∈ sr_G := sr_in (List.mem_of_getElem? (i := 469) (by decide +kernel)) rfl
theorem lk_422 : Cond.instanceMethod yX1_takeProbes ∈ sr_G := sr_in (List.mem_of_getElem? (i := 470) (by decide +kernel)) rfl
theorem lk_423 : Cond.selects RX1 yX1_takeProbes yX1_takeProbes ∈ sr_G := sr_in (List.mem_of_getElem? (i := 471) (by decide +kernel)) rfl
theorem lk_424 : Cond.code yX1_takeProbes cX1_takeProbes 6 (Option.some FieldType.int) ∈ sr_G := sr_in (List.mem_of_getElem? (i := 472) (by decide +kernel)) rfl
theorem lk_425 : Cond.methodLink RX1 80 yX0_takesProbes ∈ sr_G := sr_in (List.mem_of_getElem? (i := 473) (by decide +kernel)) rfl
theorem lk_426 : Cond.instanceMethod yX0_takesProbes ∈ sr_G := sr_in (List.mem_of_getElem? (i := 474) (by decide +kernel)) rfl
theorem lk_427 : Cond.selects RX0 yX0_takesProbes yX0_takesProbes ∈ sr_G := sr_in (List.mem_of_getElem? (i := 475) (by decide +kernel)) rfl
theorem lk_428 : Cond.code yX0_takesProbes cX0_takesProbes 4 (Option.some FieldType.boolean) ∈ sr_G := sr_in (List.mem_of_getElem? (i := 476) (by decide +kernel)) rfl
theorem lk_429 : Cond.methodLink RX0 65 yX0_isWatched ∈ sr_G := sr_in (List.mem_of_getElem? (i := 477) (by decide +kernel)) rfl
theorem lk_430 : Cond.instanceMethod yX0_isWatched ∈ sr_G := sr_in (List.mem_of_getElem? (i := 478) (by decide +kernel)) rfl
theorem lk_431 : Cond.selects RX0 yX0_isWatched yX0_isWatched ∈ sr_G := sr_in (List.mem_of_getElem? (i := 479) (by decide +kernel)) rfl
theorem lk_432 : Cond.code yX0_isWatched cX0_isWatched 1 (Option.some FieldType.boolean) ∈ sr_G := sr_in (List.mem_of_getElem? (i := 480) (by decide +kernel)) rfl
theorem lk_433 : Cond.methodLink RX0 73 yX0_isAt ∈ sr_G := sr_in (List.mem_of_getElem? (i := 481) (by decide +kernel)) rfl
theorem lk_434 : Cond.instanceMethod yX0_isAt ∈ sr_G := sr_in (List.mem_of_getElem? (i := 482) (by decide +kernel)) rfl
theorem lk_435 : Cond.selects RX0 yX0_isAt yX0_isAt ∈ sr_G := sr_in (List.mem_of_getElem? (i := 483) (by decide +kernel)) rfl
theorem lk_436 : Cond.code yX0_isAt cX0_isAt 2 (Option.some FieldType.boolean) ∈ sr_G := sr_in (List.mem_of_getElem? (i := 484) (by decide +kernel)) rfl
theorem lk_437 : Cond.methodLink RX0 69 yX4_cellsOfFirst ∈ sr_G := sr_in (List.mem_of_getElem? (i := 485) (by decide +kernel)) rfl
theorem lk_438 : Cond.methodLink RX0 77 yX6_takesTreated ∈ sr_G := sr_in (List.mem_of_getElem? (i := 486) (by decide +kernel)) rfl
theorem lk_439 : Cond.instanceMethod yX6_takesTreated ∈ sr_G := sr_in (List.mem_of_getElem? (i := 487) (by decide +kernel)) rfl
theorem lk_440 : Cond.selects RX6 yX6_takesTreated yX6_takesTreated ∈ sr_G := sr_in (List.mem_of_getElem? (i := 488) (by decide +kernel)) rfl
theorem lk_441 : Cond.code yX6_takesTreated cX6_takesTreated 3 (Option.some FieldType.boolean) ∈ sr_G := sr_in (List.mem_of_getElem? (i := 489) (by decide +kernel)) rfl
theorem lk_442 : Cond.methodLink RX6 31 yX6_treated ∈ sr_G := sr_in (List.mem_of_getElem? (i := 490) (by decide +kernel)) rfl
theorem lk_443 : Cond.instanceMethod yX6_treated ∈ sr_G := sr_in (List.mem_of_getElem? (i := 491) (by decide +kernel)) rfl
theorem lk_444 : Cond.selects RX6 yX6_treated yX6_treated ∈ sr_G := sr_in (List.mem_of_getElem? (i := 492) (by decide +kernel)) rfl
theorem lk_445 : Cond.code yX6_treated cX6_treated 1 (Option.some FieldType.int) ∈ sr_G := sr_in (List.mem_of_getElem? (i := 493) (by decide +kernel)) rfl
theorem lk_446 : Cond.methodLink RX6 35 yX6_computeChance ∈ sr_G := sr_in (List.mem_of_getElem? (i := 494) (by decide +kernel)) rfl
theorem lk_448 : Cond.instanceMethod yX6_computeChance ∈ sr_G := sr_in (List.mem_of_getElem? (i := 496) (by decide +kernel)) rfl
theorem lk_449 : Cond.code yX6_computeChance cX6_computeChance 10 (Option.none : Option FieldType) ∈ sr_G := sr_in (List.mem_of_getElem? (i := 497) (by decide +kernel)) rfl
theorem lk_450 : Cond.methodLink RX6 43 yX6_setsOf ∈ sr_G := sr_in (List.mem_of_getElem? (i := 498) (by decide +kernel)) rfl
theorem lk_451 : Cond.static yX6_setsOf ∈ sr_G := sr_in (List.mem_of_getElem? (i := 499) (by decide +kernel)) rfl
theorem lk_452 : Cond.code yX6_setsOf cX6_setsOf 6 (Option.some FieldType.long) ∈ sr_G := sr_in (List.mem_of_getElem? (i := 500) (by decide +kernel)) rfl
theorem lk_453 : Cond.methodLink RX6 51 yJ9_min_7cf53 ∈ sr_G := sr_in (List.mem_of_getElem? (i := 501) (by decide +kernel)) rfl
theorem lk_454 : Cond.static yJ9_min_7cf53 ∈ sr_G := sr_in (List.mem_of_getElem? (i := 502) (by decide +kernel)) rfl
theorem lk_455 : Cond.code yJ9_min_7cf53 cJ9_min_7cf53 2 (Option.some FieldType.int) ∈ sr_G := sr_in (List.mem_of_getElem? (i := 503) (by decide +kernel)) rfl
theorem lk_456 : Cond.methodLink RX6 47 yX6_commonDivisor ∈ sr_G := sr_in (List.mem_of_getElem? (i := 504) (by decide +kernel)) rfl
theorem lk_457 : Cond.static yX6_commonDivisor ∈ sr_G := sr_in (List.mem_of_getElem? (i := 505) (by decide +kernel)) rfl
theorem lk_458 : Cond.code yX6_commonDivisor cX6_commonDivisor 11 (Option.some FieldType.long) ∈ sr_G := sr_in (List.mem_of_getElem? (i := 506) (by decide +kernel)) rfl
theorem lk_459 : Cond.methodLink RX6 57 yJ9_max_f86c9 ∈ sr_G := sr_in (List.mem_of_getElem? (i := 507) (by decide +kernel)) rfl
theorem lk_460 : Cond.static yJ9_max_f86c9 ∈ sr_G := sr_in (List.mem_of_getElem? (i := 508) (by decide +kernel)) rfl
theorem lk_461 : Cond.code yJ9_max_f86c9 cJ9_max_f86c9 4 (Option.some FieldType.long) ∈ sr_G := sr_in (List.mem_of_getElem? (i := 509) (by decide +kernel)) rfl
theorem lk_462 : Cond.methodLink RX0 81 yX6_takesControl ∈ sr_G := sr_in (List.mem_of_getElem? (i := 510) (by decide +kernel)) rfl
theorem lk_463 : Cond.instanceMethod yX6_takesControl ∈ sr_G := sr_in (List.mem_of_getElem? (i := 511) (by decide +kernel)) rfl
theorem lk_464 : Cond.selects RX6 yX6_takesControl yX6_takesControl ∈ sr_G := sr_in (List.mem_of_getElem? (i := 512) (by decide +kernel)) rfl
theorem lk_465 : Cond.code yX6_takesControl cX6_takesControl 3 (Option.some FieldType.boolean) ∈ sr_G := sr_in (List.mem_of_getElem? (i := 513) (by decide +kernel)) rfl
theorem lk_466 : Cond.methodLink RX6 38 yX6_control ∈ sr_G := sr_in (List.mem_of_getElem? (i := 514) (by decide +kernel)) rfl
theorem lk_467 : Cond.instanceMethod yX6_control ∈ sr_G := sr_in (List.mem_of_getElem? (i := 515) (by decide +kernel)) rfl
theorem lk_468 : Cond.selects RX6 yX6_control yX6_control ∈ sr_G := sr_in (List.mem_of_getElem? (i := 516) (by decide +kernel)) rfl
theorem lk_469 : Cond.code yX6_control cX6_control 1 (Option.some FieldType.int) ∈ sr_G := sr_in (List.mem_of_getElem? (i := 517) (by decide +kernel)) rfl
theorem lk_470 : Cond.methodLink RL 91 yX7_pass ∈ sr_G := sr_in (List.mem_of_getElem? (i := 518) (by decide +kernel)) rfl
theorem lk_471 : Cond.instanceMethod yX7_pass ∈ sr_G := sr_in (List.mem_of_getElem? (i := 519) (by decide +kernel)) rfl
theorem lk_472 : Cond.selects RX7 yX7_pass yX7_pass ∈ sr_G := sr_in (List.mem_of_getElem? (i := 520) (by decide +kernel)) rfl
theorem lk_473 : Cond.code yX7_pass cX7_pass 4 (Option.some FieldType.int) ∈ sr_G := sr_in (List.mem_of_getElem? (i := 521) (by decide +kernel)) rfl
theorem lk_474 : Cond.methodLink RX7 151 yX1_passHour ∈ sr_G := sr_in (List.mem_of_getElem? (i := 522) (by decide +kernel)) rfl
theorem lk_475 : Cond.instanceMethod yX1_passHour ∈ sr_G := sr_in (List.mem_of_getElem? (i := 523) (by decide +kernel)) rfl
theorem lk_476 : Cond.selects RX1 yX1_passHour yX1_passHour ∈ sr_G := sr_in (List.mem_of_getElem? (i := 524) (by decide +kernel)) rfl
theorem lk_477 : Cond.code yX1_passHour cX1_passHour 2 (Option.none : Option FieldType) ∈ sr_G := sr_in (List.mem_of_getElem? (i := 525) (by decide +kernel)) rfl
theorem lk_478 : Cond.methodLink RX1 131 yX1_moveInHour ∈ sr_G := sr_in (List.mem_of_getElem? (i := 526) (by decide +kernel)) rfl
theorem lk_480 : Cond.instanceMethod yX1_moveInHour ∈ sr_G := sr_in (List.mem_of_getElem? (i := 528) (by decide +kernel)) rfl
theorem lk_481 : Cond.code yX1_moveInHour cX1_moveInHour 2 (Option.none : Option FieldType) ∈ sr_G := sr_in (List.mem_of_getElem? (i := 529) (by decide +kernel)) rfl
theorem lk_482 : Cond.methodLink RX1 134 yX1_hasBadChance ∈ sr_G := sr_in (List.mem_of_getElem? (i := 530) (by decide +kernel)) rfl
theorem lk_484 : Cond.instanceMethod yX1_hasBadChance ∈ sr_G := sr_in (List.mem_of_getElem? (i := 532) (by decide +kernel)) rfl
theorem lk_485 : Cond.code yX1_hasBadChance cX1_hasBadChance 2 (Option.some FieldType.boolean) ∈ sr_G := sr_in (List.mem_of_getElem? (i := 533) (by decide +kernel)) rfl
theorem lk_486 : Cond.methodLink RX1 150 yX0_isWatched ∈ sr_G := sr_in (List.mem_of_getElem? (i := 534) (by decide +kernel)) rfl
theorem lk_487 : Cond.methodLink RX1 157 yX6_isAtMost ∈ sr_G := sr_in (List.mem_of_getElem? (i := 535) (by decide +kernel)) rfl
theorem lk_488 : Cond.instanceMethod yX6_isAtMost ∈ sr_G := sr_in (List.mem_of_getElem? (i := 536) (by decide +kernel)) rfl
theorem lk_489 : Cond.selects RX6 yX6_isAtMost yX6_isAtMost ∈ sr_G := sr_in (List.mem_of_getElem? (i := 537) (by decide +kernel)) rfl
theorem lk_490 : Cond.code yX6_isAtMost cX6_isAtMost 2 (Option.some FieldType.boolean) ∈ sr_G := sr_in (List.mem_of_getElem? (i := 538) (by decide +kernel)) rfl
theorem lk_491 : Cond.constantLong RX6 41 1000 ∈ sr_G := sr_in (List.mem_of_getElem? (i := 539) (by decide +kernel)) rfl
theorem lk_492 : Cond.methodLink RX1 137 yX1_become ∈ sr_G := sr_in (List.mem_of_getElem? (i := 540) (by decide +kernel)) rfl
theorem lk_493 : Cond.methodLink RX1 141 yX1_turnStage ∈ sr_G := sr_in (List.mem_of_getElem? (i := 541) (by decide +kernel)) rfl
theorem lk_495 : Cond.instanceMethod yX1_turnStage ∈ sr_G := sr_in (List.mem_of_getElem? (i := 543) (by decide +kernel)) rfl
theorem lk_496 : Cond.code yX1_turnStage cX1_turnStage 2 (Option.none : Option FieldType) ∈ sr_G := sr_in (List.mem_of_getElem? (i := 544) (by decide +kernel)) rfl
theorem lk_497 : Cond.methodLink RX1 144 yX1_reasonOf ∈ sr_G := sr_in (List.mem_of_getElem? (i := 545) (by decide +kernel)) rfl
theorem lk_498 : Cond.instanceMethod yX1_reasonOf ∈ sr_G := sr_in (List.mem_of_getElem? (i := 546) (by decide +kernel)) rfl
theorem lk_499 : Cond.selects RX1 yX1_reasonOf yX1_reasonOf ∈ sr_G := sr_in (List.mem_of_getElem? (i := 547) (by decide +kernel)) rfl
theorem lk_500 : Cond.code yX1_reasonOf cX1_reasonOf 2 (Option.some FieldType.int) ∈ sr_G := sr_in (List.mem_of_getElem? (i := 548) (by decide +kernel)) rfl
theorem lk_501 : Cond.methodLink RX1 84 yX0_isUnderWay ∈ sr_G := sr_in (List.mem_of_getElem? (i := 549) (by decide +kernel)) rfl
theorem lk_502 : Cond.instanceMethod yX0_isUnderWay ∈ sr_G := sr_in (List.mem_of_getElem? (i := 550) (by decide +kernel)) rfl
theorem lk_503 : Cond.selects RX0 yX0_isUnderWay yX0_isUnderWay ∈ sr_G := sr_in (List.mem_of_getElem? (i := 551) (by decide +kernel)) rfl
theorem lk_504 : Cond.code yX0_isUnderWay cX0_isUnderWay 1 (Option.some FieldType.boolean) ∈ sr_G := sr_in (List.mem_of_getElem? (i := 552) (by decide +kernel)) rfl
theorem lk_505 : Cond.methodLink RX1 88 yX0_waitsAt ∈ sr_G := sr_in (List.mem_of_getElem? (i := 553) (by decide +kernel)) rfl
theorem lk_506 : Cond.instanceMethod yX0_waitsAt ∈ sr_G := sr_in (List.mem_of_getElem? (i := 554) (by decide +kernel)) rfl
theorem lk_507 : Cond.selects RX0 yX0_waitsAt yX0_waitsAt ∈ sr_G := sr_in (List.mem_of_getElem? (i := 555) (by decide +kernel)) rfl
theorem lk_508 : Cond.code yX0_waitsAt cX0_waitsAt 2 (Option.some FieldType.boolean) ∈ sr_G := sr_in (List.mem_of_getElem? (i := 556) (by decide +kernel)) rfl
theorem lk_509 : Cond.methodLink RX0 84 yX0_hoursSinceLatest ∈ sr_G := sr_in (List.mem_of_getElem? (i := 557) (by decide +kernel)) rfl
theorem lk_510 : Cond.instanceMethod yX0_hoursSinceLatest ∈ sr_G := sr_in (List.mem_of_getElem? (i := 558) (by decide +kernel)) rfl
theorem lk_511 : Cond.selects RX0 yX0_hoursSinceLatest yX0_hoursSinceLatest ∈ sr_G := sr_in (List.mem_of_getElem? (i := 559) (by decide +kernel)) rfl
theorem lk_512 : Cond.code yX0_hoursSinceLatest cX0_hoursSinceLatest 3 (Option.some FieldType.int) ∈ sr_G := sr_in (List.mem_of_getElem? (i := 560) (by decide +kernel)) rfl
theorem lk_513 : Cond.methodLink RX0 87 yX4_number ∈ sr_G := sr_in (List.mem_of_getElem? (i := 561) (by decide +kernel)) rfl
theorem lk_514 : Cond.methodLink RX1 91 yX1_allCells ∈ sr_G := sr_in (List.mem_of_getElem? (i := 562) (by decide +kernel)) rfl
theorem lk_515 : Cond.methodLink RX1 95 yX0_lacksSamples ∈ sr_G := sr_in (List.mem_of_getElem? (i := 563) (by decide +kernel)) rfl
theorem lk_516 : Cond.instanceMethod yX0_lacksSamples ∈ sr_G := sr_in (List.mem_of_getElem? (i := 564) (by decide +kernel)) rfl
theorem lk_517 : Cond.selects RX0 yX0_lacksSamples yX0_lacksSamples ∈ sr_G := sr_in (List.mem_of_getElem? (i := 565) (by decide +kernel)) rfl
theorem lk_518 : Cond.code yX0_lacksSamples cX0_lacksSamples 4 (Option.some FieldType.boolean) ∈ sr_G := sr_in (List.mem_of_getElem? (i := 566) (by decide +kernel)) rfl
theorem lk_519 : Cond.methodLink RX0 90 yX6_treated ∈ sr_G := sr_in (List.mem_of_getElem? (i := 567) (by decide +kernel)) rfl
theorem lk_520 : Cond.methodLink RX0 94 yX6_control ∈ sr_G := sr_in (List.mem_of_getElem? (i := 568) (by decide +kernel)) rfl
theorem lk_521 : Cond.methodLink RX1 98 yX0_hasFurtherStage ∈ sr_G := sr_in (List.mem_of_getElem? (i := 569) (by decide +kernel)) rfl
theorem lk_522 : Cond.instanceMethod yX0_hasFurtherStage ∈ sr_G := sr_in (List.mem_of_getElem? (i := 570) (by decide +kernel)) rfl
theorem lk_523 : Cond.selects RX0 yX0_hasFurtherStage yX0_hasFurtherStage ∈ sr_G := sr_in (List.mem_of_getElem? (i := 571) (by decide +kernel)) rfl
theorem lk_524 : Cond.code yX0_hasFurtherStage cX0_hasFurtherStage 1 (Option.some FieldType.boolean) ∈ sr_G := sr_in (List.mem_of_getElem? (i := 572) (by decide +kernel)) rfl
theorem lk_525 : Cond.methodLink RX1 101 yX2_covers ∈ sr_G := sr_in (List.mem_of_getElem? (i := 573) (by decide +kernel)) rfl
theorem lk_526 : Cond.instanceMethod yX2_covers ∈ sr_G := sr_in (List.mem_of_getElem? (i := 574) (by decide +kernel)) rfl
theorem lk_527 : Cond.selects RX2 yX2_covers yX2_covers ∈ sr_G := sr_in (List.mem_of_getElem? (i := 575) (by decide +kernel)) rfl
theorem lk_528 : Cond.code yX2_covers cX2_covers 3 (Option.some FieldType.boolean) ∈ sr_G := sr_in (List.mem_of_getElem? (i := 576) (by decide +kernel)) rfl
theorem lk_529 : Cond.methodLink RX1 107 yX1_reasonBeforeFirstStage ∈ sr_G := sr_in (List.mem_of_getElem? (i := 577) (by decide +kernel)) rfl
theorem lk_531 : Cond.instanceMethod yX1_reasonBeforeFirstStage ∈ sr_G := sr_in (List.mem_of_getElem? (i := 579) (by decide +kernel)) rfl
theorem lk_532 : Cond.code yX1_reasonBeforeFirstStage cX1_reasonBeforeFirstStage 2 (Option.some FieldType.int) ∈ sr_G := sr_in (List.mem_of_getElem? (i := 580) (by decide +kernel)) rfl
theorem lk_533 : Cond.methodLink RX1 114 yX1_lacksDone ∈ sr_G := sr_in (List.mem_of_getElem? (i := 581) (by decide +kernel)) rfl
theorem lk_535 : Cond.instanceMethod yX1_lacksDone ∈ sr_G := sr_in (List.mem_of_getElem? (i := 583) (by decide +kernel)) rfl
theorem lk_536 : Cond.code yX1_lacksDone cX1_lacksDone 3 (Option.some FieldType.boolean) ∈ sr_G := sr_in (List.mem_of_getElem? (i := 584) (by decide +kernel)) rfl
theorem lk_537 : Cond.methodLink RX1 120 yX1_meetsOtherRisk ∈ sr_G := sr_in (List.mem_of_getElem? (i := 585) (by decide +kernel)) rfl
theorem lk_539 : Cond.instanceMethod yX1_meetsOtherRisk ∈ sr_G := sr_in (List.mem_of_getElem? (i := 587) (by decide +kernel)) rfl
theorem lk_540 : Cond.code yX1_meetsOtherRisk cX1_meetsOtherRisk 4 (Option.some FieldType.boolean) ∈ sr_G := sr_in (List.mem_of_getElem? (i := 588) (by decide +kernel)) rfl
theorem lk_541 : Cond.methodLink RX1 147 yX1_goOn ∈ sr_G := sr_in (List.mem_of_getElem? (i := 589) (by decide +kernel)) rfl
theorem lk_543 : Cond.instanceMethod yX1_goOn ∈ sr_G := sr_in (List.mem_of_getElem? (i := 591) (by decide +kernel)) rfl
theorem lk_544 : Cond.code yX1_goOn cX1_goOn 2 (Option.none : Option FieldType) ∈ sr_G := sr_in (List.mem_of_getElem? (i := 592) (by decide +kernel)) rfl
theorem lk_545 : Cond.methodLink RX1 162 yX0_beginStage ∈ sr_G := sr_in (List.mem_of_getElem? (i := 593) (by decide +kernel)) rfl
theorem lk_546 : Cond.instanceMethod yX0_beginStage ∈ sr_G := sr_in (List.mem_of_getElem? (i := 594) (by decide +kernel)) rfl
theorem lk_547 : Cond.selects RX0 yX0_beginStage yX0_beginStage ∈ sr_G := sr_in (List.mem_of_getElem? (i := 595) (by decide +kernel)) rfl
theorem lk_548 : Cond.code yX0_beginStage cX0_beginStage 2 (Option.none : Option FieldType) ∈ sr_G := sr_in (List.mem_of_getElem? (i := 596) (by decide +kernel)) rfl
theorem lk_549 : Cond.methodLink RL 95 yX7_time ∈ sr_G := sr_in (List.mem_of_getElem? (i := 597) (by decide +kernel)) rfl
theorem lk_550 : Cond.instanceMethod yX7_time ∈ sr_G := sr_in (List.mem_of_getElem? (i := 598) (by decide +kernel)) rfl
theorem lk_551 : Cond.selects RX7 yX7_time yX7_time ∈ sr_G := sr_in (List.mem_of_getElem? (i := 599) (by decide +kernel)) rfl
theorem lk_552 : Cond.code yX7_time cX7_time 1 (Option.some FieldType.int) ∈ sr_G := sr_in (List.mem_of_getElem? (i := 600) (by decide +kernel)) rfl
theorem lk_553 : Cond.methodLink RL 99 yX7_change ∈ sr_G := sr_in (List.mem_of_getElem? (i := 601) (by decide +kernel)) rfl
theorem lk_554 : Cond.instanceMethod yX7_change ∈ sr_G := sr_in (List.mem_of_getElem? (i := 602) (by decide +kernel)) rfl
theorem lk_555 : Cond.selects RX7 yX7_change yX7_change ∈ sr_G := sr_in (List.mem_of_getElem? (i := 603) (by decide +kernel)) rfl
theorem lk_556 : Cond.code yX7_change cX7_change 4 (Option.some FieldType.int) ∈ sr_G := sr_in (List.mem_of_getElem? (i := 604) (by decide +kernel)) rfl
theorem lk_557 : Cond.methodLink RX7 157 yX0_hoursSinceLatest ∈ sr_G := sr_in (List.mem_of_getElem? (i := 605) (by decide +kernel)) rfl
theorem lk_558 : Cond.methodLink RX7 160 yX1_reasonOf ∈ sr_G := sr_in (List.mem_of_getElem? (i := 606) (by decide +kernel)) rfl
theorem lk_559 : Cond.methodLink RL 103 yX7_probes ∈ sr_G := sr_in (List.mem_of_getElem? (i := 607) (by decide +kernel)) rfl
theorem lk_560 : Cond.instanceMethod yX7_probes ∈ sr_G := sr_in (List.mem_of_getElem? (i := 608) (by decide +kernel)) rfl
theorem lk_561 : Cond.selects RX7 yX7_probes yX7_probes ∈ sr_G := sr_in (List.mem_of_getElem? (i := 609) (by decide +kernel)) rfl
theorem lk_562 : Cond.code yX7_probes cX7_probes 4 (Option.some FieldType.int) ∈ sr_G := sr_in (List.mem_of_getElem? (i := 610) (by decide +kernel)) rfl
theorem lk_563 : Cond.methodLink RL 107 yX7_chance ∈ sr_G := sr_in (List.mem_of_getElem? (i := 611) (by decide +kernel)) rfl
theorem lk_564 : Cond.instanceMethod yX7_chance ∈ sr_G := sr_in (List.mem_of_getElem? (i := 612) (by decide +kernel)) rfl
theorem lk_565 : Cond.selects RX7 yX7_chance yX7_chance ∈ sr_G := sr_in (List.mem_of_getElem? (i := 613) (by decide +kernel)) rfl
theorem lk_566 : Cond.code yX7_chance cX7_chance 4 (Option.some FieldType.long) ∈ sr_G := sr_in (List.mem_of_getElem? (i := 614) (by decide +kernel)) rfl
theorem lk_567 : Cond.constantLong RX7 186 (-11) ∈ sr_G := sr_in (List.mem_of_getElem? (i := 615) (by decide +kernel)) rfl
theorem lk_568 : Cond.methodLink RL 112 yX7_has ∈ sr_G := sr_in (List.mem_of_getElem? (i := 616) (by decide +kernel)) rfl
theorem lk_569 : Cond.instanceMethod yX7_has ∈ sr_G := sr_in (List.mem_of_getElem? (i := 617) (by decide +kernel)) rfl
theorem lk_570 : Cond.selects RX7 yX7_has yX7_has ∈ sr_G := sr_in (List.mem_of_getElem? (i := 618) (by decide +kernel)) rfl
theorem lk_571 : Cond.code yX7_has cX7_has 2 (Option.some FieldType.int) ∈ sr_G := sr_in (List.mem_of_getElem? (i := 619) (by decide +kernel)) rfl
theorem lk_572 : Cond.methodLink RX7 195 yX1_changesOf ∈ sr_G := sr_in (List.mem_of_getElem? (i := 620) (by decide +kernel)) rfl
theorem lk_573 : Cond.instanceMethod yX1_changesOf ∈ sr_G := sr_in (List.mem_of_getElem? (i := 621) (by decide +kernel)) rfl
theorem lk_574 : Cond.selects RX1 yX1_changesOf yX1_changesOf ∈ sr_G := sr_in (List.mem_of_getElem? (i := 622) (by decide +kernel)) rfl
theorem lk_575 : Cond.code yX1_changesOf cX1_changesOf 4 (Option.some FieldType.int) ∈ sr_G := sr_in (List.mem_of_getElem? (i := 623) (by decide +kernel)) rfl
theorem lk_576 : Cond.methodLink RX1 69 yX0_isAt ∈ sr_G := sr_in (List.mem_of_getElem? (i := 624) (by decide +kernel)) rfl
theorem lk_577 : Cond.methodLink RL 116 yX7_isFrozen ∈ sr_G := sr_in (List.mem_of_getElem? (i := 625) (by decide +kernel)) rfl
theorem lk_578 : Cond.instanceMethod yX7_isFrozen ∈ sr_G := sr_in (List.mem_of_getElem? (i := 626) (by decide +kernel)) rfl
theorem lk_579 : Cond.selects RX7 yX7_isFrozen yX7_isFrozen ∈ sr_G := sr_in (List.mem_of_getElem? (i := 627) (by decide +kernel)) rfl
theorem lk_580 : Cond.code yX7_isFrozen cX7_isFrozen 2 (Option.some FieldType.int) ∈ sr_G := sr_in (List.mem_of_getElem? (i := 628) (by decide +kernel)) rfl
theorem lk_581 : Cond.methodLink RX7 198 yX2_covers ∈ sr_G := sr_in (List.mem_of_getElem? (i := 629) (by decide +kernel)) rfl
theorem lk_582 : Cond.methodLink RL 120 yX7_forecast ∈ sr_G := sr_in (List.mem_of_getElem? (i := 630) (by decide +kernel)) rfl
theorem lk_583 : Cond.instanceMethod yX7_forecast ∈ sr_G := sr_in (List.mem_of_getElem? (i := 631) (by decide +kernel)) rfl
theorem lk_584 : Cond.selects RX7 yX7_forecast yX7_forecast ∈ sr_G := sr_in (List.mem_of_getElem? (i := 632) (by decide +kernel)) rfl
theorem lk_585 : Cond.code yX7_forecast cX7_forecast 4 (Option.some FieldType.int) ∈ sr_G := sr_in (List.mem_of_getElem? (i := 633) (by decide +kernel)) rfl
theorem lk_586 : Cond.methodLink RX7 201 yX1_copyFrom ∈ sr_G := sr_in (List.mem_of_getElem? (i := 634) (by decide +kernel)) rfl
theorem lk_587 : Cond.instanceMethod yX1_copyFrom ∈ sr_G := sr_in (List.mem_of_getElem? (i := 635) (by decide +kernel)) rfl
theorem lk_588 : Cond.selects RX1 yX1_copyFrom yX1_copyFrom ∈ sr_G := sr_in (List.mem_of_getElem? (i := 636) (by decide +kernel)) rfl
theorem lk_589 : Cond.code yX1_copyFrom cX1_copyFrom 3 (Option.none : Option FieldType) ∈ sr_G := sr_in (List.mem_of_getElem? (i := 637) (by decide +kernel)) rfl
theorem lk_590 : Cond.methodLink RX1 55 yX2_copyFrom ∈ sr_G := sr_in (List.mem_of_getElem? (i := 638) (by decide +kernel)) rfl
theorem lk_591 : Cond.instanceMethod yX2_copyFrom ∈ sr_G := sr_in (List.mem_of_getElem? (i := 639) (by decide +kernel)) rfl
theorem lk_592 : Cond.selects RX2 yX2_copyFrom yX2_copyFrom ∈ sr_G := sr_in (List.mem_of_getElem? (i := 640) (by decide +kernel)) rfl
theorem lk_593 : Cond.code yX2_copyFrom cX2_copyFrom 2 (Option.none : Option FieldType) ∈ sr_G := sr_in (List.mem_of_getElem? (i := 641) (by decide +kernel)) rfl
theorem lk_594 : Cond.methodLink RX2 22 arraycopyName ∈ sr_G := sr_in (List.mem_of_getElem? (i := 642) (by decide +kernel)) rfl
theorem lk_595 : Cond.methodLink RX1 59 yX3_copyFrom ∈ sr_G := sr_in (List.mem_of_getElem? (i := 643) (by decide +kernel)) rfl
theorem lk_596 : Cond.instanceMethod yX3_copyFrom ∈ sr_G := sr_in (List.mem_of_getElem? (i := 644) (by decide +kernel)) rfl
theorem lk_597 : Cond.selects RX3 yX3_copyFrom yX3_copyFrom ∈ sr_G := sr_in (List.mem_of_getElem? (i := 645) (by decide +kernel)) rfl
theorem lk_598 : Cond.code yX3_copyFrom cX3_copyFrom 2 (Option.none : Option FieldType) ∈ sr_G := sr_in (List.mem_of_getElem? (i := 646) (by decide +kernel)) rfl
theorem lk_599 : Cond.methodLink RX3 36 arraycopyName ∈ sr_G := sr_in (List.mem_of_getElem? (i := 647) (by decide +kernel)) rfl
theorem lk_600 : Cond.methodLink RX1 62 yX0_copyFrom ∈ sr_G := sr_in (List.mem_of_getElem? (i := 648) (by decide +kernel)) rfl
theorem lk_601 : Cond.instanceMethod yX0_copyFrom ∈ sr_G := sr_in (List.mem_of_getElem? (i := 649) (by decide +kernel)) rfl
theorem lk_602 : Cond.selects RX0 yX0_copyFrom yX0_copyFrom ∈ sr_G := sr_in (List.mem_of_getElem? (i := 650) (by decide +kernel)) rfl
theorem lk_603 : Cond.code yX0_copyFrom cX0_copyFrom 2 (Option.none : Option FieldType) ∈ sr_G := sr_in (List.mem_of_getElem? (i := 651) (by decide +kernel)) rfl
theorem lk_604 : Cond.methodLink RX0 52 yX4_copyFrom ∈ sr_G := sr_in (List.mem_of_getElem? (i := 652) (by decide +kernel)) rfl
theorem lk_605 : Cond.methodLink RX0 56 yX6_copyFrom ∈ sr_G := sr_in (List.mem_of_getElem? (i := 653) (by decide +kernel)) rfl
theorem lk_606 : Cond.instanceMethod yX6_copyFrom ∈ sr_G := sr_in (List.mem_of_getElem? (i := 654) (by decide +kernel)) rfl
theorem lk_607 : Cond.selects RX6 yX6_copyFrom yX6_copyFrom ∈ sr_G := sr_in (List.mem_of_getElem? (i := 655) (by decide +kernel)) rfl
theorem lk_608 : Cond.code yX6_copyFrom cX6_copyFrom 2 (Option.none : Option FieldType) ∈ sr_G := sr_in (List.mem_of_getElem? (i := 656) (by decide +kernel)) rfl
theorem lk_609 : Cond.methodLink RX0 59 arraycopyName ∈ sr_G := sr_in (List.mem_of_getElem? (i := 657) (by decide +kernel)) rfl
theorem lk_610 : Cond.methodLink RX7 204 yX1_isOver ∈ sr_G := sr_in (List.mem_of_getElem? (i := 658) (by decide +kernel)) rfl
theorem lk_611 : Cond.instanceMethod yX1_isOver ∈ sr_G := sr_in (List.mem_of_getElem? (i := 659) (by decide +kernel)) rfl
theorem lk_612 : Cond.selects RX1 yX1_isOver yX1_isOver ∈ sr_G := sr_in (List.mem_of_getElem? (i := 660) (by decide +kernel)) rfl
theorem lk_613 : Cond.code yX1_isOver cX1_isOver 3 (Option.some FieldType.boolean) ∈ sr_G := sr_in (List.mem_of_getElem? (i := 661) (by decide +kernel)) rfl
theorem lk_614 : Cond.methodLink RX1 73 yX1_find ∈ sr_G := sr_in (List.mem_of_getElem? (i := 662) (by decide +kernel)) rfl
theorem lk_615 : Cond.methodLink RL 124 yX7_entries ∈ sr_G := sr_in (List.mem_of_getElem? (i := 663) (by decide +kernel)) rfl
theorem lk_616 : Cond.instanceMethod yX7_entries ∈ sr_G := sr_in (List.mem_of_getElem? (i := 664) (by decide +kernel)) rfl
theorem lk_617 : Cond.selects RX7 yX7_entries yX7_entries ∈ sr_G := sr_in (List.mem_of_getElem? (i := 665) (by decide +kernel)) rfl
theorem lk_618 : Cond.code yX7_entries cX7_entries 1 (Option.some FieldType.int) ∈ sr_G := sr_in (List.mem_of_getElem? (i := 666) (by decide +kernel)) rfl
theorem lk_619 : Cond.methodLink RL 128 yX7_entry ∈ sr_G := sr_in (List.mem_of_getElem? (i := 667) (by decide +kernel)) rfl
theorem lk_620 : Cond.instanceMethod yX7_entry ∈ sr_G := sr_in (List.mem_of_getElem? (i := 668) (by decide +kernel)) rfl
theorem lk_621 : Cond.selects RX7 yX7_entry yX7_entry ∈ sr_G := sr_in (List.mem_of_getElem? (i := 669) (by decide +kernel)) rfl
theorem lk_622 : Cond.code yX7_entry cX7_entry 3 (Option.some FieldType.int) ∈ sr_G := sr_in (List.mem_of_getElem? (i := 670) (by decide +kernel)) rfl
theorem lk_623 : Cond.methodLink RX7 208 yX3_number ∈ sr_G := sr_in (List.mem_of_getElem? (i := 671) (by decide +kernel)) rfl
theorem lk_624 : Cond.instanceMethod yX3_number ∈ sr_G := sr_in (List.mem_of_getElem? (i := 672) (by decide +kernel)) rfl
theorem lk_625 : Cond.selects RX3 yX3_number yX3_number ∈ sr_G := sr_in (List.mem_of_getElem? (i := 673) (by decide +kernel)) rfl
theorem lk_626 : Cond.code yX3_number cX3_number 4 (Option.some FieldType.int) ∈ sr_G := sr_in (List.mem_of_getElem? (i := 674) (by decide +kernel)) rfl
theorem lk_627 : Cond.methodLink RL 132 yX7_count ∈ sr_G := sr_in (List.mem_of_getElem? (i := 675) (by decide +kernel)) rfl
theorem lk_628 : Cond.instanceMethod yX7_count ∈ sr_G := sr_in (List.mem_of_getElem? (i := 676) (by decide +kernel)) rfl
theorem lk_629 : Cond.selects RX7 yX7_count yX7_count ∈ sr_G := sr_in (List.mem_of_getElem? (i := 677) (by decide +kernel)) rfl
theorem lk_630 : Cond.code yX7_count cX7_count 3 (Option.some FieldType.int) ∈ sr_G := sr_in (List.mem_of_getElem? (i := 678) (by decide +kernel)) rfl
theorem lk_631 : Cond.methodLink RX7 209 yX3_countOf ∈ sr_G := sr_in (List.mem_of_getElem? (i := 679) (by decide +kernel)) rfl
theorem lk_632 : Cond.instanceMethod yX3_countOf ∈ sr_G := sr_in (List.mem_of_getElem? (i := 680) (by decide +kernel)) rfl
theorem lk_633 : Cond.selects RX3 yX3_countOf yX3_countOf ∈ sr_G := sr_in (List.mem_of_getElem? (i := 681) (by decide +kernel)) rfl
theorem lk_634 : Cond.code yX3_countOf cX3_countOf 6 (Option.some FieldType.int) ∈ sr_G := sr_in (List.mem_of_getElem? (i := 682) (by decide +kernel)) rfl
theorem lk_635 : Cond.methodLink RX3 33 yX3_number ∈ sr_G := sr_in (List.mem_of_getElem? (i := 683) (by decide +kernel)) rfl
theorem lk_636 : Cond.methodLink RL 136 yX7_save ∈ sr_G := sr_in (List.mem_of_getElem? (i := 684) (by decide +kernel)) rfl
theorem lk_637 : Cond.instanceMethod yX7_save ∈ sr_G := sr_in (List.mem_of_getElem? (i := 685) (by decide +kernel)) rfl
theorem lk_638 : Cond.selects RX7 yX7_save yX7_save ∈ sr_G := sr_in (List.mem_of_getElem? (i := 686) (by decide +kernel)) rfl
theorem lk_639 : Cond.code yX7_save cX7_save 2 (Option.some FieldType.int) ∈ sr_G := sr_in (List.mem_of_getElem? (i := 687) (by decide +kernel)) rfl
theorem lk_640 : Cond.methodLink RL 140 yX7_restore ∈ sr_G := sr_in (List.mem_of_getElem? (i := 688) (by decide +kernel)) rfl
theorem lk_641 : Cond.instanceMethod yX7_restore ∈ sr_G := sr_in (List.mem_of_getElem? (i := 689) (by decide +kernel)) rfl
theorem lk_642 : Cond.selects RX7 yX7_restore yX7_restore ∈ sr_G := sr_in (List.mem_of_getElem? (i := 690) (by decide +kernel)) rfl
theorem lk_643 : Cond.code yX7_restore cX7_restore 2 (Option.some FieldType.int) ∈ sr_G := sr_in (List.mem_of_getElem? (i := 691) (by decide +kernel)) rfl
theorem lk_644 : Cond.methodLink RL 144 yX7_checksum ∈ sr_G := sr_in (List.mem_of_getElem? (i := 692) (by decide +kernel)) rfl
theorem lk_645 : Cond.instanceMethod yX7_checksum ∈ sr_G := sr_in (List.mem_of_getElem? (i := 693) (by decide +kernel)) rfl
theorem lk_646 : Cond.selects RX7 yX7_checksum yX7_checksum ∈ sr_G := sr_in (List.mem_of_getElem? (i := 694) (by decide +kernel)) rfl
theorem lk_647 : Cond.code yX7_checksum cX7_checksum 5 (Option.some FieldType.long) ∈ sr_G := sr_in (List.mem_of_getElem? (i := 695) (by decide +kernel)) rfl
theorem lk_648 : Cond.constantLong RX7 212 79 ∈ sr_G := sr_in (List.mem_of_getElem? (i := 696) (by decide +kernel)) rfl
theorem lk_649 : Cond.methodLink RX7 214 yX7_mix ∈ sr_G := sr_in (List.mem_of_getElem? (i := 697) (by decide +kernel)) rfl
theorem lk_650 : Cond.static yX7_mix ∈ sr_G := sr_in (List.mem_of_getElem? (i := 698) (by decide +kernel)) rfl
theorem lk_651 : Cond.code yX7_mix cX7_mix 4 (Option.some FieldType.long) ∈ sr_G := sr_in (List.mem_of_getElem? (i := 699) (by decide +kernel)) rfl
theorem lk_652 : Cond.constantLong RX7 232 31 ∈ sr_G := sr_in (List.mem_of_getElem? (i := 700) (by decide +kernel)) rfl
theorem lk_653 : Cond.methodLink RX7 218 yX7_mixChange ∈ sr_G := sr_in (List.mem_of_getElem? (i := 701) (by decide +kernel)) rfl
theorem lk_655 : Cond.instanceMethod yX7_mixChange ∈ sr_G := sr_in (List.mem_of_getElem? (i := 703) (by decide +kernel)) rfl
theorem lk_656 : Cond.code yX7_mixChange cX7_mixChange 7 (Option.some FieldType.long) ∈ sr_G := sr_in (List.mem_of_getElem? (i := 704) (by decide +kernel)) rfl
theorem lk_657 : Cond.methodLink RX7 222 yX7_change ∈ sr_G := sr_in (List.mem_of_getElem? (i := 705) (by decide +kernel)) rfl
theorem lk_658 : Cond.methodLink RX7 225 yX7_probes ∈ sr_G := sr_in (List.mem_of_getElem? (i := 706) (by decide +kernel)) rfl
theorem lk_659 : Cond.methodLink RX7 228 yX7_chance ∈ sr_G := sr_in (List.mem_of_getElem? (i := 707) (by decide +kernel)) rfl
theorem lk_660 : Cond.classLink RL 10 RX8 ∈ sr_G := sr_in (List.mem_of_getElem? (i := 708) (by decide +kernel)) rfl
theorem lk_661 : Cond.instantiable RX8 15 ∈ sr_G := sr_in (List.mem_of_getElem? (i := 709) (by decide +kernel)) rfl
theorem lk_662 : Cond.methodLink RL 12 yX8_init ∈ sr_G := sr_in (List.mem_of_getElem? (i := 710) (by decide +kernel)) rfl
theorem lk_663 : Cond.instanceMethod yX8_init ∈ sr_G := sr_in (List.mem_of_getElem? (i := 711) (by decide +kernel)) rfl
theorem lk_664 : Cond.code yX8_init cX8_init 1 (Option.none : Option FieldType) ∈ sr_G := sr_in (List.mem_of_getElem? (i := 712) (by decide +kernel)) rfl
theorem lk_665 : Cond.methodLink RX8 1 objectInit ∈ sr_G := sr_in (List.mem_of_getElem? (i := 713) (by decide +kernel)) rfl
theorem lk_666 : Cond.fieldLink RX8 7 "StagedRolloutModel" "v" "[I" ∈ sr_G := sr_in (List.mem_of_getElem? (i := 714) (by decide +kernel)) rfl
theorem lk_667 : Cond.fieldLink RX8 13 "StagedRolloutModel" "spare" "[I" ∈ sr_G := sr_in (List.mem_of_getElem? (i := 715) (by decide +kernel)) rfl
theorem lk_668 : Cond.fieldLink RX8 16 "StagedRolloutModel" "kept" "[I" ∈ sr_G := sr_in (List.mem_of_getElem? (i := 716) (by decide +kernel)) rfl
theorem lk_669 : Cond.fieldLink RX8 19 "StagedRolloutModel" "isKept" "[Z" ∈ sr_G := sr_in (List.mem_of_getElem? (i := 717) (by decide +kernel)) rfl
theorem lk_670 : Cond.fieldLink RX8 23 "StagedRolloutModel" "text" "[I" ∈ sr_G := sr_in (List.mem_of_getElem? (i := 718) (by decide +kernel)) rfl
theorem lk_671 : Cond.fieldLink RX8 63 "StagedRolloutModel" "length" "I" ∈ sr_G := sr_in (List.mem_of_getElem? (i := 719) (by decide +kernel)) rfl
theorem lk_672 : Cond.fieldLink RX8 131 "StagedRolloutModel" "isForecast" "Z" ∈ sr_G := sr_in (List.mem_of_getElem? (i := 720) (by decide +kernel)) rfl
theorem lk_673 : Cond.fieldLink RX8 101 "StagedRolloutModel" "noted" "I" ∈ sr_G := sr_in (List.mem_of_getElem? (i := 721) (by decide +kernel)) rfl
theorem lk_674 : Cond.fieldLink RX8 67 "StagedRolloutModel" "place" "I" ∈ sr_G := sr_in (List.mem_of_getElem? (i := 722) (by decide +kernel)) rfl
theorem lk_675 : Cond.fieldLink RX8 26 "StagedRolloutModel" "told" "[I" ∈ sr_G := sr_in (List.mem_of_getElem? (i := 723) (by decide +kernel)) rfl
theorem lk_676 : Cond.fieldLink RX8 83 "StagedRolloutModel" "tellings" "I" ∈ sr_G := sr_in (List.mem_of_getElem? (i := 724) (by decide +kernel)) rfl
theorem lk_677 : Cond.fieldLink RX8 77 "StagedRolloutModel" "number" "I" ∈ sr_G := sr_in (List.mem_of_getElem? (i := 725) (by decide +kernel)) rfl
theorem lk_678 : Cond.fieldLink RX8 29 "StagedRolloutModel" "sets" "[J" ∈ sr_G := sr_in (List.mem_of_getElem? (i := 726) (by decide +kernel)) rfl
theorem lk_679 : Cond.fieldLink RX8 117 "StagedRolloutModel" "above" "J" ∈ sr_G := sr_in (List.mem_of_getElem? (i := 727) (by decide +kernel)) rfl
theorem lk_680 : Cond.fieldLink RX8 124 "StagedRolloutModel" "below" "J" ∈ sr_G := sr_in (List.mem_of_getElem? (i := 728) (by decide +kernel)) rfl
theorem lk_712 : Cond.arrayClass (FieldType.long) ∈ sr_G := sr_in (List.mem_of_getElem? (i := 760) (by decide +kernel)) rfl
theorem lk_713 : Cond.methodLink RL 17 yX8_begin ∈ sr_G := sr_in (List.mem_of_getElem? (i := 761) (by decide +kernel)) rfl
theorem lk_714 : Cond.instanceMethod yX8_begin ∈ sr_G := sr_in (List.mem_of_getElem? (i := 762) (by decide +kernel)) rfl
theorem lk_715 : Cond.selects RX8 yX8_begin yX8_begin ∈ sr_G := sr_in (List.mem_of_getElem? (i := 763) (by decide +kernel)) rfl
theorem lk_716 : Cond.code yX8_begin cX8_begin 5 (Option.some FieldType.int) ∈ sr_G := sr_in (List.mem_of_getElem? (i := 764) (by decide +kernel)) rfl
theorem lk_717 : Cond.methodLink RX8 37 yX8_in ∈ sr_G := sr_in (List.mem_of_getElem? (i := 765) (by decide +kernel)) rfl
theorem lk_718 : Cond.static yX8_in ∈ sr_G := sr_in (List.mem_of_getElem? (i := 766) (by decide +kernel)) rfl
theorem lk_719 : Cond.code yX8_in cX8_in 3 (Option.some FieldType.boolean) ∈ sr_G := sr_in (List.mem_of_getElem? (i := 767) (by decide +kernel)) rfl
theorem lk_720 : Cond.methodLink RL 21 yX8_setLimit ∈ sr_G := sr_in (List.mem_of_getElem? (i := 768) (by decide +kernel)) rfl
theorem lk_721 : Cond.instanceMethod yX8_setLimit ∈ sr_G := sr_in (List.mem_of_getElem? (i := 769) (by decide +kernel)) rfl
theorem lk_722 : Cond.selects RX8 yX8_setLimit yX8_setLimit ∈ sr_G := sr_in (List.mem_of_getElem? (i := 770) (by decide +kernel)) rfl
theorem lk_723 : Cond.code yX8_setLimit cX8_setLimit 2 (Option.some FieldType.int) ∈ sr_G := sr_in (List.mem_of_getElem? (i := 771) (by decide +kernel)) rfl
theorem lk_724 : Cond.methodLink RX8 41 yX8_puts ∈ sr_G := sr_in (List.mem_of_getElem? (i := 772) (by decide +kernel)) rfl
theorem lk_726 : Cond.instanceMethod yX8_puts ∈ sr_G := sr_in (List.mem_of_getElem? (i := 774) (by decide +kernel)) rfl
theorem lk_727 : Cond.code yX8_puts cX8_puts 4 (Option.some FieldType.int) ∈ sr_G := sr_in (List.mem_of_getElem? (i := 775) (by decide +kernel)) rfl
theorem lk_728 : Cond.methodLink RL 26 yX8_freeze ∈ sr_G := sr_in (List.mem_of_getElem? (i := 776) (by decide +kernel)) rfl
theorem lk_729 : Cond.instanceMethod yX8_freeze ∈ sr_G := sr_in (List.mem_of_getElem? (i := 777) (by decide +kernel)) rfl
theorem lk_730 : Cond.selects RX8 yX8_freeze yX8_freeze ∈ sr_G := sr_in (List.mem_of_getElem? (i := 778) (by decide +kernel)) rfl
theorem lk_731 : Cond.code yX8_freeze cX8_freeze 3 (Option.some FieldType.int) ∈ sr_G := sr_in (List.mem_of_getElem? (i := 779) (by decide +kernel)) rfl
theorem lk_732 : Cond.methodLink RL 31 yX8_thaw ∈ sr_G := sr_in (List.mem_of_getElem? (i := 780) (by decide +kernel)) rfl
theorem lk_733 : Cond.instanceMethod yX8_thaw ∈ sr_G := sr_in (List.mem_of_getElem? (i := 781) (by decide +kernel)) rfl
theorem lk_734 : Cond.selects RX8 yX8_thaw yX8_thaw ∈ sr_G := sr_in (List.mem_of_getElem? (i := 782) (by decide +kernel)) rfl
theorem lk_735 : Cond.code yX8_thaw cX8_thaw 1 (Option.some FieldType.int) ∈ sr_G := sr_in (List.mem_of_getElem? (i := 783) (by decide +kernel)) rfl
theorem lk_736 : Cond.methodLink RL 36 yX8_addChange ∈ sr_G := sr_in (List.mem_of_getElem? (i := 784) (by decide +kernel)) rfl
theorem lk_737 : Cond.instanceMethod yX8_addChange ∈ sr_G := sr_in (List.mem_of_getElem? (i := 785) (by decide +kernel)) rfl
theorem lk_738 : Cond.selects RX8 yX8_addChange yX8_addChange ∈ sr_G := sr_in (List.mem_of_getElem? (i := 786) (by decide +kernel)) rfl
theorem lk_739 : Cond.code yX8_addChange cX8_addChange 4 (Option.some FieldType.int) ∈ sr_G := sr_in (List.mem_of_getElem? (i := 787) (by decide +kernel)) rfl
theorem lk_740 : Cond.methodLink RX8 33 yX8_at ∈ sr_G := sr_in (List.mem_of_getElem? (i := 788) (by decide +kernel)) rfl
theorem lk_741 : Cond.static yX8_at ∈ sr_G := sr_in (List.mem_of_getElem? (i := 789) (by decide +kernel)) rfl
theorem lk_742 : Cond.code yX8_at cX8_at 2 (Option.some FieldType.int) ∈ sr_G := sr_in (List.mem_of_getElem? (i := 790) (by decide +kernel)) rfl
theorem lk_743 : Cond.methodLink RL 41 yX8_addStage ∈ sr_G := sr_in (List.mem_of_getElem? (i := 791) (by decide +kernel)) rfl
theorem lk_744 : Cond.instanceMethod yX8_addStage ∈ sr_G := sr_in (List.mem_of_getElem? (i := 792) (by decide +kernel)) rfl
theorem lk_745 : Cond.selects RX8 yX8_addStage yX8_addStage ∈ sr_G := sr_in (List.mem_of_getElem? (i := 793) (by decide +kernel)) rfl
theorem lk_746 : Cond.code yX8_addStage cX8_addStage 6 (Option.some FieldType.int) ∈ sr_G := sr_in (List.mem_of_getElem? (i := 794) (by decide +kernel)) rfl
theorem lk_747 : Cond.methodLink RX8 48 yX8_isChange ∈ sr_G := sr_in (List.mem_of_getElem? (i := 795) (by decide +kernel)) rfl
theorem lk_749 : Cond.instanceMethod yX8_isChange ∈ sr_G := sr_in (List.mem_of_getElem? (i := 797) (by decide +kernel)) rfl
theorem lk_750 : Cond.code yX8_isChange cX8_isChange 2 (Option.some FieldType.boolean) ∈ sr_G := sr_in (List.mem_of_getElem? (i := 798) (by decide +kernel)) rfl
theorem lk_751 : Cond.methodLink RX8 52 yX8_cellsOf ∈ sr_G := sr_in (List.mem_of_getElem? (i := 799) (by decide +kernel)) rfl
theorem lk_753 : Cond.instanceMethod yX8_cellsOf ∈ sr_G := sr_in (List.mem_of_getElem? (i := 801) (by decide +kernel)) rfl
theorem lk_754 : Cond.code yX8_cellsOf cX8_cellsOf 5 (Option.some FieldType.int) ∈ sr_G := sr_in (List.mem_of_getElem? (i := 802) (by decide +kernel)) rfl
theorem lk_755 : Cond.methodLink RX8 44 yX8_stageAt ∈ sr_G := sr_in (List.mem_of_getElem? (i := 803) (by decide +kernel)) rfl
theorem lk_756 : Cond.static yX8_stageAt ∈ sr_G := sr_in (List.mem_of_getElem? (i := 804) (by decide +kernel)) rfl
theorem lk_757 : Cond.code yX8_stageAt cX8_stageAt 3 (Option.some FieldType.int) ∈ sr_G := sr_in (List.mem_of_getElem? (i := 805) (by decide +kernel)) rfl
theorem lk_758 : Cond.methodLink RX8 55 yX8_adds ∈ sr_G := sr_in (List.mem_of_getElem? (i := 806) (by decide +kernel)) rfl
theorem lk_760 : Cond.instanceMethod yX8_adds ∈ sr_G := sr_in (List.mem_of_getElem? (i := 808) (by decide +kernel)) rfl
theorem lk_761 : Cond.code yX8_adds cX8_adds 6 (Option.none : Option FieldType) ∈ sr_G := sr_in (List.mem_of_getElem? (i := 809) (by decide +kernel)) rfl
theorem lk_762 : Cond.methodLink RL 45 yX8_putAfter ∈ sr_G := sr_in (List.mem_of_getElem? (i := 810) (by decide +kernel)) rfl
theorem lk_763 : Cond.instanceMethod yX8_putAfter ∈ sr_G := sr_in (List.mem_of_getElem? (i := 811) (by decide +kernel)) rfl
theorem lk_764 : Cond.selects RX8 yX8_putAfter yX8_putAfter ∈ sr_G := sr_in (List.mem_of_getElem? (i := 812) (by decide +kernel)) rfl
theorem lk_765 : Cond.code yX8_putAfter cX8_putAfter 3 (Option.some FieldType.int) ∈ sr_G := sr_in (List.mem_of_getElem? (i := 813) (by decide +kernel)) rfl
theorem lk_766 : Cond.methodLink RX8 59 yX8_size ∈ sr_G := sr_in (List.mem_of_getElem? (i := 814) (by decide +kernel)) rfl
theorem lk_767 : Cond.static yX8_size ∈ sr_G := sr_in (List.mem_of_getElem? (i := 815) (by decide +kernel)) rfl
theorem lk_768 : Cond.code yX8_size cX8_size 3 (Option.some FieldType.int) ∈ sr_G := sr_in (List.mem_of_getElem? (i := 816) (by decide +kernel)) rfl
theorem lk_769 : Cond.methodLink RL 49 yX8_changes ∈ sr_G := sr_in (List.mem_of_getElem? (i := 817) (by decide +kernel)) rfl
theorem lk_770 : Cond.instanceMethod yX8_changes ∈ sr_G := sr_in (List.mem_of_getElem? (i := 818) (by decide +kernel)) rfl
theorem lk_771 : Cond.selects RX8 yX8_changes yX8_changes ∈ sr_G := sr_in (List.mem_of_getElem? (i := 819) (by decide +kernel)) rfl
theorem lk_772 : Cond.code yX8_changes cX8_changes 1 (Option.some FieldType.int) ∈ sr_G := sr_in (List.mem_of_getElem? (i := 820) (by decide +kernel)) rfl
theorem lk_773 : Cond.methodLink RL 54 yX8_stage ∈ sr_G := sr_in (List.mem_of_getElem? (i := 821) (by decide +kernel)) rfl
theorem lk_774 : Cond.instanceMethod yX8_stage ∈ sr_G := sr_in (List.mem_of_getElem? (i := 822) (by decide +kernel)) rfl
theorem lk_775 : Cond.selects RX8 yX8_stage yX8_stage ∈ sr_G := sr_in (List.mem_of_getElem? (i := 823) (by decide +kernel)) rfl
theorem lk_776 : Cond.code yX8_stage cX8_stage 4 (Option.some FieldType.int) ∈ sr_G := sr_in (List.mem_of_getElem? (i := 824) (by decide +kernel)) rfl
theorem lk_777 : Cond.methodLink RL 58 yX8_append ∈ sr_G := sr_in (List.mem_of_getElem? (i := 825) (by decide +kernel)) rfl
theorem lk_778 : Cond.instanceMethod yX8_append ∈ sr_G := sr_in (List.mem_of_getElem? (i := 826) (by decide +kernel)) rfl
theorem lk_779 : Cond.selects RX8 yX8_append yX8_append ∈ sr_G := sr_in (List.mem_of_getElem? (i := 827) (by decide +kernel)) rfl
theorem lk_780 : Cond.code yX8_append cX8_append 2 (Option.some FieldType.int) ∈ sr_G := sr_in (List.mem_of_getElem? (i := 828) (by decide +kernel)) rfl
theorem lk_781 : Cond.methodLink RL 62 yX8_clearText ∈ sr_G := sr_in (List.mem_of_getElem? (i := 829) (by decide +kernel)) rfl
theorem lk_782 : Cond.instanceMethod yX8_clearText ∈ sr_G := sr_in (List.mem_of_getElem? (i := 830) (by decide +kernel)) rfl
theorem lk_783 : Cond.selects RX8 yX8_clearText yX8_clearText ∈ sr_G := sr_in (List.mem_of_getElem? (i := 831) (by decide +kernel)) rfl
theorem lk_784 : Cond.code yX8_clearText cX8_clearText 2 (Option.some FieldType.int) ∈ sr_G := sr_in (List.mem_of_getElem? (i := 832) (by decide +kernel)) rfl
theorem lk_785 : Cond.methodLink RL 66 yX8_faultPosition ∈ sr_G := sr_in (List.mem_of_getElem? (i := 833) (by decide +kernel)) rfl
theorem lk_786 : Cond.instanceMethod yX8_faultPosition ∈ sr_G := sr_in (List.mem_of_getElem? (i := 834) (by decide +kernel)) rfl
theorem lk_787 : Cond.selects RX8 yX8_faultPosition yX8_faultPosition ∈ sr_G := sr_in (List.mem_of_getElem? (i := 835) (by decide +kernel)) rfl
theorem lk_788 : Cond.code yX8_faultPosition cX8_faultPosition 1 (Option.some FieldType.int) ∈ sr_G := sr_in (List.mem_of_getElem? (i := 836) (by decide +kernel)) rfl
theorem lk_789 : Cond.methodLink RX8 97 yX8_isText ∈ sr_G := sr_in (List.mem_of_getElem? (i := 837) (by decide +kernel)) rfl
theorem lk_791 : Cond.instanceMethod yX8_isText ∈ sr_G := sr_in (List.mem_of_getElem? (i := 839) (by decide +kernel)) rfl
theorem lk_792 : Cond.code yX8_isText cX8_isText 3 (Option.some FieldType.boolean) ∈ sr_G := sr_in (List.mem_of_getElem? (i := 840) (by decide +kernel)) rfl
theorem lk_793 : Cond.methodLink RX8 94 yX8_isStage ∈ sr_G := sr_in (List.mem_of_getElem? (i := 841) (by decide +kernel)) rfl
theorem lk_795 : Cond.instanceMethod yX8_isStage ∈ sr_G := sr_in (List.mem_of_getElem? (i := 843) (by decide +kernel)) rfl
theorem lk_796 : Cond.code yX8_isStage cX8_isStage 3 (Option.some FieldType.boolean) ∈ sr_G := sr_in (List.mem_of_getElem? (i := 844) (by decide +kernel)) rfl
theorem lk_797 : Cond.methodLink RX8 86 yX8_cells ∈ sr_G := sr_in (List.mem_of_getElem? (i := 845) (by decide +kernel)) rfl
theorem lk_799 : Cond.instanceMethod yX8_cells ∈ sr_G := sr_in (List.mem_of_getElem? (i := 847) (by decide +kernel)) rfl
theorem lk_800 : Cond.code yX8_cells cX8_cells 5 (Option.some FieldType.boolean) ∈ sr_G := sr_in (List.mem_of_getElem? (i := 848) (by decide +kernel)) rfl
theorem lk_801 : Cond.methodLink RX8 74 yX8_digit ∈ sr_G := sr_in (List.mem_of_getElem? (i := 849) (by decide +kernel)) rfl
theorem lk_803 : Cond.instanceMethod yX8_digit ∈ sr_G := sr_in (List.mem_of_getElem? (i := 851) (by decide +kernel)) rfl
theorem lk_804 : Cond.code yX8_digit cX8_digit 1 (Option.some FieldType.int) ∈ sr_G := sr_in (List.mem_of_getElem? (i := 852) (by decide +kernel)) rfl
theorem lk_805 : Cond.methodLink RX8 70 yX8_here ∈ sr_G := sr_in (List.mem_of_getElem? (i := 853) (by decide +kernel)) rfl
theorem lk_807 : Cond.instanceMethod yX8_here ∈ sr_G := sr_in (List.mem_of_getElem? (i := 855) (by decide +kernel)) rfl
theorem lk_808 : Cond.code yX8_here cX8_here 1 (Option.some FieldType.int) ∈ sr_G := sr_in (List.mem_of_getElem? (i := 856) (by decide +kernel)) rfl
theorem lk_809 : Cond.methodLink RX8 80 yX8_isCell ∈ sr_G := sr_in (List.mem_of_getElem? (i := 857) (by decide +kernel)) rfl
theorem lk_811 : Cond.instanceMethod yX8_isCell ∈ sr_G := sr_in (List.mem_of_getElem? (i := 859) (by decide +kernel)) rfl
theorem lk_812 : Cond.code yX8_isCell cX8_isCell 2 (Option.some FieldType.boolean) ∈ sr_G := sr_in (List.mem_of_getElem? (i := 860) (by decide +kernel)) rfl
theorem lk_813 : Cond.methodLink RX8 89 yX8_takes ∈ sr_G := sr_in (List.mem_of_getElem? (i := 861) (by decide +kernel)) rfl
theorem lk_815 : Cond.instanceMethod yX8_takes ∈ sr_G := sr_in (List.mem_of_getElem? (i := 863) (by decide +kernel)) rfl
theorem lk_816 : Cond.code yX8_takes cX8_takes 3 (Option.some FieldType.boolean) ∈ sr_G := sr_in (List.mem_of_getElem? (i := 864) (by decide +kernel)) rfl
theorem lk_817 : Cond.methodLink RX8 92 yX8_number ∈ sr_G := sr_in (List.mem_of_getElem? (i := 865) (by decide +kernel)) rfl
theorem lk_819 : Cond.instanceMethod yX8_number ∈ sr_G := sr_in (List.mem_of_getElem? (i := 867) (by decide +kernel)) rfl
theorem lk_820 : Cond.code yX8_number cX8_number 4 (Option.some FieldType.boolean) ∈ sr_G := sr_in (List.mem_of_getElem? (i := 868) (by decide +kernel)) rfl
theorem lk_821 : Cond.methodLink RL 70 yX8_read ∈ sr_G := sr_in (List.mem_of_getElem? (i := 869) (by decide +kernel)) rfl
theorem lk_822 : Cond.instanceMethod yX8_read ∈ sr_G := sr_in (List.mem_of_getElem? (i := 870) (by decide +kernel)) rfl
theorem lk_823 : Cond.selects RX8 yX8_read yX8_read ∈ sr_G := sr_in (List.mem_of_getElem? (i := 871) (by decide +kernel)) rfl
theorem lk_824 : Cond.code yX8_read cX8_read 3 (Option.some FieldType.int) ∈ sr_G := sr_in (List.mem_of_getElem? (i := 872) (by decide +kernel)) rfl
theorem lk_825 : Cond.methodLink RL 74 yX8_start ∈ sr_G := sr_in (List.mem_of_getElem? (i := 873) (by decide +kernel)) rfl
theorem lk_826 : Cond.instanceMethod yX8_start ∈ sr_G := sr_in (List.mem_of_getElem? (i := 874) (by decide +kernel)) rfl
theorem lk_827 : Cond.selects RX8 yX8_start yX8_start ∈ sr_G := sr_in (List.mem_of_getElem? (i := 875) (by decide +kernel)) rfl
theorem lk_828 : Cond.code yX8_start cX8_start 2 (Option.some FieldType.int) ∈ sr_G := sr_in (List.mem_of_getElem? (i := 876) (by decide +kernel)) rfl
theorem lk_829 : Cond.methodLink RL 78 yX8_hold ∈ sr_G := sr_in (List.mem_of_getElem? (i := 877) (by decide +kernel)) rfl
theorem lk_830 : Cond.instanceMethod yX8_hold ∈ sr_G := sr_in (List.mem_of_getElem? (i := 878) (by decide +kernel)) rfl
theorem lk_831 : Cond.selects RX8 yX8_hold yX8_hold ∈ sr_G := sr_in (List.mem_of_getElem? (i := 879) (by decide +kernel)) rfl
theorem lk_832 : Cond.code yX8_hold cX8_hold 2 (Option.some FieldType.int) ∈ sr_G := sr_in (List.mem_of_getElem? (i := 880) (by decide +kernel)) rfl
theorem lk_833 : Cond.methodLink RX8 108 yX8_becomes ∈ sr_G := sr_in (List.mem_of_getElem? (i := 881) (by decide +kernel)) rfl
theorem lk_835 : Cond.instanceMethod yX8_becomes ∈ sr_G := sr_in (List.mem_of_getElem? (i := 883) (by decide +kernel)) rfl
theorem lk_836 : Cond.code yX8_becomes cX8_becomes 4 (Option.some FieldType.int) ∈ sr_G := sr_in (List.mem_of_getElem? (i := 884) (by decide +kernel)) rfl
theorem lk_837 : Cond.methodLink RX8 104 yX8_notes ∈ sr_G := sr_in (List.mem_of_getElem? (i := 885) (by decide +kernel)) rfl
theorem lk_839 : Cond.instanceMethod yX8_notes ∈ sr_G := sr_in (List.mem_of_getElem? (i := 887) (by decide +kernel)) rfl
theorem lk_840 : Cond.code yX8_notes cX8_notes 5 (Option.none : Option FieldType) ∈ sr_G := sr_in (List.mem_of_getElem? (i := 888) (by decide +kernel)) rfl
theorem lk_841 : Cond.methodLink RL 82 yX8_resume ∈ sr_G := sr_in (List.mem_of_getElem? (i := 889) (by decide +kernel)) rfl
theorem lk_842 : Cond.instanceMethod yX8_resume ∈ sr_G := sr_in (List.mem_of_getElem? (i := 890) (by decide +kernel)) rfl
theorem lk_843 : Cond.selects RX8 yX8_resume yX8_resume ∈ sr_G := sr_in (List.mem_of_getElem? (i := 891) (by decide +kernel)) rfl
theorem lk_844 : Cond.code yX8_resume cX8_resume 2 (Option.some FieldType.int) ∈ sr_G := sr_in (List.mem_of_getElem? (i := 892) (by decide +kernel)) rfl
theorem lk_845 : Cond.methodLink RL 86 yX8_turnBack ∈ sr_G := sr_in (List.mem_of_getElem? (i := 893) (by decide +kernel)) rfl
theorem lk_846 : Cond.instanceMethod yX8_turnBack ∈ sr_G := sr_in (List.mem_of_getElem? (i := 894) (by decide +kernel)) rfl
theorem lk_847 : Cond.selects RX8 yX8_turnBack yX8_turnBack ∈ sr_G := sr_in (List.mem_of_getElem? (i := 895) (by decide +kernel)) rfl
theorem lk_848 : Cond.code yX8_turnBack cX8_turnBack 2 (Option.some FieldType.int) ∈ sr_G := sr_in (List.mem_of_getElem? (i := 896) (by decide +kernel)) rfl
theorem lk_849 : Cond.methodLink RL 90 yX8_report ∈ sr_G := sr_in (List.mem_of_getElem? (i := 897) (by decide +kernel)) rfl
theorem lk_850 : Cond.instanceMethod yX8_report ∈ sr_G := sr_in (List.mem_of_getElem? (i := 898) (by decide +kernel)) rfl
theorem lk_851 : Cond.selects RX8 yX8_report yX8_report ∈ sr_G := sr_in (List.mem_of_getElem? (i := 899) (by decide +kernel)) rfl
theorem lk_852 : Cond.code yX8_report cX8_report 7 (Option.some FieldType.int) ∈ sr_G := sr_in (List.mem_of_getElem? (i := 900) (by decide +kernel)) rfl
theorem lk_853 : Cond.methodLink RX8 111 yX8_reached ∈ sr_G := sr_in (List.mem_of_getElem? (i := 901) (by decide +kernel)) rfl
theorem lk_855 : Cond.instanceMethod yX8_reached ∈ sr_G := sr_in (List.mem_of_getElem? (i := 903) (by decide +kernel)) rfl
theorem lk_856 : Cond.code yX8_reached cX8_reached 2 (Option.some FieldType.int) ∈ sr_G := sr_in (List.mem_of_getElem? (i := 904) (by decide +kernel)) rfl
theorem lk_857 : Cond.methodLink RX8 114 yX8_isOut ∈ sr_G := sr_in (List.mem_of_getElem? (i := 905) (by decide +kernel)) rfl
theorem lk_859 : Cond.instanceMethod yX8_isOut ∈ sr_G := sr_in (List.mem_of_getElem? (i := 907) (by decide +kernel)) rfl
theorem lk_860 : Cond.code yX8_isOut cX8_isOut 2 (Option.some FieldType.boolean) ∈ sr_G := sr_in (List.mem_of_getElem? (i := 908) (by decide +kernel)) rfl
theorem lk_861 : Cond.methodLink RL 94 yX8_pass ∈ sr_G := sr_in (List.mem_of_getElem? (i := 909) (by decide +kernel)) rfl
theorem lk_862 : Cond.instanceMethod yX8_pass ∈ sr_G := sr_in (List.mem_of_getElem? (i := 910) (by decide +kernel)) rfl
theorem lk_863 : Cond.selects RX8 yX8_pass yX8_pass ∈ sr_G := sr_in (List.mem_of_getElem? (i := 911) (by decide +kernel)) rfl
theorem lk_864 : Cond.code yX8_pass cX8_pass 3 (Option.some FieldType.int) ∈ sr_G := sr_in (List.mem_of_getElem? (i := 912) (by decide +kernel)) rfl
theorem lk_865 : Cond.methodLink RX8 164 yX8_passes ∈ sr_G := sr_in (List.mem_of_getElem? (i := 913) (by decide +kernel)) rfl
theorem lk_867 : Cond.instanceMethod yX8_passes ∈ sr_G := sr_in (List.mem_of_getElem? (i := 915) (by decide +kernel)) rfl
theorem lk_868 : Cond.code yX8_passes cX8_passes 3 (Option.none : Option FieldType) ∈ sr_G := sr_in (List.mem_of_getElem? (i := 916) (by decide +kernel)) rfl
theorem lk_869 : Cond.methodLink RX8 152 yX8_isBad ∈ sr_G := sr_in (List.mem_of_getElem? (i := 917) (by decide +kernel)) rfl
theorem lk_871 : Cond.instanceMethod yX8_isBad ∈ sr_G := sr_in (List.mem_of_getElem? (i := 919) (by decide +kernel)) rfl
theorem lk_872 : Cond.code yX8_isBad cX8_isBad 2 (Option.some FieldType.boolean) ∈ sr_G := sr_in (List.mem_of_getElem? (i := 920) (by decide +kernel)) rfl
theorem lk_873 : Cond.methodLink RX8 127 yX8_findChance ∈ sr_G := sr_in (List.mem_of_getElem? (i := 921) (by decide +kernel)) rfl
theorem lk_875 : Cond.instanceMethod yX8_findChance ∈ sr_G := sr_in (List.mem_of_getElem? (i := 923) (by decide +kernel)) rfl
theorem lk_876 : Cond.code yX8_findChance cX8_findChance 7 (Option.none : Option FieldType) ∈ sr_G := sr_in (List.mem_of_getElem? (i := 924) (by decide +kernel)) rfl
theorem lk_877 : Cond.methodLink RX8 121 yX8_sets ∈ sr_G := sr_in (List.mem_of_getElem? (i := 925) (by decide +kernel)) rfl
theorem lk_879 : Cond.instanceMethod yX8_sets ∈ sr_G := sr_in (List.mem_of_getElem? (i := 927) (by decide +kernel)) rfl
theorem lk_880 : Cond.code yX8_sets cX8_sets 5 (Option.some FieldType.long) ∈ sr_G := sr_in (List.mem_of_getElem? (i := 928) (by decide +kernel)) rfl
theorem lk_881 : Cond.constantLong RX8 135 1000 ∈ sr_G := sr_in (List.mem_of_getElem? (i := 929) (by decide +kernel)) rfl
theorem lk_882 : Cond.methodLink RX8 155 yX8_turnsOn ∈ sr_G := sr_in (List.mem_of_getElem? (i := 930) (by decide +kernel)) rfl
theorem lk_884 : Cond.instanceMethod yX8_turnsOn ∈ sr_G := sr_in (List.mem_of_getElem? (i := 932) (by decide +kernel)) rfl
theorem lk_885 : Cond.code yX8_turnsOn cX8_turnsOn 3 (Option.none : Option FieldType) ∈ sr_G := sr_in (List.mem_of_getElem? (i := 933) (by decide +kernel)) rfl
theorem lk_886 : Cond.methodLink RX8 158 yX8_reason ∈ sr_G := sr_in (List.mem_of_getElem? (i := 934) (by decide +kernel)) rfl
theorem lk_888 : Cond.instanceMethod yX8_reason ∈ sr_G := sr_in (List.mem_of_getElem? (i := 936) (by decide +kernel)) rfl
theorem lk_889 : Cond.code yX8_reason cX8_reason 4 (Option.some FieldType.int) ∈ sr_G := sr_in (List.mem_of_getElem? (i := 937) (by decide +kernel)) rfl
theorem lk_890 : Cond.methodLink RX8 137 yX8_hoursSince ∈ sr_G := sr_in (List.mem_of_getElem? (i := 938) (by decide +kernel)) rfl
theorem lk_892 : Cond.instanceMethod yX8_hoursSince ∈ sr_G := sr_in (List.mem_of_getElem? (i := 940) (by decide +kernel)) rfl
theorem lk_893 : Cond.code yX8_hoursSince cX8_hoursSince 3 (Option.some FieldType.int) ∈ sr_G := sr_in (List.mem_of_getElem? (i := 941) (by decide +kernel)) rfl
theorem lk_894 : Cond.methodLink RX8 140 yX8_lacks ∈ sr_G := sr_in (List.mem_of_getElem? (i := 942) (by decide +kernel)) rfl
theorem lk_896 : Cond.instanceMethod yX8_lacks ∈ sr_G := sr_in (List.mem_of_getElem? (i := 944) (by decide +kernel)) rfl
theorem lk_897 : Cond.code yX8_lacks cX8_lacks 5 (Option.some FieldType.boolean) ∈ sr_G := sr_in (List.mem_of_getElem? (i := 945) (by decide +kernel)) rfl
theorem lk_898 : Cond.methodLink RX8 143 yX8_isFrozenHour ∈ sr_G := sr_in (List.mem_of_getElem? (i := 946) (by decide +kernel)) rfl
theorem lk_900 : Cond.instanceMethod yX8_isFrozenHour ∈ sr_G := sr_in (List.mem_of_getElem? (i := 948) (by decide +kernel)) rfl
theorem lk_901 : Cond.code yX8_isFrozenHour cX8_isFrozenHour 4 (Option.some FieldType.boolean) ∈ sr_G := sr_in (List.mem_of_getElem? (i := 949) (by decide +kernel)) rfl
theorem lk_902 : Cond.methodLink RX8 146 yX8_areAllDone ∈ sr_G := sr_in (List.mem_of_getElem? (i := 950) (by decide +kernel)) rfl
theorem lk_904 : Cond.instanceMethod yX8_areAllDone ∈ sr_G := sr_in (List.mem_of_getElem? (i := 952) (by decide +kernel)) rfl
theorem lk_905 : Cond.code yX8_areAllDone cX8_areAllDone 4 (Option.some FieldType.boolean) ∈ sr_G := sr_in (List.mem_of_getElem? (i := 953) (by decide +kernel)) rfl
theorem lk_906 : Cond.methodLink RX8 149 yX8_isOtherRisk ∈ sr_G := sr_in (List.mem_of_getElem? (i := 954) (by decide +kernel)) rfl
theorem lk_908 : Cond.instanceMethod yX8_isOtherRisk ∈ sr_G := sr_in (List.mem_of_getElem? (i := 956) (by decide +kernel)) rfl
theorem lk_909 : Cond.code yX8_isOtherRisk cX8_isOtherRisk 6 (Option.some FieldType.boolean) ∈ sr_G := sr_in (List.mem_of_getElem? (i := 957) (by decide +kernel)) rfl
theorem lk_910 : Cond.methodLink RX8 161 yX8_goesOn ∈ sr_G := sr_in (List.mem_of_getElem? (i := 958) (by decide +kernel)) rfl
theorem lk_912 : Cond.instanceMethod yX8_goesOn ∈ sr_G := sr_in (List.mem_of_getElem? (i := 960) (by decide +kernel)) rfl
theorem lk_913 : Cond.code yX8_goesOn cX8_goesOn 4 (Option.none : Option FieldType) ∈ sr_G := sr_in (List.mem_of_getElem? (i := 961) (by decide +kernel)) rfl
theorem lk_914 : Cond.methodLink RL 98 yX8_time ∈ sr_G := sr_in (List.mem_of_getElem? (i := 962) (by decide +kernel)) rfl
theorem lk_915 : Cond.instanceMethod yX8_time ∈ sr_G := sr_in (List.mem_of_getElem? (i := 963) (by decide +kernel)) rfl
theorem lk_916 : Cond.selects RX8 yX8_time yX8_time ∈ sr_G := sr_in (List.mem_of_getElem? (i := 964) (by decide +kernel)) rfl
theorem lk_917 : Cond.code yX8_time cX8_time 1 (Option.some FieldType.int) ∈ sr_G := sr_in (List.mem_of_getElem? (i := 965) (by decide +kernel)) rfl
theorem lk_918 : Cond.methodLink RL 102 yX8_change ∈ sr_G := sr_in (List.mem_of_getElem? (i := 966) (by decide +kernel)) rfl
theorem lk_919 : Cond.instanceMethod yX8_change ∈ sr_G := sr_in (List.mem_of_getElem? (i := 967) (by decide +kernel)) rfl
theorem lk_920 : Cond.selects RX8 yX8_change yX8_change ∈ sr_G := sr_in (List.mem_of_getElem? (i := 968) (by decide +kernel)) rfl
theorem lk_921 : Cond.code yX8_change cX8_change 3 (Option.some FieldType.int) ∈ sr_G := sr_in (List.mem_of_getElem? (i := 969) (by decide +kernel)) rfl
theorem lk_922 : Cond.methodLink RX8 167 yX8_tells ∈ sr_G := sr_in (List.mem_of_getElem? (i := 970) (by decide +kernel)) rfl
theorem lk_924 : Cond.instanceMethod yX8_tells ∈ sr_G := sr_in (List.mem_of_getElem? (i := 972) (by decide +kernel)) rfl
theorem lk_925 : Cond.code yX8_tells cX8_tells 3 (Option.some FieldType.int) ∈ sr_G := sr_in (List.mem_of_getElem? (i := 973) (by decide +kernel)) rfl
theorem lk_926 : Cond.methodLink RL 106 yX8_probes ∈ sr_G := sr_in (List.mem_of_getElem? (i := 974) (by decide +kernel)) rfl
theorem lk_927 : Cond.instanceMethod yX8_probes ∈ sr_G := sr_in (List.mem_of_getElem? (i := 975) (by decide +kernel)) rfl
theorem lk_928 : Cond.selects RX8 yX8_probes yX8_probes ∈ sr_G := sr_in (List.mem_of_getElem? (i := 976) (by decide +kernel)) rfl
theorem lk_929 : Cond.code yX8_probes cX8_probes 3 (Option.some FieldType.int) ∈ sr_G := sr_in (List.mem_of_getElem? (i := 977) (by decide +kernel)) rfl
theorem lk_930 : Cond.methodLink RL 111 yX8_chance ∈ sr_G := sr_in (List.mem_of_getElem? (i := 978) (by decide +kernel)) rfl
theorem lk_931 : Cond.instanceMethod yX8_chance ∈ sr_G := sr_in (List.mem_of_getElem? (i := 979) (by decide +kernel)) rfl
theorem lk_932 : Cond.selects RX8 yX8_chance yX8_chance ∈ sr_G := sr_in (List.mem_of_getElem? (i := 980) (by decide +kernel)) rfl
theorem lk_933 : Cond.code yX8_chance cX8_chance 3 (Option.some FieldType.long) ∈ sr_G := sr_in (List.mem_of_getElem? (i := 981) (by decide +kernel)) rfl
theorem lk_934 : Cond.constantLong RX8 170 (-11) ∈ sr_G := sr_in (List.mem_of_getElem? (i := 982) (by decide +kernel)) rfl
theorem lk_935 : Cond.methodLink RX8 172 yX8_divisor ∈ sr_G := sr_in (List.mem_of_getElem? (i := 983) (by decide +kernel)) rfl
theorem lk_936 : Cond.static yX8_divisor ∈ sr_G := sr_in (List.mem_of_getElem? (i := 984) (by decide +kernel)) rfl
theorem lk_937 : Cond.code yX8_divisor cX8_divisor 10 (Option.some FieldType.long) ∈ sr_G := sr_in (List.mem_of_getElem? (i := 985) (by decide +kernel)) rfl
theorem lk_938 : Cond.methodLink RL 115 yX8_has ∈ sr_G := sr_in (List.mem_of_getElem? (i := 986) (by decide +kernel)) rfl
theorem lk_939 : Cond.instanceMethod yX8_has ∈ sr_G := sr_in (List.mem_of_getElem? (i := 987) (by decide +kernel)) rfl
theorem lk_940 : Cond.selects RX8 yX8_has yX8_has ∈ sr_G := sr_in (List.mem_of_getElem? (i := 988) (by decide +kernel)) rfl
theorem lk_941 : Cond.code yX8_has cX8_has 2 (Option.some FieldType.int) ∈ sr_G := sr_in (List.mem_of_getElem? (i := 989) (by decide +kernel)) rfl
theorem lk_942 : Cond.methodLink RX8 176 yX8_having ∈ sr_G := sr_in (List.mem_of_getElem? (i := 990) (by decide +kernel)) rfl
theorem lk_944 : Cond.instanceMethod yX8_having ∈ sr_G := sr_in (List.mem_of_getElem? (i := 992) (by decide +kernel)) rfl
theorem lk_945 : Cond.code yX8_having cX8_having 4 (Option.some FieldType.int) ∈ sr_G := sr_in (List.mem_of_getElem? (i := 993) (by decide +kernel)) rfl
theorem lk_946 : Cond.methodLink RL 119 yX8_isFrozen ∈ sr_G := sr_in (List.mem_of_getElem? (i := 994) (by decide +kernel)) rfl
theorem lk_947 : Cond.instanceMethod yX8_isFrozen ∈ sr_G := sr_in (List.mem_of_getElem? (i := 995) (by decide +kernel)) rfl
theorem lk_948 : Cond.selects RX8 yX8_isFrozen yX8_isFrozen ∈ sr_G := sr_in (List.mem_of_getElem? (i := 996) (by decide +kernel)) rfl
theorem lk_949 : Cond.code yX8_isFrozen cX8_isFrozen 2 (Option.some FieldType.int) ∈ sr_G := sr_in (List.mem_of_getElem? (i := 997) (by decide +kernel)) rfl
theorem lk_950 : Cond.methodLink RL 123 yX8_forecast ∈ sr_G := sr_in (List.mem_of_getElem? (i := 998) (by decide +kernel)) rfl
theorem lk_951 : Cond.instanceMethod yX8_forecast ∈ sr_G := sr_in (List.mem_of_getElem? (i := 999) (by decide +kernel)) rfl
theorem lk_952 : Cond.selects RX8 yX8_forecast yX8_forecast ∈ sr_G := sr_in (List.mem_of_getElem? (i := 1000) (by decide +kernel)) rfl
theorem lk_953 : Cond.code yX8_forecast cX8_forecast 5 (Option.some FieldType.int) ∈ sr_G := sr_in (List.mem_of_getElem? (i := 1001) (by decide +kernel)) rfl
theorem lk_954 : Cond.methodLink RX8 179 yX8_isOver ∈ sr_G := sr_in (List.mem_of_getElem? (i := 1002) (by decide +kernel)) rfl
theorem lk_956 : Cond.instanceMethod yX8_isOver ∈ sr_G := sr_in (List.mem_of_getElem? (i := 1004) (by decide +kernel)) rfl
theorem lk_957 : Cond.code yX8_isOver cX8_isOver 2 (Option.some FieldType.boolean) ∈ sr_G := sr_in (List.mem_of_getElem? (i := 1005) (by decide +kernel)) rfl
theorem lk_958 : Cond.methodLink RL 127 yX8_entries ∈ sr_G := sr_in (List.mem_of_getElem? (i := 1006) (by decide +kernel)) rfl
theorem lk_959 : Cond.instanceMethod yX8_entries ∈ sr_G := sr_in (List.mem_of_getElem? (i := 1007) (by decide +kernel)) rfl
theorem lk_960 : Cond.selects RX8 yX8_entries yX8_entries ∈ sr_G := sr_in (List.mem_of_getElem? (i := 1008) (by decide +kernel)) rfl
theorem lk_961 : Cond.code yX8_entries cX8_entries 1 (Option.some FieldType.int) ∈ sr_G := sr_in (List.mem_of_getElem? (i := 1009) (by decide +kernel)) rfl
theorem lk_962 : Cond.methodLink RL 131 yX8_entry ∈ sr_G := sr_in (List.mem_of_getElem? (i := 1010) (by decide +kernel)) rfl
theorem lk_963 : Cond.instanceMethod yX8_entry ∈ sr_G := sr_in (List.mem_of_getElem? (i := 1011) (by decide +kernel)) rfl
theorem lk_964 : Cond.selects RX8 yX8_entry yX8_entry ∈ sr_G := sr_in (List.mem_of_getElem? (i := 1012) (by decide +kernel)) rfl
theorem lk_965 : Cond.code yX8_entry cX8_entry 3 (Option.some FieldType.int) ∈ sr_G := sr_in (List.mem_of_getElem? (i := 1013) (by decide +kernel)) rfl
theorem lk_966 : Cond.methodLink RL 135 yX8_count ∈ sr_G := sr_in (List.mem_of_getElem? (i := 1014) (by decide +kernel)) rfl
theorem lk_967 : Cond.instanceMethod yX8_count ∈ sr_G := sr_in (List.mem_of_getElem? (i := 1015) (by decide +kernel)) rfl
theorem lk_968 : Cond.selects RX8 yX8_count yX8_count ∈ sr_G := sr_in (List.mem_of_getElem? (i := 1016) (by decide +kernel)) rfl
theorem lk_969 : Cond.code yX8_count cX8_count 5 (Option.some FieldType.int) ∈ sr_G := sr_in (List.mem_of_getElem? (i := 1017) (by decide +kernel)) rfl
theorem lk_970 : Cond.methodLink RL 139 yX8_save ∈ sr_G := sr_in (List.mem_of_getElem? (i := 1018) (by decide +kernel)) rfl
theorem lk_971 : Cond.instanceMethod yX8_save ∈ sr_G := sr_in (List.mem_of_getElem? (i := 1019) (by decide +kernel)) rfl
theorem lk_972 : Cond.selects RX8 yX8_save yX8_save ∈ sr_G := sr_in (List.mem_of_getElem? (i := 1020) (by decide +kernel)) rfl
theorem lk_973 : Cond.code yX8_save cX8_save 3 (Option.some FieldType.int) ∈ sr_G := sr_in (List.mem_of_getElem? (i := 1021) (by decide +kernel)) rfl
theorem lk_974 : Cond.methodLink RL 143 yX8_restore ∈ sr_G := sr_in (List.mem_of_getElem? (i := 1022) (by decide +kernel)) rfl
theorem lk_975 : Cond.instanceMethod yX8_restore ∈ sr_G := sr_in (List.mem_of_getElem? (i := 1023) (by decide +kernel)) rfl
theorem lk_976 : Cond.selects RX8 yX8_restore yX8_restore ∈ sr_G := sr_in (List.mem_of_getElem? (i := 1024) (by decide +kernel)) rfl
theorem lk_977 : Cond.code yX8_restore cX8_restore 3 (Option.some FieldType.int) ∈ sr_G := sr_in (List.mem_of_getElem? (i := 1025) (by decide +kernel)) rfl
theorem lk_978 : Cond.methodLink RL 148 yX8_checksum ∈ sr_G := sr_in (List.mem_of_getElem? (i := 1026) (by decide +kernel)) rfl
theorem lk_979 : Cond.instanceMethod yX8_checksum ∈ sr_G := sr_in (List.mem_of_getElem? (i := 1027) (by decide +kernel)) rfl
theorem lk_980 : Cond.selects RX8 yX8_checksum yX8_checksum ∈ sr_G := sr_in (List.mem_of_getElem? (i := 1028) (by decide +kernel)) rfl
theorem lk_981 : Cond.code yX8_checksum cX8_checksum 5 (Option.some FieldType.long) ∈ sr_G := sr_in (List.mem_of_getElem? (i := 1029) (by decide +kernel)) rfl
theorem lk_982 : Cond.constantLong RX8 184 79 ∈ sr_G := sr_in (List.mem_of_getElem? (i := 1030) (by decide +kernel)) rfl
theorem lk_983 : Cond.methodLink RX8 186 yX8_more ∈ sr_G := sr_in (List.mem_of_getElem? (i := 1031) (by decide +kernel)) rfl
theorem lk_984 : Cond.static yX8_more ∈ sr_G := sr_in (List.mem_of_getElem? (i := 1032) (by decide +kernel)) rfl
theorem lk_985 : Cond.code yX8_more cX8_more 4 (Option.some FieldType.long) ∈ sr_G := sr_in (List.mem_of_getElem? (i := 1033) (by decide +kernel)) rfl
theorem lk_986 : Cond.constantLong RX8 182 31 ∈ sr_G := sr_in (List.mem_of_getElem? (i := 1034) (by decide +kernel)) rfl
theorem lk_987 : Cond.methodLink RX8 189 yX8_chance ∈ sr_G := sr_in (List.mem_of_getElem? (i := 1035) (by decide +kernel)) rfl
theorem lp_0 : Cond.selects RX5 yX5_parseStage yX5_parseStage ∈ sr_G := sr_in (List.mem_of_getElem? (i := 0) (by decide +kernel)) rfl
theorem lp_1 : Cond.selects RX5 yX5_parseCells yX5_parseCells ∈ sr_G := sr_in (List.mem_of_getElem? (i := 1) (by decide +kernel)) rfl
theorem lp_2 : Cond.selects RX5 yX5_digitAt yX5_digitAt ∈ sr_G := sr_in (List.mem_of_getElem? (i := 2) (by decide +kernel)) rfl
theorem lp_3 : Cond.selects RX5 yX5_letterAt yX5_letterAt ∈ sr_G := sr_in (List.mem_of_getElem? (i := 3) (by decide +kernel)) rfl
theorem lp_4 : Cond.selects RX5 yX5_skip yX5_skip ∈ sr_G := sr_in (List.mem_of_getElem? (i := 4) (by decide +kernel)) rfl
theorem lp_5 : Cond.selects RX5 yX5_parseNumber yX5_parseNumber ∈ sr_G := sr_in (List.mem_of_getElem? (i := 5) (by decide +kernel)) rfl
theorem lp_6 : Cond.selects RX7 yX7_move yX7_move ∈ sr_G := sr_in (List.mem_of_getElem? (i := 6) (by decide +kernel)) rfl
theorem lp_7 : Cond.selects RX3 yX3_placeOf yX3_placeOf ∈ sr_G := sr_in (List.mem_of_getElem? (i := 7) (by decide +kernel)) rfl
theorem lp_8 : Cond.selects RX6 yX6_computeChance yX6_computeChance ∈ sr_G := sr_in (List.mem_of_getElem? (i := 8) (by decide +kernel)) rfl
theorem lp_9 : Cond.selects RX1 yX1_moveInHour yX1_moveInHour ∈ sr_G := sr_in (List.mem_of_getElem? (i := 9) (by decide +kernel)) rfl
theorem lp_10 : Cond.selects RX1 yX1_hasBadChance yX1_hasBadChance ∈ sr_G := sr_in (List.mem_of_getElem? (i := 10) (by decide +kernel)) rfl
theorem lp_11 : Cond.selects RX1 yX1_turnStage yX1_turnStage ∈ sr_G := sr_in (List.mem_of_getElem? (i := 11) (by decide +kernel)) rfl
theorem lp_12 : Cond.selects RX1 yX1_reasonBeforeFirstStage yX1_reasonBeforeFirstStage ∈ sr_G := sr_in (List.mem_of_getElem? (i := 12) (by decide +kernel)) rfl
theorem lp_13 : Cond.selects RX1 yX1_lacksDone yX1_lacksDone ∈ sr_G := sr_in (List.mem_of_getElem? (i := 13) (by decide +kernel)) rfl
theorem lp_14 : Cond.selects RX1 yX1_meetsOtherRisk yX1_meetsOtherRisk ∈ sr_G := sr_in (List.mem_of_getElem? (i := 14) (by decide +kernel)) rfl
theorem lp_15 : Cond.selects RX1 yX1_goOn yX1_goOn ∈ sr_G := sr_in (List.mem_of_getElem? (i := 15) (by decide +kernel)) rfl
theorem lp_16 : Cond.selects RX7 yX7_mixChange yX7_mixChange ∈ sr_G := sr_in (List.mem_of_getElem? (i := 16) (by decide +kernel)) rfl
theorem lp_17 : Cond.selects RX8 yX8_puts yX8_puts ∈ sr_G := sr_in (List.mem_of_getElem? (i := 17) (by decide +kernel)) rfl
theorem lp_18 : Cond.selects RX8 yX8_isChange yX8_isChange ∈ sr_G := sr_in (List.mem_of_getElem? (i := 18) (by decide +kernel)) rfl
theorem lp_19 : Cond.selects RX8 yX8_cellsOf yX8_cellsOf ∈ sr_G := sr_in (List.mem_of_getElem? (i := 19) (by decide +kernel)) rfl
theorem lp_20 : Cond.selects RX8 yX8_adds yX8_adds ∈ sr_G := sr_in (List.mem_of_getElem? (i := 20) (by decide +kernel)) rfl
theorem lp_21 : Cond.selects RX8 yX8_isText yX8_isText ∈ sr_G := sr_in (List.mem_of_getElem? (i := 21) (by decide +kernel)) rfl
theorem lp_22 : Cond.selects RX8 yX8_isStage yX8_isStage ∈ sr_G := sr_in (List.mem_of_getElem? (i := 22) (by decide +kernel)) rfl
theorem lp_23 : Cond.selects RX8 yX8_cells yX8_cells ∈ sr_G := sr_in (List.mem_of_getElem? (i := 23) (by decide +kernel)) rfl
theorem lp_24 : Cond.selects RX8 yX8_digit yX8_digit ∈ sr_G := sr_in (List.mem_of_getElem? (i := 24) (by decide +kernel)) rfl
theorem lp_25 : Cond.selects RX8 yX8_here yX8_here ∈ sr_G := sr_in (List.mem_of_getElem? (i := 25) (by decide +kernel)) rfl
theorem lp_26 : Cond.selects RX8 yX8_isCell yX8_isCell ∈ sr_G := sr_in (List.mem_of_getElem? (i := 26) (by decide +kernel)) rfl
theorem lp_27 : Cond.selects RX8 yX8_takes yX8_takes ∈ sr_G := sr_in (List.mem_of_getElem? (i := 27) (by decide +kernel)) rfl
theorem lp_28 : Cond.selects RX8 yX8_number yX8_number ∈ sr_G := sr_in (List.mem_of_getElem? (i := 28) (by decide +kernel)) rfl
theorem lp_29 : Cond.selects RX8 yX8_becomes yX8_becomes ∈ sr_G := sr_in (List.mem_of_getElem? (i := 29) (by decide +kernel)) rfl
theorem lp_30 : Cond.selects RX8 yX8_notes yX8_notes ∈ sr_G := sr_in (List.mem_of_getElem? (i := 30) (by decide +kernel)) rfl
theorem lp_31 : Cond.selects RX8 yX8_reached yX8_reached ∈ sr_G := sr_in (List.mem_of_getElem? (i := 31) (by decide +kernel)) rfl
theorem lp_32 : Cond.selects RX8 yX8_isOut yX8_isOut ∈ sr_G := sr_in (List.mem_of_getElem? (i := 32) (by decide +kernel)) rfl
theorem lp_33 : Cond.selects RX8 yX8_passes yX8_passes ∈ sr_G := sr_in (List.mem_of_getElem? (i := 33) (by decide +kernel)) rfl
theorem lp_34 : Cond.selects RX8 yX8_isBad yX8_isBad ∈ sr_G := sr_in (List.mem_of_getElem? (i := 34) (by decide +kernel)) rfl
theorem lp_35 : Cond.selects RX8 yX8_findChance yX8_findChance ∈ sr_G := sr_in (List.mem_of_getElem? (i := 35) (by decide +kernel)) rfl
theorem lp_36 : Cond.selects RX8 yX8_sets yX8_sets ∈ sr_G := sr_in (List.mem_of_getElem? (i := 36) (by decide +kernel)) rfl
theorem lp_37 : Cond.selects RX8 yX8_turnsOn yX8_turnsOn ∈ sr_G := sr_in (List.mem_of_getElem? (i := 37) (by decide +kernel)) rfl
theorem lp_38 : Cond.selects RX8 yX8_reason yX8_reason ∈ sr_G := sr_in (List.mem_of_getElem? (i := 38) (by decide +kernel)) rfl
theorem lp_39 : Cond.selects RX8 yX8_hoursSince yX8_hoursSince ∈ sr_G := sr_in (List.mem_of_getElem? (i := 39) (by decide +kernel)) rfl
theorem lp_40 : Cond.selects RX8 yX8_lacks yX8_lacks ∈ sr_G := sr_in (List.mem_of_getElem? (i := 40) (by decide +kernel)) rfl
theorem lp_41 : Cond.selects RX8 yX8_isFrozenHour yX8_isFrozenHour ∈ sr_G := sr_in (List.mem_of_getElem? (i := 41) (by decide +kernel)) rfl
theorem lp_42 : Cond.selects RX8 yX8_areAllDone yX8_areAllDone ∈ sr_G := sr_in (List.mem_of_getElem? (i := 42) (by decide +kernel)) rfl
theorem lp_43 : Cond.selects RX8 yX8_isOtherRisk yX8_isOtherRisk ∈ sr_G := sr_in (List.mem_of_getElem? (i := 43) (by decide +kernel)) rfl
theorem lp_44 : Cond.selects RX8 yX8_goesOn yX8_goesOn ∈ sr_G := sr_in (List.mem_of_getElem? (i := 44) (by decide +kernel)) rfl
theorem lp_45 : Cond.selects RX8 yX8_tells yX8_tells ∈ sr_G := sr_in (List.mem_of_getElem? (i := 45) (by decide +kernel)) rfl
theorem lp_46 : Cond.selects RX8 yX8_having yX8_having ∈ sr_G := sr_in (List.mem_of_getElem? (i := 46) (by decide +kernel)) rfl
theorem lp_47 : Cond.selects RX8 yX8_isOver yX8_isOver ∈ sr_G := sr_in (List.mem_of_getElem? (i := 47) (by decide +kernel)) rfl
theorem iG0 : ∀ w ∈ wsX00, w ∈ sr_G := sr_in_all inX0 (by decide +kernel)
theorem iG1 : ∀ w ∈ wsX10, w ∈ sr_G := sr_in_all inX1 (by decide +kernel)
theorem iG2 : ∀ w ∈ wsX20, w ∈ sr_G := sr_in_all inX2 (by decide +kernel)
theorem iG3 : ∀ w ∈ wsX30, w ∈ sr_G := sr_in_all inX3 (by decide +kernel)
theorem iG4 : ∀ w ∈ wsX40, w ∈ sr_G := sr_in_all inX4 (by decide +kernel)
theorem iG5 : ∀ w ∈ wsX50, w ∈ sr_G := sr_in_all inX5 (by decide +kernel)
theorem iG6 : ∀ w ∈ wsX60, w ∈ sr_G := sr_in_all inX6 (by decide +kernel)
theorem iG7 : ∀ w ∈ wsX70, w ∈ sr_G := sr_in_all inX7 (by decide +kernel)
theorem iG8 : ∀ w ∈ wsX80, w ∈ sr_G := sr_in_all inX8 (by decide +kernel)
end
section
/-! A STORE: what the cells of a world hold, as one pure value; the object graph is fixed (a reference lies at a fixed distance from the cell that holds it) -/
abbrev St : Type := (Nat → Nat → Int32) × (Nat → Nat → Int64) × (Nat → Nat → Bool)
def bI (b : Bool) : Int32 := match b with
  | true => 1
  | false => 0
def gI (σ : St) (k j : Nat) : Int32 := σ.1 k j
def gL (σ : St) (k j : Nat) : Int64 := σ.2.1 k j
def gB (σ : St) (k j : Nat) : Bool := σ.2.2 k j
def sI (σ : St) (k j : Nat) (v : Int32) : St := (fun a => if a = k then upd (σ.1 k) j v else σ.1 a, σ.2)
def sL (σ : St) (k j : Nat) (v : Int64) : St := (σ.1, fun a => if a = k then vp_updL (σ.2.1 k) j v else σ.2.1 a, σ.2.2)
def sB (σ : St) (k j : Nat) (v : Bool) : St := (σ.1, σ.2.1, fun a => if a = k then (fun b => if b = j then v else σ.2.2 k b) else σ.2.2 a)
def cpI (σ : St) (ks kd n : Nat) : St := (fun a => if a = kd then va_cpy (σ.1 ks) (σ.1 kd) 0 0 n else σ.1 a, σ.2)
/-- the fields of an object, by its code (class number + 1), at the offset q -/
def sr_F (n0 : Nat) (i : Nat → Int32) (l : Nat → Int64) (b : Nat → Bool) (q : Nat) (c : Nat) : List Value := match c with
  | 1 => [.int (i 0), .ref (n0 + (q + 1)), .ref (n0 + (q + 3)), .ref (n0 + (q + 4)), .int (i 4), .int (i 5), .int (i 6), .int (bI (b 7))]
  | 2 => [.ref (n0 + (q + 1)), .ref (n0 + (q + 27)), .ref (n0 + (q + 30)), .int (bI (b 3)), .int (i 4), .int (i 5), .int (i 6), .int (i 7)]
  | 3 => [.ref (n0 + (q + 1)), .ref (n0 + (q + 2)), .int (i 2)]
  | 4 => [.ref (n0 + (q + 1)), .int (i 1), .int (i 2), .int (i 3)]
  | 5 => [.ref (n0 + (q + 1)), .int (i 1)]
  | 6 => [.ref (n0 + (q + 1)), .ref (n0 + (q + 2)), .int (i 2), .int (i 3)]
  | 7 => [.int (i 0), .int (i 1), .int (i 2), .int (i 3), .long (l 4), .long (l 5)]
  | 8 => [.ref (n0 + (q + 1)), .ref (n0 + (q + 33)), .ref (n0 + (q + 65)), .ref (n0 + (q + 66)), .ref (n0 + (q + 131))]
  | 9 => [.ref (n0 + (q + 1)), .ref (n0 + (q + 2)), .ref (n0 + (q + 3)), .ref (n0 + (q + 4)), .ref (n0 + (q + 5)), .int (i 5), .int (bI (b 6)), .int (i 7), .int (i 8), .ref (n0 + (q + 6)), .int (i 10), .int (i 11), .ref (n0 + (q + 7)), .long (l 13), .long (l 14)]
  | _ => []
def sr_E (aC : Nat → ClassId) (n0 : Nat) (i : Nat → Int32) (l : Nat → Int64) (b : Nat → Bool) (q c : Nat) : va_E :=
  if c < 10000 then .inr (c - 1, sr_F n0 i l b q c)
  else if c < 20000 then .inl (aC 0, c - 10000, .inl i)
  else if c < 30000 then .inl (aC 2, c - 20000, .inl (fun j => bI (b j)))
  else if c < 40000 then .inl (aC 1, c - 30000, .inl i)
  else if c < 50000 then .inl (aC 3, c - 40000, .inr (.inl l))
  else if c < 60000 then .inl (aC 4, c - 50000, .inr (.inr (.inr (.inr (fun j => some (n0 + (q + 1 + 5 * j)))))))
  else .inl (aC 5, c - 60000, .inr (.inr (.inr (.inr (fun j => some (n0 + (q + 2 + 32 * j)))))))
abbrev sr_e (aC : Nat → ClassId) (sh : Nat → Nat) (n0 : Nat) (σ : St) (q : Nat) : va_E := sr_E aC n0 (σ.1 q) (σ.2.1 q) (σ.2.2 q) q (sh q)
abbrev sr_cls : List vw_C := [(RX0, TX0, 8), (RX1, TX1, 8), (RX2, TX2, 3), (RX3, TX3, 4), (RX4, TX4, 2), (RX5, TX5, 4), (RX6, TX6, 6), (RX7, TX7, 5), (RX8, TX8, 15)]
abbrev sr_tys (aC : Nat → ClassId) : List (ClassId × FieldType) := [(aC 0, .int), (aC 1, .byte), (aC 2, .boolean), (aC 3, .long), (aC 4, .object RX0), (aC 5, .object RX1)]
def sr_A (sh : Nat → Nat) (n0 : Nat) (x : Nat) : Prop := ∃ q, sh q ≠ 0 ∧ x = n0 + q
def sr_P (D : va_G) (aC : Nat → ClassId) (sh : Nat → Nat) (n0 : Nat) (σ : St) (H : Heap) : Prop := ∀ q, sh q ≠ 0 → va_at D sr_cls (n0 + q, sr_e aC sh n0 σ q) H
def sr_V (D : va_G) (aC : Nat → ClassId) (sh : Nat → Nat) (n0 : Nat) (σ : St) (H0 H : Heap) (locs : List Loc) : Prop :=
  H.size = H0.size ∧ (∀ x, ¬ sr_A sh n0 x → H[x]? = H0[x]?) ∧ (∀ l ∈ locs, sr_A sh n0 l.base) ∧ sr_P D aC sh n0 σ H
/-- what is known of the tables at a state -/
def sr_K (D : va_G) (aC : Nat → ClassId) (U : State) : Prop := va_K D sr_cls (sr_tys aC) U ∧ va_Nw (.methodLinkNest RX4 19 yX7_isWithin RX7) U ∧ va_Nw (.methodLinkNest RX3 29 yX7_isWithin RX7) U ∧ va_Nw (.methodLinkNest RX5 60 yX7_isWithin RX7) U ∧ va_AO RX0 U ∧ va_AO RX1 U
theorem sr_K.warm {D : va_G} {aC : Nat → ClassId} {s U : State} (hW : s.WarmedH U.vm) (h : sr_K D aC s) : sr_K D aC U := ⟨va_K.moved hW.alike h.1, va_Nw.warmM hW h.2.1, va_Nw.warmM hW h.2.2.1, va_Nw.warmM hW h.2.2.2.1, va_AO.moved hW.alike h.2.2.2.2.1, va_AO.moved hW.alike h.2.2.2.2.2⟩
theorem sr_K.same {D : va_G} {aC : Nat → ClassId} {s U : State} (hv : s.vm = U.vm) (h : sr_K D aC s) : sr_K D aC U := ⟨va_K.moved (by rw [← hv]; exact Vm.Alike.refl _) h.1, va_Nw.same rfl hv h.2.1, va_Nw.same rfl hv h.2.2.1, va_Nw.same rfl hv h.2.2.2.1, va_AO.moved (by rw [← hv]; exact Vm.Alike.refl _) h.2.2.2.2.1, va_AO.moved (by rw [← hv]; exact Vm.Alike.refl _) h.2.2.2.2.2⟩
/-- what stays through a method's walk -/
def sr_X (p : Program) (s : State) (m : MethodId) (args : Array Value) (meth : Method) (c : Code) (cc : ByteArray) (nL : Nat) (ret : Option FieldType) (own : String) (D : va_G) (aC : Nat → ClassId) : Prop :=
  CallFix p m c cc nL s args sr_G own ∧ sr_K D aC s ∧ meth.sig.returnType = ret ∧ meth.locks = false
def sr_off (σ σ' : St) (q : Nat) : Prop := ∀ a, a ≠ q → σ'.1 a = σ.1 a ∧ σ'.2.1 a = σ.2.1 a ∧ σ'.2.2 a = σ.2.2 a
theorem sr_off_I {σ : St} {k j : Nat} {v : Int32} : sr_off σ (sI σ k j v) k := fun a h => ⟨by simp [sI, h], rfl, rfl⟩
theorem sr_off_L {σ : St} {k j : Nat} {v : Int64} : sr_off σ (sL σ k j v) k := fun a h => ⟨rfl, by simp [sL, h], rfl⟩
theorem sr_off_B {σ : St} {k j : Nat} {v : Bool} : sr_off σ (sB σ k j v) k := fun a h => ⟨rfl, rfl, by simp [sB, h]⟩
theorem sr_off_c {σ : St} {ks kd n : Nat} : sr_off σ (cpI σ ks kd n) kd := fun a h => ⟨by simp [cpI, h], rfl, rfl⟩
theorem sr_upd {D : va_G} {aC : Nat → ClassId} {sh : Nat → Nat} {n0 q k : Nat} {σ σ' : St} {H0 H H1 : Heap} {locs : List Loc} (hV : sr_V D aC sh n0 σ H0 H locs) (hq : sh q ≠ 0) (hoff : sr_off σ σ' q) (hat : va_at D sr_cls (n0 + q, sr_e aC sh n0 σ' q) H1) (z : H1.size = H.size) (oq : ∀ x : Nat, x ≠ n0 + q → H1[x]? = H[x]?) : sr_V D aC sh n0 σ' H0 H1 (locs ++ [⟨n0 + q, k⟩]) := by
  obtain ⟨h1, h2, h3, h4⟩ := hV
  refine ⟨z.trans h1, fun x hx => ?_, fun l hl => ?_, fun a ha => ?_⟩
  · rw [oq x (fun e => hx ⟨q, hq, e⟩)]
    exact h2 x hx
  · rcases List.mem_append.mp hl with h | h
    · exact h3 l h
    · rw [List.mem_singleton.mp h]
      exact ⟨q, hq, rfl⟩
  · by_cases e : a = q
    · subst e
      exact hat
    · have e2 := hoff a e
      have e3 : sr_e aC sh n0 σ' a = sr_e aC sh n0 σ a := by simp only [sr_e, e2.1, e2.2.1, e2.2.2]
      rw [e3]
      exact (h4 a ha).kept (oq _ (fun x => e (by show a = q; have : n0 + a = n0 + q := x; omega)))
theorem sr_e_o {aC : Nat → ClassId} {sh : Nat → Nat} {n0 q ci : Nat} {σ : St} (hq : sh q = ci + 1) (hci : ci + 1 < 10000) : sr_e aC sh n0 σ q = .inr (ci, sr_F n0 (σ.1 q) (σ.2.1 q) (σ.2.2 q) q (ci + 1)) := by
  simp only [sr_e, sr_E, hq, hci, if_true, Nat.add_sub_cancel]
theorem sr_e_i {aC : Nat → ClassId} {sh : Nat → Nat} {n0 q n : Nat} {σ : St} (hq : sh q = 10000 + n) (hn : n < 10000) : sr_e aC sh n0 σ q = .inl (aC 0, n, .inl (σ.1 q)) := by
  simp only [sr_e, sr_E, hq]
  rw [if_neg (by omega), if_pos (by omega), Nat.add_sub_cancel_left]
theorem sr_e_z {aC : Nat → ClassId} {sh : Nat → Nat} {n0 q n : Nat} {σ : St} (hq : sh q = 20000 + n) (hn : n < 10000) : sr_e aC sh n0 σ q = .inl (aC 2, n, .inl (fun j => bI (σ.2.2 q j))) := by
  simp only [sr_e, sr_E, hq]
  rw [if_neg (by omega), if_neg (by omega), if_pos (by omega), Nat.add_sub_cancel_left]
theorem sr_e_b {aC : Nat → ClassId} {sh : Nat → Nat} {n0 q n : Nat} {σ : St} (hq : sh q = 30000 + n) (hn : n < 10000) : sr_e aC sh n0 σ q = .inl (aC 1, n, .inl (σ.1 q)) := by
  simp only [sr_e, sr_E, hq]
  rw [if_neg (by omega), if_neg (by omega), if_neg (by omega), if_pos (by omega), Nat.add_sub_cancel_left]
theorem sr_e_l {aC : Nat → ClassId} {sh : Nat → Nat} {n0 q n : Nat} {σ : St} (hq : sh q = 40000 + n) (hn : n < 10000) : sr_e aC sh n0 σ q = .inl (aC 3, n, .inr (.inl (σ.2.1 q))) := by
  simp only [sr_e, sr_E, hq]
  rw [if_neg (by omega), if_neg (by omega), if_neg (by omega), if_neg (by omega), if_pos (by omega), Nat.add_sub_cancel_left]
theorem sr_e_c {aC : Nat → ClassId} {sh : Nat → Nat} {n0 q n : Nat} {σ : St} (hq : sh q = 50000 + n) (hn : n < 10000) : sr_e aC sh n0 σ q = .inl (aC 4, n, .inr (.inr (.inr (.inr (fun j => some (n0 + (q + 1 + 5 * j))))))) := by
  simp only [sr_e, sr_E, hq]
  rw [if_neg (by omega), if_neg (by omega), if_neg (by omega), if_neg (by omega), if_neg (by omega), if_pos (by omega), Nat.add_sub_cancel_left]
theorem sr_e_f {aC : Nat → ClassId} {sh : Nat → Nat} {n0 q n : Nat} {σ : St} (hq : sh q = 60000 + n) (hn : n < 10000) : sr_e aC sh n0 σ q = .inl (aC 5, n, .inr (.inr (.inr (.inr (fun j => some (n0 + (q + 2 + 32 * j))))))) := by
  simp only [sr_e, sr_E, hq]
  rw [if_neg (by omega), if_neg (by omega), if_neg (by omega), if_neg (by omega), if_neg (by omega), if_neg (by omega), Nat.add_sub_cancel_left]
/-! the function side: binds, guards, branches -/
def bnd {α ρ : Type} (a : α) (f : α → ρ) : ρ := f a
def bn2 {α β ρ : Type} (a : α × β) (f : α → β → ρ) : ρ := f a.1 a.2
def obd {α ρ : Type} (a : Option α) (f : α → Option ρ) : Option ρ := match a with
  | none => none
  | some x => f x
def ob2 {α β ρ : Type} (a : Option (α × β)) (f : α → β → Option ρ) : Option ρ := match a with
  | none => none
  | some x => f x.1 x.2
def opt {ρ : Type} (a : Option Nat) (z : ρ) (f : Nat → ρ) : ρ := match a with
  | none => z
  | some x => f x
theorem sr_bnd {α ρ : Type} {a : α} {f : α → ρ} {r : ρ} (h : bnd a f = r) : ∃ x, a = x ∧ f x = r := ⟨a, rfl, h⟩
theorem sr_bn2 {α β ρ : Type} {a : α × β} {f : α → β → ρ} {r : ρ} (h : bn2 a f = r) : ∃ x y, a = (x, y) ∧ f x y = r := ⟨a.1, a.2, rfl, h⟩
theorem sr_obd {α ρ : Type} {a : Option α} {f : α → Option ρ} {r : ρ} (h : obd a f = some r) : ∃ x, a = some x ∧ f x = some r := by
  cases a with
  | none => cases h
  | some x => exact ⟨x, rfl, h⟩
theorem sr_ob2 {α β ρ : Type} {a : Option (α × β)} {f : α → β → Option ρ} {r : ρ} (h : ob2 a f = some r) : ∃ x y, a = some (x, y) ∧ f x y = some r := by
  cases a with
  | none => cases h
  | some x => exact ⟨x.1, x.2, rfl, h⟩
theorem sr_t {ρ : Type} {P : Prop} {dP : Decidable P} {a b r : ρ} (h : (if P then a else b) = r) (hp : P) : a = r := by rw [if_pos hp] at h; exact h
theorem sr_f {ρ : Type} {P : Prop} {dP : Decidable P} {a b r : ρ} (h : (if P then a else b) = r) (hp : ¬ P) : b = r := by rw [if_neg hp] at h; exact h
theorem sr_gd {ρ : Type} {P : Prop} {dP : Decidable P} {a : Option ρ} {r : ρ} (h : (if P then a else none) = some r) : P ∧ a = some r := by
  by_cases hp : P
  · exact ⟨hp, sr_t h hp⟩
  · exact absurd (sr_f h hp) (by simp)
theorem sr_fuel_ex : ∃ n : Nat, n = 5000 := ⟨5000, rfl⟩
noncomputable def sr_fuel : Nat := Classical.choose sr_fuel_ex
theorem sr_fuel_eq : sr_fuel = 5000 := Classical.choose_spec sr_fuel_ex
section
variable {p : Program} {l : Launch} {e : Env} {R : Room} {s : State} {m : MethodId} {args : Array Value} {below : List Frame} {meth : Method} {c : Code} {H H0 : Heap} {locs : List Loc} {cells slots : Nat} {Q : State → Prop} {cc : ByteArray} {nL pc q n index : Nat} {ret : Option FieldType} {own : String} {D : va_G} {aC : Nat → ClassId} {sh : Nat → Nat} {n0 : Nat} {σ σ' : St} {ls : Array Slot} {rest : List Value}
theorem s_w (hX : sr_X p s m args meth c cc nL ret own D aC) {w : Cond} (h : w ∈ sr_G) : w.before args s = true := hX.1.2.2.2.2 w h
theorem s_get (hX : sr_X p s m args meth c cc nL ret own D aC) (hV : sr_V D aC sh n0 σ H0 H locs) {C : String} {T : u_T} {N ci k : Nat} (hin : ∀ w ∈ u_ws C T N, w ∈ sr_G) (hc : sr_cls[ci]? = some (C, T, N)) (hk : k < N) (hci : ci + 1 < 10000) (hlk : Cond.fieldLink own index (T k).1 (T k).2.1 (T k).2.2.1 ∈ sr_G) (hq : sh q = ci + 1) {v : Value} (hv : (sr_F n0 (σ.1 q) (σ.2.1 q) (σ.2.2 q) q (ci + 1))[k]? = some v) (hdg : decode cc pc = .ok (.getfield index, 3))
    (kk : W p l e R s m args below meth c H locs cells slots Q (F0 m (pc + 3) ls (v :: rest))) : W p l e R s m args below meth c H locs cells slots Q (F0 m pc ls (.ref (n0 + q) :: rest)) := by
  have hat := hV.2.2.2 q (by rw [hq]; exact Nat.succ_ne_zero _)
  rw [sr_e_o hq hci] at hat
  have hP : va_P D sr_cls [(n0 + q, .inr (ci, sr_F n0 (σ.1 q) (σ.2.1 q) (σ.2.2 q) q (ci + 1)))] H := fun j x hx => by
    have hz : j < 1 := (List.getElem?_eq_some_iff.mp hx).1
    rw [show j = 0 by omega] at hx
    cases hx
    exact hat
  exact va_get hX.1.1 hX.1.2.1 hX.1.2.2.2.2 hin hX.1.2.2.2.1 hX.2.1.1 hP 0 rfl hc k hk (s_w hX hlk) (fun _ h => h) hv hdg kk
theorem s_put (hX : sr_X p s m args meth c cc nL ret own D aC) (hV : sr_V D aC sh n0 σ H0 H locs) {C : String} {T : u_T} {N ci k : Nat} (hin : ∀ w ∈ u_ws C T N, w ∈ sr_G) (ty0 : Nat → FieldType) (hty : ∀ k, k < N → parseFieldDescriptor (T k).2.2.1 = some (ty0 k)) (hnm : ∀ a, a < N → ∀ b, b < N → a ≠ b → (T a).2.1 ≠ (T b).2.1) (hc : sr_cls[ci]? = some (C, T, N)) (hk : k < N) (hci : ci + 1 < 10000) (hlk : Cond.fieldLink own index (T k).1 (T k).2.1 (T k).2.2.1 ∈ sr_G) (hq : sh q = ci + 1) (hfin : (T k).2.2.2 = false) {ty : FieldType} {v : Value} (hd : parseFieldDescriptor (T k).2.2.1 = some ty) (hn : narrow ty v = v) (hfit : fits ty v = true)
    (hl : k < (sr_F n0 (σ.1 q) (σ.2.1 q) (σ.2.2 q) q (ci + 1)).length) (hσ : sr_F n0 (σ'.1 q) (σ'.2.1 q) (σ'.2.2 q) q (ci + 1) = (sr_F n0 (σ.1 q) (σ.2.1 q) (σ.2.2 q) q (ci + 1)).set k v) (hoff : sr_off σ σ' q) (hdg : decode cc pc = .ok (.putfield index, 3))
    (kk : ∀ (H1 : Heap) (locs1 : List Loc), sr_V D aC sh n0 σ' H0 H1 locs1 → W p l e R s m args below meth c H1 locs1 cells slots Q (F0 m (pc + 3) ls rest)) : W p l e R s m args below meth c H locs cells slots Q (F0 m pc ls (v :: .ref (n0 + q) :: rest)) := by
  have hat := hV.2.2.2 q (by rw [hq]; exact Nat.succ_ne_zero _)
  rw [sr_e_o hq hci] at hat
  have hap := va_apart (own := own) hX.1.2.2.2.2 hin ty0 hty hnm hX.2.1.1 hc
  obtain ⟨r, h1, cell, q1, q2, q3, q4⟩ := hat
  have hr : r = (C, T, N) := Option.some.inj (h1.symm.trans hc)
  subst hr
  obtain ⟨hS, hfc, kC, hkC, hkind⟩ := hX.2.1.1.1 ci _ hc
  obtain ⟨cf, kf, fi, f, hi, hsl⟩ := hS k hk
  have hlay := hX.1.2.2.2.2 _ (hin _ (u_in_lay hk))
  unfold u_lay at hlay
  rw [if_neg (by rw [hfin]; decide)] at hlay
  have hst := (u_facts hfc hkC (u_lays hX.1.2.2.2.2 hin hk) hi).1
  have h6 := u_store hfc hkC hkind hlay hi hd hn hfit
  refine W.putK hX.1.1 hX.1.2.1 (f := f) ⟨hX.1.2.2.2.1, s_w hX hlk, ⟨_, _, _, hi⟩, hst⟩ (by rw [q2]; exact h6) q1 q3 (by rw [hsl]; exact k2_hasslot (q4 k hk)) rfl rfl hdg fun H' e1 e2 e3 => ?_
  rw [hsl] at e1 ⊢
  refine kk H' _ (sr_upd hV (by rw [hq]; exact Nat.succ_ne_zero _) hoff ?_ e2 e3)
  rw [sr_e_o hq hci, hσ]
  exact ⟨_, hc, t_OB.to (V := updV (vp_V (sr_F n0 (σ.1 q) (σ.2.1 q) (σ.2.2 q) q (ci + 1))) k v) ⟨_, e1, q2, q3, t_set q4 hap hk v⟩ (fun j _ => vp_updV_set hl v j)⟩
theorem s_iald (hX : sr_X p s m args meth c cc nL ret own D aC) (hV : sr_V D aC sh n0 σ H0 H locs) (hq : sh q = 10000 + n) (hn : n < 10000) {i : Int32} (hin : vp_in i n) (hdg : decode cc pc = .ok (.iaload, 1))
    (kk : W p l e R s m args below meth c H locs cells slots Q (F0 m (pc + 1) ls (.int (gI σ q i.toNatClampNeg) :: rest))) : W p l e R s m args below meth c H locs cells slots Q (F0 m pc ls (.int i :: .ref (n0 + q) :: rest)) := by
  have hat := hV.2.2.2 q (by rw [hq]; omega)
  rw [sr_e_i hq hn] at hat
  have hlt : i.toNatClampNeg < n := Nat.not_le.mp fun q => hin (Or.inr q)
  exact W.iald (v := .int (gI σ q i.toNatClampNeg)) hX.1.1 hX.1.2.1 hat ((hX.2.1.1.2 0 _ rfl).1 n (fun j => .int (σ.1 q j))) (fun q => by cases q) (by show ¬ (i < 0 ∨ (arrV _ _ _).slots.size ≤ _); rw [arrV_size]; exact hin) (by show (arrV _ _ _).slots[_]? = _; rw [arrV_read _ _ hlt]; rfl) rfl rfl hdg kk
theorem s_bald (hX : sr_X p s m args meth c cc nL ret own D aC) (hV : sr_V D aC sh n0 σ H0 H locs) (hq : sh q = 30000 + n) (hn : n < 10000) {i : Int32} (hin : vp_in i n) (hdg : decode cc pc = .ok (.baload, 1))
    (kk : W p l e R s m args below meth c H locs cells slots Q (F0 m (pc + 1) ls (.int (gI σ q i.toNatClampNeg) :: rest))) : W p l e R s m args below meth c H locs cells slots Q (F0 m pc ls (.int i :: .ref (n0 + q) :: rest)) := by
  have hat := hV.2.2.2 q (by rw [hq]; omega)
  rw [sr_e_b hq hn] at hat
  have hlt : i.toNatClampNeg < n := Nat.not_le.mp fun q => hin (Or.inr q)
  exact W.bald (v := .int (gI σ q i.toNatClampNeg)) hX.1.1 hX.1.2.1 hat ((hX.2.1.1.2 1 _ rfl).1 n (fun j => .int (σ.1 q j))) (fun q => by cases q) (by show ¬ (i < 0 ∨ (arrV _ _ _).slots.size ≤ _); rw [arrV_size]; exact hin) (by show (arrV _ _ _).slots[_]? = _; rw [arrV_read _ _ hlt]; rfl) rfl rfl hdg kk
theorem s_zald (hX : sr_X p s m args meth c cc nL ret own D aC) (hV : sr_V D aC sh n0 σ H0 H locs) (hq : sh q = 20000 + n) (hn : n < 10000) {i : Int32} (hin : vp_in i n) (hdg : decode cc pc = .ok (.baload, 1))
    (kk : W p l e R s m args below meth c H locs cells slots Q (F0 m (pc + 1) ls (.int (bI (gB σ q i.toNatClampNeg)) :: rest))) : W p l e R s m args below meth c H locs cells slots Q (F0 m pc ls (.int i :: .ref (n0 + q) :: rest)) := by
  have hat := hV.2.2.2 q (by rw [hq]; omega)
  rw [sr_e_z hq hn] at hat
  have hlt : i.toNatClampNeg < n := Nat.not_le.mp fun q => hin (Or.inr q)
  exact W.zald (v := .int (bI (gB σ q i.toNatClampNeg))) hX.1.1 hX.1.2.1 hat ((hX.2.1.1.2 2 _ rfl).1 n (fun j => .int (bI (σ.2.2 q j)))) (fun q => by cases q) (by show ¬ (i < 0 ∨ (arrV _ _ _).slots.size ≤ _); rw [arrV_size]; exact hin) (by show (arrV _ _ _).slots[_]? = _; rw [arrV_read _ _ hlt]; rfl) rfl rfl hdg kk
theorem s_lald (hX : sr_X p s m args meth c cc nL ret own D aC) (hV : sr_V D aC sh n0 σ H0 H locs) (hq : sh q = 40000 + n) (hn : n < 10000) {i : Int32} (hin : vp_in i n) (hdg : decode cc pc = .ok (.laload, 1))
    (kk : W p l e R s m args below meth c H locs cells slots Q (F0 m (pc + 1) ls (.long (gL σ q i.toNatClampNeg) :: rest))) : W p l e R s m args below meth c H locs cells slots Q (F0 m pc ls (.int i :: .ref (n0 + q) :: rest)) := by
  have hat := hV.2.2.2 q (by rw [hq]; omega)
  rw [sr_e_l hq hn] at hat
  have hlt : i.toNatClampNeg < n := Nat.not_le.mp fun q => hin (Or.inr q)
  exact W.lald (v := .long (gL σ q i.toNatClampNeg)) hX.1.1 hX.1.2.1 hat ((hX.2.1.1.2 3 _ rfl).1 n (fun j => .long (σ.2.1 q j))) (fun q => by cases q) (by show ¬ (i < 0 ∨ (arrV _ _ _).slots.size ≤ _); rw [arrV_size]; exact hin) (by show (arrV _ _ _).slots[_]? = _; rw [arrV_read _ _ hlt]; rfl) rfl rfl hdg kk
theorem s_cald (hX : sr_X p s m args meth c cc nL ret own D aC) (hV : sr_V D aC sh n0 σ H0 H locs) (hq : sh q = 50000 + n) (hn : n < 10000) {i : Int32} (hin : vp_in i n) (hdg : decode cc pc = .ok (.aaload, 1))
    (kk : W p l e R s m args below meth c H locs cells slots Q (F0 m (pc + 1) ls (.ref (n0 + (q + 1 + 5 * i.toNatClampNeg)) :: rest))) : W p l e R s m args below meth c H locs cells slots Q (F0 m pc ls (.int i :: .ref (n0 + q) :: rest)) := by
  have hat := hV.2.2.2 q (by rw [hq]; omega)
  rw [sr_e_c hq hn] at hat
  have hlt : i.toNatClampNeg < n := Nat.not_le.mp fun q => hin (Or.inr q)
  exact W.aald (v := .ref (n0 + (q + 1 + 5 * i.toNatClampNeg))) hX.1.1 hX.1.2.1 hat ((hX.2.1.1.2 4 _ rfl).1 n (fun j => va_rf (some (n0 + (q + 1 + 5 * j))))) rfl (fun q => by cases q) (by show ¬ (i < 0 ∨ (arrV _ _ _).slots.size ≤ _); rw [arrV_size]; exact hin) (by show (arrV _ _ _).slots[_]? = _; rw [arrV_read _ _ hlt]; rfl) rfl rfl hdg kk
theorem s_fald (hX : sr_X p s m args meth c cc nL ret own D aC) (hV : sr_V D aC sh n0 σ H0 H locs) (hq : sh q = 60000 + n) (hn : n < 10000) {i : Int32} (hin : vp_in i n) (hdg : decode cc pc = .ok (.aaload, 1))
    (kk : W p l e R s m args below meth c H locs cells slots Q (F0 m (pc + 1) ls (.ref (n0 + (q + 2 + 32 * i.toNatClampNeg)) :: rest))) : W p l e R s m args below meth c H locs cells slots Q (F0 m pc ls (.int i :: .ref (n0 + q) :: rest)) := by
  have hat := hV.2.2.2 q (by rw [hq]; omega)
  rw [sr_e_f hq hn] at hat
  have hlt : i.toNatClampNeg < n := Nat.not_le.mp fun q => hin (Or.inr q)
  exact W.aald (v := .ref (n0 + (q + 2 + 32 * i.toNatClampNeg))) hX.1.1 hX.1.2.1 hat ((hX.2.1.1.2 5 _ rfl).1 n (fun j => va_rf (some (n0 + (q + 2 + 32 * j))))) rfl (fun q => by cases q) (by show ¬ (i < 0 ∨ (arrV _ _ _).slots.size ≤ _); rw [arrV_size]; exact hin) (by show (arrV _ _ _).slots[_]? = _; rw [arrV_read _ _ hlt]; rfl) rfl rfl hdg kk
theorem s_alen (hX : sr_X p s m args meth c cc nL ret own D aC) (hV : sr_V D aC sh n0 σ H0 H locs) (hq : sh q = 10000 + n) (hn : n < 10000) {v : Int32} (hv : Int32.ofNat n = v) (hdg : decode cc pc = .ok (.arraylength, 1))
    (kk : W p l e R s m args below meth c H locs cells slots Q (F0 m (pc + 1) ls (.int v :: rest))) : W p l e R s m args below meth c H locs cells slots Q (F0 m pc ls (.ref (n0 + q) :: rest)) := by
  have hat := hV.2.2.2 q (by rw [hq]; omega)
  rw [sr_e_i hq hn] at hat
  subst hv
  exact W.alen (n := Int32.ofNat n) hX.1.1 hX.1.2.1 hat ((hX.2.1.1.2 0 _ rfl).1 n (fun j => .int (σ.1 q j))) (by rw [vp_cell_i, arrV_size] <;> rfl) rfl rfl hdg kk
theorem s_iast (hX : sr_X p s m args meth c cc nL ret own D aC) (hV : sr_V D aC sh n0 σ H0 H locs) (hq : sh q = 10000 + n) (hn : n < 10000) {i x : Int32} (hin : vp_in i n) (hdg : decode cc pc = .ok (.iastore, 1))
    (kk : ∀ (H1 : Heap) (locs1 : List Loc), sr_V D aC sh n0 (sI σ q i.toNatClampNeg x) H0 H1 locs1 → W p l e R s m args below meth c H1 locs1 cells slots Q (F0 m (pc + 1) ls rest)) : W p l e R s m args below meth c H locs cells slots Q (F0 m pc ls (.int x :: .int i :: .ref (n0 + q) :: rest)) := by
  have hat := hV.2.2.2 q (by rw [hq]; omega)
  rw [sr_e_i hq hn] at hat
  refine W.iast hX.1.1 hX.1.2.1 hat ((hX.2.1.1.2 0 _ rfl).1 n (fun j => .int (σ.1 q j))) (fun q => by cases q) (by show ¬ (i < 0 ∨ (arrV _ _ _).slots.size ≤ _); rw [arrV_size]; exact hin) rfl rfl hdg fun H1 e z oq => ?_
  refine kk H1 _ (sr_upd hV (by rw [hq]; omega) sr_off_I ?_ z oq)
  rw [sr_e_i hq hn]
  show H1[n0 + q]? = some (vp_cell _ _)
  rw [e, vp_cell_i, vp_cell_i, arrV_store]
  congr 2
  funext y
  by_cases hy : y = i.toNatClampNeg <;> simp [updV, upd, sI, hy]
theorem s_bast (hX : sr_X p s m args meth c cc nL ret own D aC) (hV : sr_V D aC sh n0 σ H0 H locs) (hq : sh q = 30000 + n) (hn : n < 10000) {i x : Int32} (hin : vp_in i n) (hdg : decode cc pc = .ok (.bastore, 1))
    (kk : ∀ (H1 : Heap) (locs1 : List Loc), sr_V D aC sh n0 (sI σ q i.toNatClampNeg x.toInt8.toInt32) H0 H1 locs1 → W p l e R s m args below meth c H1 locs1 cells slots Q (F0 m (pc + 1) ls rest)) : W p l e R s m args below meth c H locs cells slots Q (F0 m pc ls (.int x :: .int i :: .ref (n0 + q) :: rest)) := by
  have hat := hV.2.2.2 q (by rw [hq]; omega)
  rw [sr_e_b hq hn] at hat
  refine W.bast hX.1.1 hX.1.2.1 hat ((hX.2.1.1.2 1 _ rfl).1 n (fun j => .int (σ.1 q j))) (fun q => by cases q) (by show ¬ (i < 0 ∨ (arrV _ _ _).slots.size ≤ _); rw [arrV_size]; exact hin) rfl rfl hdg fun H1 e z oq => ?_
  refine kk H1 _ (sr_upd hV (by rw [hq]; omega) sr_off_I ?_ z oq)
  rw [sr_e_b hq hn]
  show H1[n0 + q]? = some (vp_cell _ _)
  rw [e, vp_cell_i, vp_cell_i, arrV_store]
  congr 2
  funext y
  by_cases hy : y = i.toNatClampNeg <;> simp [updV, upd, sI, hy, narrow]
theorem s_zast (hX : sr_X p s m args meth c cc nL ret own D aC) (hV : sr_V D aC sh n0 σ H0 H locs) (hq : sh q = 20000 + n) (hn : n < 10000) {i : Int32} {b : Bool} (hin : vp_in i n) (hdg : decode cc pc = .ok (.bastore, 1))
    (kk : ∀ (H1 : Heap) (locs1 : List Loc), sr_V D aC sh n0 (sB σ q i.toNatClampNeg b) H0 H1 locs1 → W p l e R s m args below meth c H1 locs1 cells slots Q (F0 m (pc + 1) ls rest)) : W p l e R s m args below meth c H locs cells slots Q (F0 m pc ls (.int (bI b) :: .int i :: .ref (n0 + q) :: rest)) := by
  have hat := hV.2.2.2 q (by rw [hq]; omega)
  rw [sr_e_z hq hn] at hat
  refine W.zast hX.1.1 hX.1.2.1 hat ((hX.2.1.1.2 2 _ rfl).1 n (fun j => .int (bI (σ.2.2 q j)))) (fun q => by cases q) (by show ¬ (i < 0 ∨ (arrV _ _ _).slots.size ≤ _); rw [arrV_size]; exact hin) rfl rfl hdg fun H1 e z oq => ?_
  refine kk H1 _ (sr_upd hV (by rw [hq]; omega) sr_off_B ?_ z oq)
  rw [sr_e_z hq hn]
  show H1[n0 + q]? = some (vp_cell _ _)
  rw [e, vp_cell_i, vp_cell_i, arrV_store]
  congr 2
  funext y
  by_cases hy : y = i.toNatClampNeg
  · subst hy
    cases b <;> simp [updV, sB, narrow, bI]
  · simp [updV, sB, hy]
theorem s_last (hX : sr_X p s m args meth c cc nL ret own D aC) (hV : sr_V D aC sh n0 σ H0 H locs) (hq : sh q = 40000 + n) (hn : n < 10000) {i : Int32} {x : Int64} (hin : vp_in i n) (hdg : decode cc pc = .ok (.lastore, 1))
    (kk : ∀ (H1 : Heap) (locs1 : List Loc), sr_V D aC sh n0 (sL σ q i.toNatClampNeg x) H0 H1 locs1 → W p l e R s m args below meth c H1 locs1 cells slots Q (F0 m (pc + 1) ls rest)) : W p l e R s m args below meth c H locs cells slots Q (F0 m pc ls (.long x :: .int i :: .ref (n0 + q) :: rest)) := by
  have hat := hV.2.2.2 q (by rw [hq]; omega)
  rw [sr_e_l hq hn] at hat
  refine W.last hX.1.1 hX.1.2.1 hat ((hX.2.1.1.2 3 _ rfl).1 n (fun j => .long (σ.2.1 q j))) (fun q => by cases q) (by show ¬ (i < 0 ∨ (arrV _ _ _).slots.size ≤ _); rw [arrV_size]; exact hin) rfl rfl hdg fun H1 e z oq => ?_
  refine kk H1 _ (sr_upd hV (by rw [hq]; omega) sr_off_L ?_ z oq)
  rw [sr_e_l hq hn]
  show H1[n0 + q]? = some (vp_cell _ _)
  rw [e, vp_cell_l, vp_cell_l, arrV_store]
  congr 2
  funext y
  by_cases hy : y = i.toNatClampNeg <;> simp [updV, vp_updL, sL, hy]
/-- System.arraycopy of ints, from the beginning to the beginning -/
theorem s_copy {a0 a1 n1 n2 nn : Nat} {k : Int32} (hX : sr_X p s m args meth c cc nL ret own D aC) (hV : sr_V D aC sh n0 σ H0 H locs) (hls : ls.size = nL) (hlink : Cond.methodLink own index arraycopyName ∈ sr_G) (h0 : sh a0 = 10000 + n1) (h1 : sh a1 = 10000 + n2) (l1 : n1 < 10000) (l2 : n2 < 10000) (hk : ¬ k < 0) (hkn : k.toNatClampNeg = nn) (k1 : nn ≤ n1) (k2 : nn ≤ n2)
    (hframes : 1 ≤ R.frames) (hlocals : (rest.map fun v => v.category).sum + (nativeFrameWords "java/lang/System" "arraycopy" 5 + 11) ≤ R.locals) (hdg : decode cc pc = .ok (.invokestatic index, 3))
    (kk : ∀ (H1 : Heap) (locs1 : List Loc), sr_V D aC sh n0 (cpI σ a0 a1 nn) H0 H1 locs1 → W p l e R s m args below meth c H1 locs1 cells slots Q (F0 m (pc + 3) ls rest)) : W p l e R s m args below meth c H locs cells slots Q (F0 m pc ls (.int k :: .int 0 :: .ref (n0 + a1) :: .int 0 :: .ref (n0 + a0) :: rest)) := by
  have hc0 := hV.2.2.2 a0 (by rw [h0]; omega)
  have hc1 := hV.2.2.2 a1 (by rw [h1]; omega)
  rw [sr_e_i h0 l1] at hc0
  rw [sr_e_i h1 l2] at hc1
  have hc0 : H[n0 + a0]? = some (vp_cell (aC 0) (n1, .inl (σ.1 a0))) := hc0
  have hc1 : H[n0 + a1]? = some (vp_cell (aC 0) (n2, .inl (σ.1 a1))) := hc1
  obtain ⟨-, k0, hk0, cm0, hkk0⟩ := (hX.2.1.1.2 0 _ rfl).1 n1 (fun j => .int (σ.1 a0 j))
  obtain ⟨-, k1', hk1', cm1, hkk1⟩ := (hX.2.1.1.2 0 _ rfl).1 n2 (fun j => .int (σ.1 a1 j))
  have z0 : ¬ (0 : Int32) < 0 := by decide
  have hki : k.toInt = (nn : Int) := by
    have hz0 : (0 : Int) ≤ k.toInt := by
      have := Int32.not_lt.mp hk
      simpa using Int32.le_iff_toInt_le.mp this
    have : (k.toInt.toNat : Nat) = nn := hkn
    omega
  have e0 : (0 : Int32).toNatClampNeg = 0 := by decide
  intro T hT X
  obtain ⟨vm', X', step⟩ := X.arraycopy hX.1.1 hX.1.2.2.2.1 (s_w hX hlink) (s_w hX lk_379) (s_w hX lk_378) (s_w hX lk_11) (src := n0 + a0) (dst := n0 + a1) (cs := vp_cell (aC 0) (n1, .inl (σ.1 a0))) (cd := vp_cell (aC 0) (n2, .inl (σ.1 a1))) (srcPos := 0) (destPos := 0) (n := k) (by rw [hT]; exact hc0) (by rw [hT]; exact hc1)
    (fun _ h => by cases h) (fun _ h => by cases h) (fun h => by cases h) (fun h => by cases h) hk0 hk1' hkk0 hkk1 (by simp [refKind]) z0 z0 hk
    (by rw [hki]; show ¬ _ > ((arrV (aC 0) n1 (fun j => .int (σ.1 a0 j))).slots.size : Int); rw [arrV_size]; show ¬ ((0 : Int) + nn > n1); omega)
    (by rw [hki]; show ¬ _ > ((arrV (aC 0) n2 (fun j => .int (σ.1 a1 j))).slots.size : Int); rw [arrV_size]; show ¬ ((0 : Int) + nn > n2); omega)
    (fun vm₁ _ i hi => by
      have e : (vp_cell (aC 0) (n1, .inl (σ.1 a0))).slots.getD ((0 : Int32).toNatClampNeg + i) .null = .int (σ.1 a0 ((0 : Int32).toNatClampNeg + i)) := by
        show (arrV (aC 0) n1 (fun j => .int (σ.1 a0 j))).slots.getD _ _ = _
        have hi2 : i < nn := by rw [← hkn]; exact hi
        rw [Array.getD_eq_getD_getElem?, arrV_read _ _ (by rw [e0]; omega)]
        rfl
      refine ⟨?_, ?_⟩
      · rw [e]; rfl
      · rw [e]; exact trivial)
    (g := F0 m pc ls (.int k :: .int 0 :: .ref (n0 + a1) :: .int 0 :: .ref (n0 + a0) :: rest)) rfl (by rw [hX.1.2.2.1, ← hls]) (rest := rest) rfl (by rw [hX.1.2.1]; exact hdg) hframes (by show 2 * 0 + _ + _ ≤ _; omega)
  have e1 : copied (vp_cell (aC 0) (n1, .inl (σ.1 a0))) (vp_cell (aC 0) (n2, .inl (σ.1 a1))) 0 0 k = vp_cell (aC 0) (n2, .inl (va_cpy (σ.1 a0) (σ.1 a1) 0 0 nn)) := by
    have h4 : (0 : Int32).toNatClampNeg + k.toNatClampNeg ≤ n1 := by rw [e0, hkn]; omega
    have e2 : copied (vp_cell (aC 0) (n1, .inl (σ.1 a0))) (vp_cell (aC 0) (n2, .inl (σ.1 a1))) 0 0 k = vp_cell (aC 0) (n2, .inl (va_cpy (σ.1 a0) (σ.1 a1) (0 : Int32).toNatClampNeg (0 : Int32).toNatClampNeg k.toNatClampNeg)) := va_copied (fun z => .int z) (aC 0) (aC 0) (σ.1 a0) (σ.1 a1) h4
    rw [e0, hkn] at e2
    exact e2
  rw [e1] at X' step
  have hl : n0 + a1 < H.size := (Array.getElem?_eq_some_iff.mp hc1).1
  have hheap : ((T.setVm vm').setCell (n0 + a1) (vp_cell (aC 0) (n2, .inl (va_cpy (σ.1 a0) (σ.1 a1) 0 0 nn)))).heap = H.setIfInBounds (n0 + a1) (vp_cell (aC 0) (n2, .inl (va_cpy (σ.1 a0) (σ.1 a1) 0 0 nn))) := by rw [← hT]; rfl
  have oq : ∀ x : Nat, x ≠ n0 + a1 → (H.setIfInBounds (n0 + a1) (vp_cell (aC 0) (n2, .inl (va_cpy (σ.1 a0) (σ.1 a1) 0 0 nn))))[x]? = H[x]? := fun x hx => by simp [Array.getElem?_setIfInBounds, Ne.symm hx]
  have hV1 : sr_V D aC sh n0 (cpI σ a0 a1 nn) H0 (H.setIfInBounds (n0 + a1) (vp_cell (aC 0) (n2, .inl (va_cpy (σ.1 a0) (σ.1 a1) 0 0 nn)))) (locs ++ [⟨n0 + a1, 0⟩]) := sr_upd hV (by rw [h1]; omega) sr_off_c (by
    rw [sr_e_i h1 l2]
    show (H.setIfInBounds (n0 + a1) _)[n0 + a1]? = some _
    simp [Array.getElem?_setIfInBounds, hl, cpI]) (by simp) oq
  obtain ⟨t, a1', b1⟩ := kk _ _ ⟨hV1.1, hV1.2.1, fun x hx => by
      rcases List.mem_append.mp hx with h | h
      · exact hV.2.2.1 x h
      · obtain ⟨z, -, hz⟩ := List.mem_map.mp h
        rw [← hz]
        exact ⟨a1, by rw [h1]; omega, rfl⟩, hV1.2.2.2⟩ _ hheap X'
  exact ⟨t, step t a1', b1⟩
end
end
section
def shC (q : Nat) : Nat := ([8, 2, 50005, 1, 5, 10018, 7, 10006, 1, 5, 10018, 7, 10006, 1, 5, 10018, 7, 10006, 1, 5, 10018, 7, 10006, 1, 5, 10018, 7, 10006, 3, 10003, 10003, 4, 10080, 2, 50005, 1, 5, 10018, 7, 10006, 1, 5, 10018, 7, 10006, 1, 5, 10018, 7, 10006, 1, 5, 10018, 7, 10006, 1, 5, 10018, 7, 10006, 3, 10003, 10003, 4, 10080, 60002, 20002, 2, 50005, 1, 5, 10018, 7, 10006, 1, 5, 10018, 7, 10006, 1, 5, 10018, 7, 10006, 1, 5, 10018, 7, 10006, 1, 5, 10018, 7, 10006, 3, 10003, 10003, 4, 10080, 2, 50005, 1, 5, 10018, 7, 10006, 1, 5, 10018, 7, 10006, 1, 5, 10018, 7, 10006, 1, 5, 10018, 7, 10006, 1, 5, 10018, 7, 10006, 3, 10003, 10003, 4, 10080, 6, 30060, 5, 10018] : List Nat).getD q 0
def shM (q : Nat) : Nat := ([9, 10257, 10257, 10514, 20002, 10060, 10018, 42601] : List Nat).getD q 0
theorem shC_lt {q : Nat} (h : shC q ≠ 0) : q < 135 := by
  apply Classical.byContradiction
  intro hn
  exact h (by unfold shC; rw [List.getD_eq_getElem?_getD, List.getElem?_eq_none (by simpa using hn)]; rfl)
theorem shM_lt {q : Nat} (h : shM q ≠ 0) : q < 8 := by
  apply Classical.byContradiction
  intro hn
  exact h (by unfold shM; rw [List.getD_eq_getElem?_getD, List.getElem?_eq_none (by simpa using hn)]; rfl)
theorem ch_0_1 {q : Nat} (h : shC q = 1) : shC (q + 1) = 5 := (show ∀ q, q < 135 → shC q = 1 → shC (q + 1) = 5 by decide +kernel) q (shC_lt (by rw [h]; decide)) h
theorem ch_0_2 {q : Nat} (h : shC q = 1) : shC (q + 3) = 7 := (show ∀ q, q < 135 → shC q = 1 → shC (q + 3) = 7 by decide +kernel) q (shC_lt (by rw [h]; decide)) h
theorem ch_0_3 {q : Nat} (h : shC q = 1) : shC (q + 4) = 10006 := (show ∀ q, q < 135 → shC q = 1 → shC (q + 4) = 10006 by decide +kernel) q (shC_lt (by rw [h]; decide)) h
theorem ch_1_0 {q : Nat} (h : shC q = 2) : shC (q + 1) = 50005 := (show ∀ q, q < 135 → shC q = 2 → shC (q + 1) = 50005 by decide +kernel) q (shC_lt (by rw [h]; decide)) h
theorem ch_1_1 {q : Nat} (h : shC q = 2) : shC (q + 27) = 3 := (show ∀ q, q < 135 → shC q = 2 → shC (q + 27) = 3 by decide +kernel) q (shC_lt (by rw [h]; decide)) h
theorem ch_1_2 {q : Nat} (h : shC q = 2) : shC (q + 30) = 4 := (show ∀ q, q < 135 → shC q = 2 → shC (q + 30) = 4 by decide +kernel) q (shC_lt (by rw [h]; decide)) h
theorem ch_2_0 {q : Nat} (h : shC q = 3) : shC (q + 1) = 10003 := (show ∀ q, q < 135 → shC q = 3 → shC (q + 1) = 10003 by decide +kernel) q (shC_lt (by rw [h]; decide)) h
theorem ch_2_1 {q : Nat} (h : shC q = 3) : shC (q + 2) = 10003 := (show ∀ q, q < 135 → shC q = 3 → shC (q + 2) = 10003 by decide +kernel) q (shC_lt (by rw [h]; decide)) h
theorem ch_3_0 {q : Nat} (h : shC q = 4) : shC (q + 1) = 10080 := (show ∀ q, q < 135 → shC q = 4 → shC (q + 1) = 10080 by decide +kernel) q (shC_lt (by rw [h]; decide)) h
theorem ch_4_0 {q : Nat} (h : shC q = 5) : shC (q + 1) = 10018 := (show ∀ q, q < 135 → shC q = 5 → shC (q + 1) = 10018 by decide +kernel) q (shC_lt (by rw [h]; decide)) h
theorem ch_5_0 {q : Nat} (h : shC q = 6) : shC (q + 1) = 30060 := (show ∀ q, q < 135 → shC q = 6 → shC (q + 1) = 30060 by decide +kernel) q (shC_lt (by rw [h]; decide)) h
theorem ch_5_1 {q : Nat} (h : shC q = 6) : shC (q + 2) = 5 := (show ∀ q, q < 135 → shC q = 6 → shC (q + 2) = 5 by decide +kernel) q (shC_lt (by rw [h]; decide)) h
theorem ch_7_0 {q : Nat} (h : shC q = 8) : shC (q + 1) = 2 := (show ∀ q, q < 135 → shC q = 8 → shC (q + 1) = 2 by decide +kernel) q (shC_lt (by rw [h]; decide)) h
theorem ch_7_1 {q : Nat} (h : shC q = 8) : shC (q + 33) = 2 := (show ∀ q, q < 135 → shC q = 8 → shC (q + 33) = 2 by decide +kernel) q (shC_lt (by rw [h]; decide)) h
theorem ch_7_2 {q : Nat} (h : shC q = 8) : shC (q + 65) = 60002 := (show ∀ q, q < 135 → shC q = 8 → shC (q + 65) = 60002 by decide +kernel) q (shC_lt (by rw [h]; decide)) h
theorem ch_7_3 {q : Nat} (h : shC q = 8) : shC (q + 66) = 20002 := (show ∀ q, q < 135 → shC q = 8 → shC (q + 66) = 20002 by decide +kernel) q (shC_lt (by rw [h]; decide)) h
theorem ch_7_4 {q : Nat} (h : shC q = 8) : shC (q + 131) = 6 := (show ∀ q, q < 135 → shC q = 8 → shC (q + 131) = 6 by decide +kernel) q (shC_lt (by rw [h]; decide)) h
theorem ch_8_0 {q : Nat} (h : shM q = 9) : shM (q + 1) = 10257 := (show ∀ q, q < 8 → shM q = 9 → shM (q + 1) = 10257 by decide +kernel) q (shM_lt (by rw [h]; decide)) h
theorem ch_8_1 {q : Nat} (h : shM q = 9) : shM (q + 2) = 10257 := (show ∀ q, q < 8 → shM q = 9 → shM (q + 2) = 10257 by decide +kernel) q (shM_lt (by rw [h]; decide)) h
theorem ch_8_2 {q : Nat} (h : shM q = 9) : shM (q + 3) = 10514 := (show ∀ q, q < 8 → shM q = 9 → shM (q + 3) = 10514 by decide +kernel) q (shM_lt (by rw [h]; decide)) h
theorem ch_8_3 {q : Nat} (h : shM q = 9) : shM (q + 4) = 20002 := (show ∀ q, q < 8 → shM q = 9 → shM (q + 4) = 20002 by decide +kernel) q (shM_lt (by rw [h]; decide)) h
theorem ch_8_4 {q : Nat} (h : shM q = 9) : shM (q + 5) = 10060 := (show ∀ q, q < 8 → shM q = 9 → shM (q + 5) = 10060 by decide +kernel) q (shM_lt (by rw [h]; decide)) h
theorem ch_8_9 {q : Nat} (h : shM q = 9) : shM (q + 6) = 10018 := (show ∀ q, q < 8 → shM q = 9 → shM (q + 6) = 10018 by decide +kernel) q (shM_lt (by rw [h]; decide)) h
theorem ch_8_12 {q : Nat} (h : shM q = 9) : shM (q + 7) = 42601 := (show ∀ q, q < 8 → shM q = 9 → shM (q + 7) = 42601 by decide +kernel) q (shM_lt (by rw [h]; decide)) h
theorem ch_list {q : Nat} (h : shC q = 50005) {i : Nat} (hi : i < 5) : shC (q + 1 + 5 * i) = 1 := (show ∀ q, q < 135 → shC q = 50005 → ∀ i, i < 5 → shC (q + 1 + 5 * i) = 1 by decide +kernel) q (shC_lt (by rw [h]; decide)) h i hi
theorem ch_slots {q : Nat} (h : shC q = 60002) {i : Nat} (hi : i < 2) : shC (q + 2 + 32 * i) = 2 := (show ∀ q, q < 135 → shC q = 60002 → ∀ i, i < 2 → shC (q + 2 + 32 * i) = 2 by decide +kernel) q (shC_lt (by rw [h]; decide)) h i hi
theorem vp_lt {i : Int32} {n : Nat} (h : vp_in i n) : i.toNatClampNeg < n := Nat.not_le.mp fun q => h (Or.inr q)
theorem sr_nb (b : Bool) : narrow .boolean (.int (bI b)) = .int (bI b) := by cases b <;> rfl
theorem sr_fb (b : Bool) : fits .boolean (.int (bI b)) = true := by cases b <;> rfl
section
variable {p : Program} {l : Launch} {e : Env} {R : Room} {s : State} {m : MethodId} {args : Array Value} {below : List Frame} {meth : Method} {c : Code} {H H0 : Heap} {locs : List Loc} {cells slots : Nat} {Q : State → Prop} {cc : ByteArray} {nL pc q n index : Nat} {ret : Option FieldType} {own : String} {D : va_G} {aC : Nat → ClassId} {sh : Nat → Nat} {n0 : Nat} {σ σ' : St} {ls : Array Slot} {rest : List Value}

theorem fg_0_0 (hX : sr_X p s m args meth c cc nL ret own D aC) (hV : sr_V D aC sh n0 σ H0 H locs) (hlk : Cond.fieldLink own index "StagedRollout$Change" "number" "I" ∈ sr_G) (hq : sh q = 1) (hdg : decode cc pc = .ok (.getfield index, 3)) (kk : W p l e R s m args below meth c H locs cells slots Q (F0 m (pc + 3) ls (.int (gI σ q 0) :: rest))) : W p l e R s m args below meth c H locs cells slots Q (F0 m pc ls (.ref (n0 + q) :: rest)) := s_get (ci := 0) (k := 0) hX hV iG0 rfl (by decide) (by decide) hlk hq rfl hdg kk
theorem fg_0_1 (hX : sr_X p s m args meth c cc nL ret own D aC) (hV : sr_V D aC sh n0 σ H0 H locs) (hlk : Cond.fieldLink own index "StagedRollout$Change" "plan" "LStagedRollout$Plan;" ∈ sr_G) (hq : sh q = 1) (hdg : decode cc pc = .ok (.getfield index, 3)) (kk : W p l e R s m args below meth c H locs cells slots Q (F0 m (pc + 3) ls (.ref (n0 + (q + 1)) :: rest))) : W p l e R s m args below meth c H locs cells slots Q (F0 m pc ls (.ref (n0 + q) :: rest)) := s_get (ci := 0) (k := 1) hX hV iG0 rfl (by decide) (by decide) hlk hq rfl hdg kk
theorem fg_0_2 (hX : sr_X p s m args meth c cc nL ret own D aC) (hV : sr_V D aC sh n0 σ H0 H locs) (hlk : Cond.fieldLink own index "StagedRollout$Change" "tally" "LStagedRollout$Tally;" ∈ sr_G) (hq : sh q = 1) (hdg : decode cc pc = .ok (.getfield index, 3)) (kk : W p l e R s m args below meth c H locs cells slots Q (F0 m (pc + 3) ls (.ref (n0 + (q + 3)) :: rest))) : W p l e R s m args below meth c H locs cells slots Q (F0 m pc ls (.ref (n0 + q) :: rest)) := s_get (ci := 0) (k := 2) hX hV iG0 rfl (by decide) (by decide) hlk hq rfl hdg kk
theorem fg_0_3 (hX : sr_X p s m args meth c cc nL ret own D aC) (hV : sr_V D aC sh n0 σ H0 H locs) (hlk : Cond.fieldLink own index "StagedRollout$Change" "begunAt" "[I" ∈ sr_G) (hq : sh q = 1) (hdg : decode cc pc = .ok (.getfield index, 3)) (kk : W p l e R s m args below meth c H locs cells slots Q (F0 m (pc + 3) ls (.ref (n0 + (q + 4)) :: rest))) : W p l e R s m args below meth c H locs cells slots Q (F0 m pc ls (.ref (n0 + q) :: rest)) := s_get (ci := 0) (k := 3) hX hV iG0 rfl (by decide) (by decide) hlk hq rfl hdg kk
theorem fg_0_4 (hX : sr_X p s m args meth c cc nL ret own D aC) (hV : sr_V D aC sh n0 σ H0 H locs) (hlk : Cond.fieldLink own index "StagedRollout$Change" "doneFirst" "I" ∈ sr_G) (hq : sh q = 1) (hdg : decode cc pc = .ok (.getfield index, 3)) (kk : W p l e R s m args below meth c H locs cells slots Q (F0 m (pc + 3) ls (.int (gI σ q 4) :: rest))) : W p l e R s m args below meth c H locs cells slots Q (F0 m pc ls (.ref (n0 + q) :: rest)) := s_get (ci := 0) (k := 4) hX hV iG0 rfl (by decide) (by decide) hlk hq rfl hdg kk
theorem fp_0_4 (hX : sr_X p s m args meth c cc nL ret own D aC) (hV : sr_V D aC sh n0 σ H0 H locs) (hlk : Cond.fieldLink own index "StagedRollout$Change" "doneFirst" "I" ∈ sr_G) (hq : sh q = 1) {x : Int32} (hdg : decode cc pc = .ok (.putfield index, 3)) (kk : ∀ (H1 : Heap) (locs1 : List Loc), sr_V D aC sh n0 (sI σ q 4 x) H0 H1 locs1 → W p l e R s m args below meth c H1 locs1 cells slots Q (F0 m (pc + 3) ls rest)) : W p l e R s m args below meth c H locs cells slots Q (F0 m pc ls (.int x :: .ref (n0 + q) :: rest)) := s_put (ci := 0) (k := 4) (σ' := sI σ q 4 x) hX hV iG0 tyX0 tyX0_ok nmX0 rfl (by decide) (by decide) hlk hq rfl (ty := .int) (by decide +kernel) rfl rfl (by simp [sr_F]) (by simp [sr_F, sI, upd]) sr_off_I hdg kk
theorem fg_0_5 (hX : sr_X p s m args meth c cc nL ret own D aC) (hV : sr_V D aC sh n0 σ H0 H locs) (hlk : Cond.fieldLink own index "StagedRollout$Change" "state" "I" ∈ sr_G) (hq : sh q = 1) (hdg : decode cc pc = .ok (.getfield index, 3)) (kk : W p l e R s m args below meth c H locs cells slots Q (F0 m (pc + 3) ls (.int (gI σ q 5) :: rest))) : W p l e R s m args below meth c H locs cells slots Q (F0 m pc ls (.ref (n0 + q) :: rest)) := s_get (ci := 0) (k := 5) hX hV iG0 rfl (by decide) (by decide) hlk hq rfl hdg kk
theorem fp_0_5 (hX : sr_X p s m args meth c cc nL ret own D aC) (hV : sr_V D aC sh n0 σ H0 H locs) (hlk : Cond.fieldLink own index "StagedRollout$Change" "state" "I" ∈ sr_G) (hq : sh q = 1) {x : Int32} (hdg : decode cc pc = .ok (.putfield index, 3)) (kk : ∀ (H1 : Heap) (locs1 : List Loc), sr_V D aC sh n0 (sI σ q 5 x) H0 H1 locs1 → W p l e R s m args below meth c H1 locs1 cells slots Q (F0 m (pc + 3) ls rest)) : W p l e R s m args below meth c H locs cells slots Q (F0 m pc ls (.int x :: .ref (n0 + q) :: rest)) := s_put (ci := 0) (k := 5) (σ' := sI σ q 5 x) hX hV iG0 tyX0 tyX0_ok nmX0 rfl (by decide) (by decide) hlk hq rfl (ty := .int) (by decide +kernel) rfl rfl (by simp [sr_F]) (by simp [sr_F, sI, upd]) sr_off_I hdg kk
theorem fg_0_6 (hX : sr_X p s m args meth c cc nL ret own D aC) (hV : sr_V D aC sh n0 σ H0 H locs) (hlk : Cond.fieldLink own index "StagedRollout$Change" "begun" "I" ∈ sr_G) (hq : sh q = 1) (hdg : decode cc pc = .ok (.getfield index, 3)) (kk : W p l e R s m args below meth c H locs cells slots Q (F0 m (pc + 3) ls (.int (gI σ q 6) :: rest))) : W p l e R s m args below meth c H locs cells slots Q (F0 m pc ls (.ref (n0 + q) :: rest)) := s_get (ci := 0) (k := 6) hX hV iG0 rfl (by decide) (by decide) hlk hq rfl hdg kk
theorem fp_0_6 (hX : sr_X p s m args meth c cc nL ret own D aC) (hV : sr_V D aC sh n0 σ H0 H locs) (hlk : Cond.fieldLink own index "StagedRollout$Change" "begun" "I" ∈ sr_G) (hq : sh q = 1) {x : Int32} (hdg : decode cc pc = .ok (.putfield index, 3)) (kk : ∀ (H1 : Heap) (locs1 : List Loc), sr_V D aC sh n0 (sI σ q 6 x) H0 H1 locs1 → W p l e R s m args below meth c H1 locs1 cells slots Q (F0 m (pc + 3) ls rest)) : W p l e R s m args below meth c H locs cells slots Q (F0 m pc ls (.int x :: .ref (n0 + q) :: rest)) := s_put (ci := 0) (k := 6) (σ' := sI σ q 6 x) hX hV iG0 tyX0 tyX0_ok nmX0 rfl (by decide) (by decide) hlk hq rfl (ty := .int) (by decide +kernel) rfl rfl (by simp [sr_F]) (by simp [sr_F, sI, upd]) sr_off_I hdg kk
theorem fg_0_7 (hX : sr_X p s m args meth c cc nL ret own D aC) (hV : sr_V D aC sh n0 σ H0 H locs) (hlk : Cond.fieldLink own index "StagedRollout$Change" "isRisky" "Z" ∈ sr_G) (hq : sh q = 1) (hdg : decode cc pc = .ok (.getfield index, 3)) (kk : W p l e R s m args below meth c H locs cells slots Q (F0 m (pc + 3) ls (.int (bI (gB σ q 7)) :: rest))) : W p l e R s m args below meth c H locs cells slots Q (F0 m pc ls (.ref (n0 + q) :: rest)) := s_get (ci := 0) (k := 7) hX hV iG0 rfl (by decide) (by decide) hlk hq rfl hdg kk
theorem fp_0_7 (hX : sr_X p s m args meth c cc nL ret own D aC) (hV : sr_V D aC sh n0 σ H0 H locs) (hlk : Cond.fieldLink own index "StagedRollout$Change" "isRisky" "Z" ∈ sr_G) (hq : sh q = 1) {x : Bool} (hdg : decode cc pc = .ok (.putfield index, 3)) (kk : ∀ (H1 : Heap) (locs1 : List Loc), sr_V D aC sh n0 (sB σ q 7 x) H0 H1 locs1 → W p l e R s m args below meth c H1 locs1 cells slots Q (F0 m (pc + 3) ls rest)) : W p l e R s m args below meth c H locs cells slots Q (F0 m pc ls (.int (bI x) :: .ref (n0 + q) :: rest)) := s_put (ci := 0) (k := 7) (σ' := sB σ q 7 x) hX hV iG0 tyX0 tyX0_ok nmX0 rfl (by decide) (by decide) hlk hq rfl (ty := .boolean) (by decide +kernel) (sr_nb x) (sr_fb x) (by simp [sr_F]) (by simp [sr_F, sB]) sr_off_B hdg kk
theorem fg_1_0 (hX : sr_X p s m args meth c cc nL ret own D aC) (hV : sr_V D aC sh n0 σ H0 H locs) (hlk : Cond.fieldLink own index "StagedRollout$Fleet" "list" "[LStagedRollout$Change;" ∈ sr_G) (hq : sh q = 2) (hdg : decode cc pc = .ok (.getfield index, 3)) (kk : W p l e R s m args below meth c H locs cells slots Q (F0 m (pc + 3) ls (.ref (n0 + (q + 1)) :: rest))) : W p l e R s m args below meth c H locs cells slots Q (F0 m pc ls (.ref (n0 + q) :: rest)) := s_get (ci := 1) (k := 0) hX hV iG1 rfl (by decide) (by decide) hlk hq rfl hdg kk
theorem fg_1_1 (hX : sr_X p s m args meth c cc nL ret own D aC) (hV : sr_V D aC sh n0 σ H0 H locs) (hlk : Cond.fieldLink own index "StagedRollout$Fleet" "frozen" "LStagedRollout$FrozenHours;" ∈ sr_G) (hq : sh q = 2) (hdg : decode cc pc = .ok (.getfield index, 3)) (kk : W p l e R s m args below meth c H locs cells slots Q (F0 m (pc + 3) ls (.ref (n0 + (q + 27)) :: rest))) : W p l e R s m args below meth c H locs cells slots Q (F0 m pc ls (.ref (n0 + q) :: rest)) := s_get (ci := 1) (k := 1) hX hV iG1 rfl (by decide) (by decide) hlk hq rfl hdg kk
theorem fg_1_2 (hX : sr_X p s m args meth c cc nL ret own D aC) (hV : sr_V D aC sh n0 σ H0 H locs) (hlk : Cond.fieldLink own index "StagedRollout$Fleet" "log" "LStagedRollout$Log;" ∈ sr_G) (hq : sh q = 2) (hdg : decode cc pc = .ok (.getfield index, 3)) (kk : W p l e R s m args below meth c H locs cells slots Q (F0 m (pc + 3) ls (.ref (n0 + (q + 30)) :: rest))) : W p l e R s m args below meth c H locs cells slots Q (F0 m pc ls (.ref (n0 + q) :: rest)) := s_get (ci := 1) (k := 2) hX hV iG1 rfl (by decide) (by decide) hlk hq rfl hdg kk
theorem fg_1_3 (hX : sr_X p s m args meth c cc nL ret own D aC) (hV : sr_V D aC sh n0 σ H0 H locs) (hlk : Cond.fieldLink own index "StagedRollout$Fleet" "ignoresProbes" "Z" ∈ sr_G) (hq : sh q = 2) (hdg : decode cc pc = .ok (.getfield index, 3)) (kk : W p l e R s m args below meth c H locs cells slots Q (F0 m (pc + 3) ls (.int (bI (gB σ q 3)) :: rest))) : W p l e R s m args below meth c H locs cells slots Q (F0 m pc ls (.ref (n0 + q) :: rest)) := s_get (ci := 1) (k := 3) hX hV iG1 rfl (by decide) (by decide) hlk hq rfl hdg kk
theorem fg_1_4 (hX : sr_X p s m args meth c cc nL ret own D aC) (hV : sr_V D aC sh n0 σ H0 H locs) (hlk : Cond.fieldLink own index "StagedRollout$Fleet" "size" "I" ∈ sr_G) (hq : sh q = 2) (hdg : decode cc pc = .ok (.getfield index, 3)) (kk : W p l e R s m args below meth c H locs cells slots Q (F0 m (pc + 3) ls (.int (gI σ q 4) :: rest))) : W p l e R s m args below meth c H locs cells slots Q (F0 m pc ls (.ref (n0 + q) :: rest)) := s_get (ci := 1) (k := 4) hX hV iG1 rfl (by decide) (by decide) hlk hq rfl hdg kk
theorem fp_1_4 (hX : sr_X p s m args meth c cc nL ret own D aC) (hV : sr_V D aC sh n0 σ H0 H locs) (hlk : Cond.fieldLink own index "StagedRollout$Fleet" "size" "I" ∈ sr_G) (hq : sh q = 2) {x : Int32} (hdg : decode cc pc = .ok (.putfield index, 3)) (kk : ∀ (H1 : Heap) (locs1 : List Loc), sr_V D aC sh n0 (sI σ q 4 x) H0 H1 locs1 → W p l e R s m args below meth c H1 locs1 cells slots Q (F0 m (pc + 3) ls rest)) : W p l e R s m args below meth c H locs cells slots Q (F0 m pc ls (.int x :: .ref (n0 + q) :: rest)) := s_put (ci := 1) (k := 4) (σ' := sI σ q 4 x) hX hV iG1 tyX1 tyX1_ok nmX1 rfl (by decide) (by decide) hlk hq rfl (ty := .int) (by decide +kernel) rfl rfl (by simp [sr_F]) (by simp [sr_F, sI, upd]) sr_off_I hdg kk
theorem fg_1_5 (hX : sr_X p s m args meth c cc nL ret own D aC) (hV : sr_V D aC sh n0 σ H0 H locs) (hlk : Cond.fieldLink own index "StagedRollout$Fleet" "cells" "I" ∈ sr_G) (hq : sh q = 2) (hdg : decode cc pc = .ok (.getfield index, 3)) (kk : W p l e R s m args below meth c H locs cells slots Q (F0 m (pc + 3) ls (.int (gI σ q 5) :: rest))) : W p l e R s m args below meth c H locs cells slots Q (F0 m pc ls (.ref (n0 + q) :: rest)) := s_get (ci := 1) (k := 5) hX hV iG1 rfl (by decide) (by decide) hlk hq rfl hdg kk
theorem fp_1_5 (hX : sr_X p s m args meth c cc nL ret own D aC) (hV : sr_V D aC sh n0 σ H0 H locs) (hlk : Cond.fieldLink own index "StagedRollout$Fleet" "cells" "I" ∈ sr_G) (hq : sh q = 2) {x : Int32} (hdg : decode cc pc = .ok (.putfield index, 3)) (kk : ∀ (H1 : Heap) (locs1 : List Loc), sr_V D aC sh n0 (sI σ q 5 x) H0 H1 locs1 → W p l e R s m args below meth c H1 locs1 cells slots Q (F0 m (pc + 3) ls rest)) : W p l e R s m args below meth c H locs cells slots Q (F0 m pc ls (.int x :: .ref (n0 + q) :: rest)) := s_put (ci := 1) (k := 5) (σ' := sI σ q 5 x) hX hV iG1 tyX1 tyX1_ok nmX1 rfl (by decide) (by decide) hlk hq rfl (ty := .int) (by decide +kernel) rfl rfl (by simp [sr_F]) (by simp [sr_F, sI, upd]) sr_off_I hdg kk
theorem fg_1_6 (hX : sr_X p s m args meth c cc nL ret own D aC) (hV : sr_V D aC sh n0 σ H0 H locs) (hlk : Cond.fieldLink own index "StagedRollout$Fleet" "hour" "I" ∈ sr_G) (hq : sh q = 2) (hdg : decode cc pc = .ok (.getfield index, 3)) (kk : W p l e R s m args below meth c H locs cells slots Q (F0 m (pc + 3) ls (.int (gI σ q 6) :: rest))) : W p l e R s m args below meth c H locs cells slots Q (F0 m pc ls (.ref (n0 + q) :: rest)) := s_get (ci := 1) (k := 6) hX hV iG1 rfl (by decide) (by decide) hlk hq rfl hdg kk
theorem fp_1_6 (hX : sr_X p s m args meth c cc nL ret own D aC) (hV : sr_V D aC sh n0 σ H0 H locs) (hlk : Cond.fieldLink own index "StagedRollout$Fleet" "hour" "I" ∈ sr_G) (hq : sh q = 2) {x : Int32} (hdg : decode cc pc = .ok (.putfield index, 3)) (kk : ∀ (H1 : Heap) (locs1 : List Loc), sr_V D aC sh n0 (sI σ q 6 x) H0 H1 locs1 → W p l e R s m args below meth c H1 locs1 cells slots Q (F0 m (pc + 3) ls rest)) : W p l e R s m args below meth c H locs cells slots Q (F0 m pc ls (.int x :: .ref (n0 + q) :: rest)) := s_put (ci := 1) (k := 6) (σ' := sI σ q 6 x) hX hV iG1 tyX1 tyX1_ok nmX1 rfl (by decide) (by decide) hlk hq rfl (ty := .int) (by decide +kernel) rfl rfl (by simp [sr_F]) (by simp [sr_F, sI, upd]) sr_off_I hdg kk
theorem fg_1_7 (hX : sr_X p s m args meth c cc nL ret own D aC) (hV : sr_V D aC sh n0 σ H0 H locs) (hlk : Cond.fieldLink own index "StagedRollout$Fleet" "limit" "I" ∈ sr_G) (hq : sh q = 2) (hdg : decode cc pc = .ok (.getfield index, 3)) (kk : W p l e R s m args below meth c H locs cells slots Q (F0 m (pc + 3) ls (.int (gI σ q 7) :: rest))) : W p l e R s m args below meth c H locs cells slots Q (F0 m pc ls (.ref (n0 + q) :: rest)) := s_get (ci := 1) (k := 7) hX hV iG1 rfl (by decide) (by decide) hlk hq rfl hdg kk
theorem fp_1_7 (hX : sr_X p s m args meth c cc nL ret own D aC) (hV : sr_V D aC sh n0 σ H0 H locs) (hlk : Cond.fieldLink own index "StagedRollout$Fleet" "limit" "I" ∈ sr_G) (hq : sh q = 2) {x : Int32} (hdg : decode cc pc = .ok (.putfield index, 3)) (kk : ∀ (H1 : Heap) (locs1 : List Loc), sr_V D aC sh n0 (sI σ q 7 x) H0 H1 locs1 → W p l e R s m args below meth c H1 locs1 cells slots Q (F0 m (pc + 3) ls rest)) : W p l e R s m args below meth c H locs cells slots Q (F0 m pc ls (.int x :: .ref (n0 + q) :: rest)) := s_put (ci := 1) (k := 7) (σ' := sI σ q 7 x) hX hV iG1 tyX1 tyX1_ok nmX1 rfl (by decide) (by decide) hlk hq rfl (ty := .int) (by decide +kernel) rfl rfl (by simp [sr_F]) (by simp [sr_F, sI, upd]) sr_off_I hdg kk
theorem fg_2_0 (hX : sr_X p s m args meth c cc nL ret own D aC) (hV : sr_V D aC sh n0 σ H0 H locs) (hlk : Cond.fieldLink own index "StagedRollout$FrozenHours" "from" "[I" ∈ sr_G) (hq : sh q = 3) (hdg : decode cc pc = .ok (.getfield index, 3)) (kk : W p l e R s m args below meth c H locs cells slots Q (F0 m (pc + 3) ls (.ref (n0 + (q + 1)) :: rest))) : W p l e R s m args below meth c H locs cells slots Q (F0 m pc ls (.ref (n0 + q) :: rest)) := s_get (ci := 2) (k := 0) hX hV iG2 rfl (by decide) (by decide) hlk hq rfl hdg kk
theorem fg_2_1 (hX : sr_X p s m args meth c cc nL ret own D aC) (hV : sr_V D aC sh n0 σ H0 H locs) (hlk : Cond.fieldLink own index "StagedRollout$FrozenHours" "to" "[I" ∈ sr_G) (hq : sh q = 3) (hdg : decode cc pc = .ok (.getfield index, 3)) (kk : W p l e R s m args below meth c H locs cells slots Q (F0 m (pc + 3) ls (.ref (n0 + (q + 2)) :: rest))) : W p l e R s m args below meth c H locs cells slots Q (F0 m pc ls (.ref (n0 + q) :: rest)) := s_get (ci := 2) (k := 1) hX hV iG2 rfl (by decide) (by decide) hlk hq rfl hdg kk
theorem fg_2_2 (hX : sr_X p s m args meth c cc nL ret own D aC) (hV : sr_V D aC sh n0 σ H0 H locs) (hlk : Cond.fieldLink own index "StagedRollout$FrozenHours" "size" "I" ∈ sr_G) (hq : sh q = 3) (hdg : decode cc pc = .ok (.getfield index, 3)) (kk : W p l e R s m args below meth c H locs cells slots Q (F0 m (pc + 3) ls (.int (gI σ q 2) :: rest))) : W p l e R s m args below meth c H locs cells slots Q (F0 m pc ls (.ref (n0 + q) :: rest)) := s_get (ci := 2) (k := 2) hX hV iG2 rfl (by decide) (by decide) hlk hq rfl hdg kk
theorem fp_2_2 (hX : sr_X p s m args meth c cc nL ret own D aC) (hV : sr_V D aC sh n0 σ H0 H locs) (hlk : Cond.fieldLink own index "StagedRollout$FrozenHours" "size" "I" ∈ sr_G) (hq : sh q = 3) {x : Int32} (hdg : decode cc pc = .ok (.putfield index, 3)) (kk : ∀ (H1 : Heap) (locs1 : List Loc), sr_V D aC sh n0 (sI σ q 2 x) H0 H1 locs1 → W p l e R s m args below meth c H1 locs1 cells slots Q (F0 m (pc + 3) ls rest)) : W p l e R s m args below meth c H locs cells slots Q (F0 m pc ls (.int x :: .ref (n0 + q) :: rest)) := s_put (ci := 2) (k := 2) (σ' := sI σ q 2 x) hX hV iG2 tyX2 tyX2_ok nmX2 rfl (by decide) (by decide) hlk hq rfl (ty := .int) (by decide +kernel) rfl rfl (by simp [sr_F]) (by simp [sr_F, sI, upd]) sr_off_I hdg kk
theorem fg_3_0 (hX : sr_X p s m args meth c cc nL ret own D aC) (hV : sr_V D aC sh n0 σ H0 H locs) (hlk : Cond.fieldLink own index "StagedRollout$Log" "numbers" "[I" ∈ sr_G) (hq : sh q = 4) (hdg : decode cc pc = .ok (.getfield index, 3)) (kk : W p l e R s m args below meth c H locs cells slots Q (F0 m (pc + 3) ls (.ref (n0 + (q + 1)) :: rest))) : W p l e R s m args below meth c H locs cells slots Q (F0 m pc ls (.ref (n0 + q) :: rest)) := s_get (ci := 3) (k := 0) hX hV iG3 rfl (by decide) (by decide) hlk hq rfl hdg kk
theorem fg_3_1 (hX : sr_X p s m args meth c cc nL ret own D aC) (hV : sr_V D aC sh n0 σ H0 H locs) (hlk : Cond.fieldLink own index "StagedRollout$Log" "oldest" "I" ∈ sr_G) (hq : sh q = 4) (hdg : decode cc pc = .ok (.getfield index, 3)) (kk : W p l e R s m args below meth c H locs cells slots Q (F0 m (pc + 3) ls (.int (gI σ q 1) :: rest))) : W p l e R s m args below meth c H locs cells slots Q (F0 m pc ls (.ref (n0 + q) :: rest)) := s_get (ci := 3) (k := 1) hX hV iG3 rfl (by decide) (by decide) hlk hq rfl hdg kk
theorem fp_3_1 (hX : sr_X p s m args meth c cc nL ret own D aC) (hV : sr_V D aC sh n0 σ H0 H locs) (hlk : Cond.fieldLink own index "StagedRollout$Log" "oldest" "I" ∈ sr_G) (hq : sh q = 4) {x : Int32} (hdg : decode cc pc = .ok (.putfield index, 3)) (kk : ∀ (H1 : Heap) (locs1 : List Loc), sr_V D aC sh n0 (sI σ q 1 x) H0 H1 locs1 → W p l e R s m args below meth c H1 locs1 cells slots Q (F0 m (pc + 3) ls rest)) : W p l e R s m args below meth c H locs cells slots Q (F0 m pc ls (.int x :: .ref (n0 + q) :: rest)) := s_put (ci := 3) (k := 1) (σ' := sI σ q 1 x) hX hV iG3 tyX3 tyX3_ok nmX3 rfl (by decide) (by decide) hlk hq rfl (ty := .int) (by decide +kernel) rfl rfl (by simp [sr_F]) (by simp [sr_F, sI, upd]) sr_off_I hdg kk
theorem fg_3_2 (hX : sr_X p s m args meth c cc nL ret own D aC) (hV : sr_V D aC sh n0 σ H0 H locs) (hlk : Cond.fieldLink own index "StagedRollout$Log" "size" "I" ∈ sr_G) (hq : sh q = 4) (hdg : decode cc pc = .ok (.getfield index, 3)) (kk : W p l e R s m args below meth c H locs cells slots Q (F0 m (pc + 3) ls (.int (gI σ q 2) :: rest))) : W p l e R s m args below meth c H locs cells slots Q (F0 m pc ls (.ref (n0 + q) :: rest)) := s_get (ci := 3) (k := 2) hX hV iG3 rfl (by decide) (by decide) hlk hq rfl hdg kk
theorem fp_3_2 (hX : sr_X p s m args meth c cc nL ret own D aC) (hV : sr_V D aC sh n0 σ H0 H locs) (hlk : Cond.fieldLink own index "StagedRollout$Log" "size" "I" ∈ sr_G) (hq : sh q = 4) {x : Int32} (hdg : decode cc pc = .ok (.putfield index, 3)) (kk : ∀ (H1 : Heap) (locs1 : List Loc), sr_V D aC sh n0 (sI σ q 2 x) H0 H1 locs1 → W p l e R s m args below meth c H1 locs1 cells slots Q (F0 m (pc + 3) ls rest)) : W p l e R s m args below meth c H locs cells slots Q (F0 m pc ls (.int x :: .ref (n0 + q) :: rest)) := s_put (ci := 3) (k := 2) (σ' := sI σ q 2 x) hX hV iG3 tyX3 tyX3_ok nmX3 rfl (by decide) (by decide) hlk hq rfl (ty := .int) (by decide +kernel) rfl rfl (by simp [sr_F]) (by simp [sr_F, sI, upd]) sr_off_I hdg kk
theorem fg_3_3 (hX : sr_X p s m args meth c cc nL ret own D aC) (hV : sr_V D aC sh n0 σ H0 H locs) (hlk : Cond.fieldLink own index "StagedRollout$Log" "received" "I" ∈ sr_G) (hq : sh q = 4) (hdg : decode cc pc = .ok (.getfield index, 3)) (kk : W p l e R s m args below meth c H locs cells slots Q (F0 m (pc + 3) ls (.int (gI σ q 3) :: rest))) : W p l e R s m args below meth c H locs cells slots Q (F0 m pc ls (.ref (n0 + q) :: rest)) := s_get (ci := 3) (k := 3) hX hV iG3 rfl (by decide) (by decide) hlk hq rfl hdg kk
theorem fp_3_3 (hX : sr_X p s m args meth c cc nL ret own D aC) (hV : sr_V D aC sh n0 σ H0 H locs) (hlk : Cond.fieldLink own index "StagedRollout$Log" "received" "I" ∈ sr_G) (hq : sh q = 4) {x : Int32} (hdg : decode cc pc = .ok (.putfield index, 3)) (kk : ∀ (H1 : Heap) (locs1 : List Loc), sr_V D aC sh n0 (sI σ q 3 x) H0 H1 locs1 → W p l e R s m args below meth c H1 locs1 cells slots Q (F0 m (pc + 3) ls rest)) : W p l e R s m args below meth c H locs cells slots Q (F0 m pc ls (.int x :: .ref (n0 + q) :: rest)) := s_put (ci := 3) (k := 3) (σ' := sI σ q 3 x) hX hV iG3 tyX3 tyX3_ok nmX3 rfl (by decide) (by decide) hlk hq rfl (ty := .int) (by decide +kernel) rfl rfl (by simp [sr_F]) (by simp [sr_F, sI, upd]) sr_off_I hdg kk
theorem fg_4_0 (hX : sr_X p s m args meth c cc nL ret own D aC) (hV : sr_V D aC sh n0 σ H0 H locs) (hlk : Cond.fieldLink own index "StagedRollout$Plan" "numbers" "[I" ∈ sr_G) (hq : sh q = 5) (hdg : decode cc pc = .ok (.getfield index, 3)) (kk : W p l e R s m args below meth c H locs cells slots Q (F0 m (pc + 3) ls (.ref (n0 + (q + 1)) :: rest))) : W p l e R s m args below meth c H locs cells slots Q (F0 m pc ls (.ref (n0 + q) :: rest)) := s_get (ci := 4) (k := 0) hX hV iG4 rfl (by decide) (by decide) hlk hq rfl hdg kk
theorem fg_4_1 (hX : sr_X p s m args meth c cc nL ret own D aC) (hV : sr_V D aC sh n0 σ H0 H locs) (hlk : Cond.fieldLink own index "StagedRollout$Plan" "size" "I" ∈ sr_G) (hq : sh q = 5) (hdg : decode cc pc = .ok (.getfield index, 3)) (kk : W p l e R s m args below meth c H locs cells slots Q (F0 m (pc + 3) ls (.int (gI σ q 1) :: rest))) : W p l e R s m args below meth c H locs cells slots Q (F0 m pc ls (.ref (n0 + q) :: rest)) := s_get (ci := 4) (k := 1) hX hV iG4 rfl (by decide) (by decide) hlk hq rfl hdg kk
theorem fp_4_1 (hX : sr_X p s m args meth c cc nL ret own D aC) (hV : sr_V D aC sh n0 σ H0 H locs) (hlk : Cond.fieldLink own index "StagedRollout$Plan" "size" "I" ∈ sr_G) (hq : sh q = 5) {x : Int32} (hdg : decode cc pc = .ok (.putfield index, 3)) (kk : ∀ (H1 : Heap) (locs1 : List Loc), sr_V D aC sh n0 (sI σ q 1 x) H0 H1 locs1 → W p l e R s m args below meth c H1 locs1 cells slots Q (F0 m (pc + 3) ls rest)) : W p l e R s m args below meth c H locs cells slots Q (F0 m pc ls (.int x :: .ref (n0 + q) :: rest)) := s_put (ci := 4) (k := 1) (σ' := sI σ q 1 x) hX hV iG4 tyX4 tyX4_ok nmX4 rfl (by decide) (by decide) hlk hq rfl (ty := .int) (by decide +kernel) rfl rfl (by simp [sr_F]) (by simp [sr_F, sI, upd]) sr_off_I hdg kk
theorem fg_5_0 (hX : sr_X p s m args meth c cc nL ret own D aC) (hV : sr_V D aC sh n0 σ H0 H locs) (hlk : Cond.fieldLink own index "StagedRollout$PlanText" "letters" "[B" ∈ sr_G) (hq : sh q = 6) (hdg : decode cc pc = .ok (.getfield index, 3)) (kk : W p l e R s m args below meth c H locs cells slots Q (F0 m (pc + 3) ls (.ref (n0 + (q + 1)) :: rest))) : W p l e R s m args below meth c H locs cells slots Q (F0 m pc ls (.ref (n0 + q) :: rest)) := s_get (ci := 5) (k := 0) hX hV iG5 rfl (by decide) (by decide) hlk hq rfl hdg kk
theorem fg_5_1 (hX : sr_X p s m args meth c cc nL ret own D aC) (hV : sr_V D aC sh n0 σ H0 H locs) (hlk : Cond.fieldLink own index "StagedRollout$PlanText" "plan" "LStagedRollout$Plan;" ∈ sr_G) (hq : sh q = 6) (hdg : decode cc pc = .ok (.getfield index, 3)) (kk : W p l e R s m args below meth c H locs cells slots Q (F0 m (pc + 3) ls (.ref (n0 + (q + 2)) :: rest))) : W p l e R s m args below meth c H locs cells slots Q (F0 m pc ls (.ref (n0 + q) :: rest)) := s_get (ci := 5) (k := 1) hX hV iG5 rfl (by decide) (by decide) hlk hq rfl hdg kk
theorem fg_5_2 (hX : sr_X p s m args meth c cc nL ret own D aC) (hV : sr_V D aC sh n0 σ H0 H locs) (hlk : Cond.fieldLink own index "StagedRollout$PlanText" "length" "I" ∈ sr_G) (hq : sh q = 6) (hdg : decode cc pc = .ok (.getfield index, 3)) (kk : W p l e R s m args below meth c H locs cells slots Q (F0 m (pc + 3) ls (.int (gI σ q 2) :: rest))) : W p l e R s m args below meth c H locs cells slots Q (F0 m pc ls (.ref (n0 + q) :: rest)) := s_get (ci := 5) (k := 2) hX hV iG5 rfl (by decide) (by decide) hlk hq rfl hdg kk
theorem fp_5_2 (hX : sr_X p s m args meth c cc nL ret own D aC) (hV : sr_V D aC sh n0 σ H0 H locs) (hlk : Cond.fieldLink own index "StagedRollout$PlanText" "length" "I" ∈ sr_G) (hq : sh q = 6) {x : Int32} (hdg : decode cc pc = .ok (.putfield index, 3)) (kk : ∀ (H1 : Heap) (locs1 : List Loc), sr_V D aC sh n0 (sI σ q 2 x) H0 H1 locs1 → W p l e R s m args below meth c H1 locs1 cells slots Q (F0 m (pc + 3) ls rest)) : W p l e R s m args below meth c H locs cells slots Q (F0 m pc ls (.int x :: .ref (n0 + q) :: rest)) := s_put (ci := 5) (k := 2) (σ' := sI σ q 2 x) hX hV iG5 tyX5 tyX5_ok nmX5 rfl (by decide) (by decide) hlk hq rfl (ty := .int) (by decide +kernel) rfl rfl (by simp [sr_F]) (by simp [sr_F, sI, upd]) sr_off_I hdg kk
theorem fg_5_3 (hX : sr_X p s m args meth c cc nL ret own D aC) (hV : sr_V D aC sh n0 σ H0 H locs) (hlk : Cond.fieldLink own index "StagedRollout$PlanText" "at" "I" ∈ sr_G) (hq : sh q = 6) (hdg : decode cc pc = .ok (.getfield index, 3)) (kk : W p l e R s m args below meth c H locs cells slots Q (F0 m (pc + 3) ls (.int (gI σ q 3) :: rest))) : W p l e R s m args below meth c H locs cells slots Q (F0 m pc ls (.ref (n0 + q) :: rest)) := s_get (ci := 5) (k := 3) hX hV iG5 rfl (by decide) (by decide) hlk hq rfl hdg kk
theorem fp_5_3 (hX : sr_X p s m args meth c cc nL ret own D aC) (hV : sr_V D aC sh n0 σ H0 H locs) (hlk : Cond.fieldLink own index "StagedRollout$PlanText" "at" "I" ∈ sr_G) (hq : sh q = 6) {x : Int32} (hdg : decode cc pc = .ok (.putfield index, 3)) (kk : ∀ (H1 : Heap) (locs1 : List Loc), sr_V D aC sh n0 (sI σ q 3 x) H0 H1 locs1 → W p l e R s m args below meth c H1 locs1 cells slots Q (F0 m (pc + 3) ls rest)) : W p l e R s m args below meth c H locs cells slots Q (F0 m pc ls (.int x :: .ref (n0 + q) :: rest)) := s_put (ci := 5) (k := 3) (σ' := sI σ q 3 x) hX hV iG5 tyX5 tyX5_ok nmX5 rfl (by decide) (by decide) hlk hq rfl (ty := .int) (by decide +kernel) rfl rfl (by simp [sr_F]) (by simp [sr_F, sI, upd]) sr_off_I hdg kk
theorem fg_6_0 (hX : sr_X p s m args meth c cc nL ret own D aC) (hV : sr_V D aC sh n0 σ H0 H locs) (hlk : Cond.fieldLink own index "StagedRollout$Tally" "badTreated" "I" ∈ sr_G) (hq : sh q = 7) (hdg : decode cc pc = .ok (.getfield index, 3)) (kk : W p l e R s m args below meth c H locs cells slots Q (F0 m (pc + 3) ls (.int (gI σ q 0) :: rest))) : W p l e R s m args below meth c H locs cells slots Q (F0 m pc ls (.ref (n0 + q) :: rest)) := s_get (ci := 6) (k := 0) hX hV iG6 rfl (by decide) (by decide) hlk hq rfl hdg kk
theorem fp_6_0 (hX : sr_X p s m args meth c cc nL ret own D aC) (hV : sr_V D aC sh n0 σ H0 H locs) (hlk : Cond.fieldLink own index "StagedRollout$Tally" "badTreated" "I" ∈ sr_G) (hq : sh q = 7) {x : Int32} (hdg : decode cc pc = .ok (.putfield index, 3)) (kk : ∀ (H1 : Heap) (locs1 : List Loc), sr_V D aC sh n0 (sI σ q 0 x) H0 H1 locs1 → W p l e R s m args below meth c H1 locs1 cells slots Q (F0 m (pc + 3) ls rest)) : W p l e R s m args below meth c H locs cells slots Q (F0 m pc ls (.int x :: .ref (n0 + q) :: rest)) := s_put (ci := 6) (k := 0) (σ' := sI σ q 0 x) hX hV iG6 tyX6 tyX6_ok nmX6 rfl (by decide) (by decide) hlk hq rfl (ty := .int) (by decide +kernel) rfl rfl (by simp [sr_F]) (by simp [sr_F, sI, upd]) sr_off_I hdg kk
theorem fg_6_1 (hX : sr_X p s m args meth c cc nL ret own D aC) (hV : sr_V D aC sh n0 σ H0 H locs) (hlk : Cond.fieldLink own index "StagedRollout$Tally" "goodTreated" "I" ∈ sr_G) (hq : sh q = 7) (hdg : decode cc pc = .ok (.getfield index, 3)) (kk : W p l e R s m args below meth c H locs cells slots Q (F0 m (pc + 3) ls (.int (gI σ q 1) :: rest))) : W p l e R s m args below meth c H locs cells slots Q (F0 m pc ls (.ref (n0 + q) :: rest)) := s_get (ci := 6) (k := 1) hX hV iG6 rfl (by decide) (by decide) hlk hq rfl hdg kk
theorem fp_6_1 (hX : sr_X p s m args meth c cc nL ret own D aC) (hV : sr_V D aC sh n0 σ H0 H locs) (hlk : Cond.fieldLink own index "StagedRollout$Tally" "goodTreated" "I" ∈ sr_G) (hq : sh q = 7) {x : Int32} (hdg : decode cc pc = .ok (.putfield index, 3)) (kk : ∀ (H1 : Heap) (locs1 : List Loc), sr_V D aC sh n0 (sI σ q 1 x) H0 H1 locs1 → W p l e R s m args below meth c H1 locs1 cells slots Q (F0 m (pc + 3) ls rest)) : W p l e R s m args below meth c H locs cells slots Q (F0 m pc ls (.int x :: .ref (n0 + q) :: rest)) := s_put (ci := 6) (k := 1) (σ' := sI σ q 1 x) hX hV iG6 tyX6 tyX6_ok nmX6 rfl (by decide) (by decide) hlk hq rfl (ty := .int) (by decide +kernel) rfl rfl (by simp [sr_F]) (by simp [sr_F, sI, upd]) sr_off_I hdg kk
theorem fg_6_2 (hX : sr_X p s m args meth c cc nL ret own D aC) (hV : sr_V D aC sh n0 σ H0 H locs) (hlk : Cond.fieldLink own index "StagedRollout$Tally" "badControl" "I" ∈ sr_G) (hq : sh q = 7) (hdg : decode cc pc = .ok (.getfield index, 3)) (kk : W p l e R s m args below meth c H locs cells slots Q (F0 m (pc + 3) ls (.int (gI σ q 2) :: rest))) : W p l e R s m args below meth c H locs cells slots Q (F0 m pc ls (.ref (n0 + q) :: rest)) := s_get (ci := 6) (k := 2) hX hV iG6 rfl (by decide) (by decide) hlk hq rfl hdg kk
theorem fp_6_2 (hX : sr_X p s m args meth c cc nL ret own D aC) (hV : sr_V D aC sh n0 σ H0 H locs) (hlk : Cond.fieldLink own index "StagedRollout$Tally" "badControl" "I" ∈ sr_G) (hq : sh q = 7) {x : Int32} (hdg : decode cc pc = .ok (.putfield index, 3)) (kk : ∀ (H1 : Heap) (locs1 : List Loc), sr_V D aC sh n0 (sI σ q 2 x) H0 H1 locs1 → W p l e R s m args below meth c H1 locs1 cells slots Q (F0 m (pc + 3) ls rest)) : W p l e R s m args below meth c H locs cells slots Q (F0 m pc ls (.int x :: .ref (n0 + q) :: rest)) := s_put (ci := 6) (k := 2) (σ' := sI σ q 2 x) hX hV iG6 tyX6 tyX6_ok nmX6 rfl (by decide) (by decide) hlk hq rfl (ty := .int) (by decide +kernel) rfl rfl (by simp [sr_F]) (by simp [sr_F, sI, upd]) sr_off_I hdg kk
theorem fg_6_3 (hX : sr_X p s m args meth c cc nL ret own D aC) (hV : sr_V D aC sh n0 σ H0 H locs) (hlk : Cond.fieldLink own index "StagedRollout$Tally" "goodControl" "I" ∈ sr_G) (hq : sh q = 7) (hdg : decode cc pc = .ok (.getfield index, 3)) (kk : W p l e R s m args below meth c H locs cells slots Q (F0 m (pc + 3) ls (.int (gI σ q 3) :: rest))) : W p l e R s m args below meth c H locs cells slots Q (F0 m pc ls (.ref (n0 + q) :: rest)) := s_get (ci := 6) (k := 3) hX hV iG6 rfl (by decide) (by decide) hlk hq rfl hdg kk
theorem fp_6_3 (hX : sr_X p s m args meth c cc nL ret own D aC) (hV : sr_V D aC sh n0 σ H0 H locs) (hlk : Cond.fieldLink own index "StagedRollout$Tally" "goodControl" "I" ∈ sr_G) (hq : sh q = 7) {x : Int32} (hdg : decode cc pc = .ok (.putfield index, 3)) (kk : ∀ (H1 : Heap) (locs1 : List Loc), sr_V D aC sh n0 (sI σ q 3 x) H0 H1 locs1 → W p l e R s m args below meth c H1 locs1 cells slots Q (F0 m (pc + 3) ls rest)) : W p l e R s m args below meth c H locs cells slots Q (F0 m pc ls (.int x :: .ref (n0 + q) :: rest)) := s_put (ci := 6) (k := 3) (σ' := sI σ q 3 x) hX hV iG6 tyX6 tyX6_ok nmX6 rfl (by decide) (by decide) hlk hq rfl (ty := .int) (by decide +kernel) rfl rfl (by simp [sr_F]) (by simp [sr_F, sI, upd]) sr_off_I hdg kk
theorem fg_6_4 (hX : sr_X p s m args meth c cc nL ret own D aC) (hV : sr_V D aC sh n0 σ H0 H locs) (hlk : Cond.fieldLink own index "StagedRollout$Tally" "numerator" "J" ∈ sr_G) (hq : sh q = 7) (hdg : decode cc pc = .ok (.getfield index, 3)) (kk : W p l e R s m args below meth c H locs cells slots Q (F0 m (pc + 3) ls (.long (gL σ q 4) :: rest))) : W p l e R s m args below meth c H locs cells slots Q (F0 m pc ls (.ref (n0 + q) :: rest)) := s_get (ci := 6) (k := 4) hX hV iG6 rfl (by decide) (by decide) hlk hq rfl hdg kk
theorem fp_6_4 (hX : sr_X p s m args meth c cc nL ret own D aC) (hV : sr_V D aC sh n0 σ H0 H locs) (hlk : Cond.fieldLink own index "StagedRollout$Tally" "numerator" "J" ∈ sr_G) (hq : sh q = 7) {x : Int64} (hdg : decode cc pc = .ok (.putfield index, 3)) (kk : ∀ (H1 : Heap) (locs1 : List Loc), sr_V D aC sh n0 (sL σ q 4 x) H0 H1 locs1 → W p l e R s m args below meth c H1 locs1 cells slots Q (F0 m (pc + 3) ls rest)) : W p l e R s m args below meth c H locs cells slots Q (F0 m pc ls (.long x :: .ref (n0 + q) :: rest)) := s_put (ci := 6) (k := 4) (σ' := sL σ q 4 x) hX hV iG6 tyX6 tyX6_ok nmX6 rfl (by decide) (by decide) hlk hq rfl (ty := .long) (by decide +kernel) rfl rfl (by simp [sr_F]) (by simp [sr_F, sL, vp_updL]) sr_off_L hdg kk
theorem fg_6_5 (hX : sr_X p s m args meth c cc nL ret own D aC) (hV : sr_V D aC sh n0 σ H0 H locs) (hlk : Cond.fieldLink own index "StagedRollout$Tally" "denominator" "J" ∈ sr_G) (hq : sh q = 7) (hdg : decode cc pc = .ok (.getfield index, 3)) (kk : W p l e R s m args below meth c H locs cells slots Q (F0 m (pc + 3) ls (.long (gL σ q 5) :: rest))) : W p l e R s m args below meth c H locs cells slots Q (F0 m pc ls (.ref (n0 + q) :: rest)) := s_get (ci := 6) (k := 5) hX hV iG6 rfl (by decide) (by decide) hlk hq rfl hdg kk
theorem fp_6_5 (hX : sr_X p s m args meth c cc nL ret own D aC) (hV : sr_V D aC sh n0 σ H0 H locs) (hlk : Cond.fieldLink own index "StagedRollout$Tally" "denominator" "J" ∈ sr_G) (hq : sh q = 7) {x : Int64} (hdg : decode cc pc = .ok (.putfield index, 3)) (kk : ∀ (H1 : Heap) (locs1 : List Loc), sr_V D aC sh n0 (sL σ q 5 x) H0 H1 locs1 → W p l e R s m args below meth c H1 locs1 cells slots Q (F0 m (pc + 3) ls rest)) : W p l e R s m args below meth c H locs cells slots Q (F0 m pc ls (.long x :: .ref (n0 + q) :: rest)) := s_put (ci := 6) (k := 5) (σ' := sL σ q 5 x) hX hV iG6 tyX6 tyX6_ok nmX6 rfl (by decide) (by decide) hlk hq rfl (ty := .long) (by decide +kernel) rfl rfl (by simp [sr_F]) (by simp [sr_F, sL, vp_updL]) sr_off_L hdg kk
theorem fg_7_0 (hX : sr_X p s m args meth c cc nL ret own D aC) (hV : sr_V D aC sh n0 σ H0 H locs) (hlk : Cond.fieldLink own index "StagedRollout" "fleet" "LStagedRollout$Fleet;" ∈ sr_G) (hq : sh q = 8) (hdg : decode cc pc = .ok (.getfield index, 3)) (kk : W p l e R s m args below meth c H locs cells slots Q (F0 m (pc + 3) ls (.ref (n0 + (q + 1)) :: rest))) : W p l e R s m args below meth c H locs cells slots Q (F0 m pc ls (.ref (n0 + q) :: rest)) := s_get (ci := 7) (k := 0) hX hV iG7 rfl (by decide) (by decide) hlk hq rfl hdg kk
theorem fg_7_1 (hX : sr_X p s m args meth c cc nL ret own D aC) (hV : sr_V D aC sh n0 σ H0 H locs) (hlk : Cond.fieldLink own index "StagedRollout" "trial" "LStagedRollout$Fleet;" ∈ sr_G) (hq : sh q = 8) (hdg : decode cc pc = .ok (.getfield index, 3)) (kk : W p l e R s m args below meth c H locs cells slots Q (F0 m (pc + 3) ls (.ref (n0 + (q + 33)) :: rest))) : W p l e R s m args below meth c H locs cells slots Q (F0 m pc ls (.ref (n0 + q) :: rest)) := s_get (ci := 7) (k := 1) hX hV iG7 rfl (by decide) (by decide) hlk hq rfl hdg kk
theorem fg_7_2 (hX : sr_X p s m args meth c cc nL ret own D aC) (hV : sr_V D aC sh n0 σ H0 H locs) (hlk : Cond.fieldLink own index "StagedRollout" "slots" "[LStagedRollout$Fleet;" ∈ sr_G) (hq : sh q = 8) (hdg : decode cc pc = .ok (.getfield index, 3)) (kk : W p l e R s m args below meth c H locs cells slots Q (F0 m (pc + 3) ls (.ref (n0 + (q + 65)) :: rest))) : W p l e R s m args below meth c H locs cells slots Q (F0 m pc ls (.ref (n0 + q) :: rest)) := s_get (ci := 7) (k := 2) hX hV iG7 rfl (by decide) (by decide) hlk hq rfl hdg kk
theorem fg_7_3 (hX : sr_X p s m args meth c cc nL ret own D aC) (hV : sr_V D aC sh n0 σ H0 H locs) (hlk : Cond.fieldLink own index "StagedRollout" "isKept" "[Z" ∈ sr_G) (hq : sh q = 8) (hdg : decode cc pc = .ok (.getfield index, 3)) (kk : W p l e R s m args below meth c H locs cells slots Q (F0 m (pc + 3) ls (.ref (n0 + (q + 66)) :: rest))) : W p l e R s m args below meth c H locs cells slots Q (F0 m pc ls (.ref (n0 + q) :: rest)) := s_get (ci := 7) (k := 3) hX hV iG7 rfl (by decide) (by decide) hlk hq rfl hdg kk
theorem fg_7_4 (hX : sr_X p s m args meth c cc nL ret own D aC) (hV : sr_V D aC sh n0 σ H0 H locs) (hlk : Cond.fieldLink own index "StagedRollout" "text" "LStagedRollout$PlanText;" ∈ sr_G) (hq : sh q = 8) (hdg : decode cc pc = .ok (.getfield index, 3)) (kk : W p l e R s m args below meth c H locs cells slots Q (F0 m (pc + 3) ls (.ref (n0 + (q + 131)) :: rest))) : W p l e R s m args below meth c H locs cells slots Q (F0 m pc ls (.ref (n0 + q) :: rest)) := s_get (ci := 7) (k := 4) hX hV iG7 rfl (by decide) (by decide) hlk hq rfl hdg kk
theorem fg_8_0 (hX : sr_X p s m args meth c cc nL ret own D aC) (hV : sr_V D aC sh n0 σ H0 H locs) (hlk : Cond.fieldLink own index "StagedRolloutModel" "v" "[I" ∈ sr_G) (hq : sh q = 9) (hdg : decode cc pc = .ok (.getfield index, 3)) (kk : W p l e R s m args below meth c H locs cells slots Q (F0 m (pc + 3) ls (.ref (n0 + (q + 1)) :: rest))) : W p l e R s m args below meth c H locs cells slots Q (F0 m pc ls (.ref (n0 + q) :: rest)) := s_get (ci := 8) (k := 0) hX hV iG8 rfl (by decide) (by decide) hlk hq rfl hdg kk
theorem fg_8_1 (hX : sr_X p s m args meth c cc nL ret own D aC) (hV : sr_V D aC sh n0 σ H0 H locs) (hlk : Cond.fieldLink own index "StagedRolloutModel" "spare" "[I" ∈ sr_G) (hq : sh q = 9) (hdg : decode cc pc = .ok (.getfield index, 3)) (kk : W p l e R s m args below meth c H locs cells slots Q (F0 m (pc + 3) ls (.ref (n0 + (q + 2)) :: rest))) : W p l e R s m args below meth c H locs cells slots Q (F0 m pc ls (.ref (n0 + q) :: rest)) := s_get (ci := 8) (k := 1) hX hV iG8 rfl (by decide) (by decide) hlk hq rfl hdg kk
theorem fg_8_2 (hX : sr_X p s m args meth c cc nL ret own D aC) (hV : sr_V D aC sh n0 σ H0 H locs) (hlk : Cond.fieldLink own index "StagedRolloutModel" "kept" "[I" ∈ sr_G) (hq : sh q = 9) (hdg : decode cc pc = .ok (.getfield index, 3)) (kk : W p l e R s m args below meth c H locs cells slots Q (F0 m (pc + 3) ls (.ref (n0 + (q + 3)) :: rest))) : W p l e R s m args below meth c H locs cells slots Q (F0 m pc ls (.ref (n0 + q) :: rest)) := s_get (ci := 8) (k := 2) hX hV iG8 rfl (by decide) (by decide) hlk hq rfl hdg kk
theorem fg_8_3 (hX : sr_X p s m args meth c cc nL ret own D aC) (hV : sr_V D aC sh n0 σ H0 H locs) (hlk : Cond.fieldLink own index "StagedRolloutModel" "isKept" "[Z" ∈ sr_G) (hq : sh q = 9) (hdg : decode cc pc = .ok (.getfield index, 3)) (kk : W p l e R s m args below meth c H locs cells slots Q (F0 m (pc + 3) ls (.ref (n0 + (q + 4)) :: rest))) : W p l e R s m args below meth c H locs cells slots Q (F0 m pc ls (.ref (n0 + q) :: rest)) := s_get (ci := 8) (k := 3) hX hV iG8 rfl (by decide) (by decide) hlk hq rfl hdg kk
theorem fg_8_4 (hX : sr_X p s m args meth c cc nL ret own D aC) (hV : sr_V D aC sh n0 σ H0 H locs) (hlk : Cond.fieldLink own index "StagedRolloutModel" "text" "[I" ∈ sr_G) (hq : sh q = 9) (hdg : decode cc pc = .ok (.getfield index, 3)) (kk : W p l e R s m args below meth c H locs cells slots Q (F0 m (pc + 3) ls (.ref (n0 + (q + 5)) :: rest))) : W p l e R s m args below meth c H locs cells slots Q (F0 m pc ls (.ref (n0 + q) :: rest)) := s_get (ci := 8) (k := 4) hX hV iG8 rfl (by decide) (by decide) hlk hq rfl hdg kk
theorem fg_8_5 (hX : sr_X p s m args meth c cc nL ret own D aC) (hV : sr_V D aC sh n0 σ H0 H locs) (hlk : Cond.fieldLink own index "StagedRolloutModel" "length" "I" ∈ sr_G) (hq : sh q = 9) (hdg : decode cc pc = .ok (.getfield index, 3)) (kk : W p l e R s m args below meth c H locs cells slots Q (F0 m (pc + 3) ls (.int (gI σ q 5) :: rest))) : W p l e R s m args below meth c H locs cells slots Q (F0 m pc ls (.ref (n0 + q) :: rest)) := s_get (ci := 8) (k := 5) hX hV iG8 rfl (by decide) (by decide) hlk hq rfl hdg kk
theorem fp_8_5 (hX : sr_X p s m args meth c cc nL ret own D aC) (hV : sr_V D aC sh n0 σ H0 H locs) (hlk : Cond.fieldLink own index "StagedRolloutModel" "length" "I" ∈ sr_G) (hq : sh q = 9) {x : Int32} (hdg : decode cc pc = .ok (.putfield index, 3)) (kk : ∀ (H1 : Heap) (locs1 : List Loc), sr_V D aC sh n0 (sI σ q 5 x) H0 H1 locs1 → W p l e R s m args below meth c H1 locs1 cells slots Q (F0 m (pc + 3) ls rest)) : W p l e R s m args below meth c H locs cells slots Q (F0 m pc ls (.int x :: .ref (n0 + q) :: rest)) := s_put (ci := 8) (k := 5) (σ' := sI σ q 5 x) hX hV iG8 tyX8 tyX8_ok nmX8 rfl (by decide) (by decide) hlk hq rfl (ty := .int) (by decide +kernel) rfl rfl (by simp [sr_F]) (by simp [sr_F, sI, upd]) sr_off_I hdg kk
theorem fg_8_6 (hX : sr_X p s m args meth c cc nL ret own D aC) (hV : sr_V D aC sh n0 σ H0 H locs) (hlk : Cond.fieldLink own index "StagedRolloutModel" "isForecast" "Z" ∈ sr_G) (hq : sh q = 9) (hdg : decode cc pc = .ok (.getfield index, 3)) (kk : W p l e R s m args below meth c H locs cells slots Q (F0 m (pc + 3) ls (.int (bI (gB σ q 6)) :: rest))) : W p l e R s m args below meth c H locs cells slots Q (F0 m pc ls (.ref (n0 + q) :: rest)) := s_get (ci := 8) (k := 6) hX hV iG8 rfl (by decide) (by decide) hlk hq rfl hdg kk
theorem fp_8_6 (hX : sr_X p s m args meth c cc nL ret own D aC) (hV : sr_V D aC sh n0 σ H0 H locs) (hlk : Cond.fieldLink own index "StagedRolloutModel" "isForecast" "Z" ∈ sr_G) (hq : sh q = 9) {x : Bool} (hdg : decode cc pc = .ok (.putfield index, 3)) (kk : ∀ (H1 : Heap) (locs1 : List Loc), sr_V D aC sh n0 (sB σ q 6 x) H0 H1 locs1 → W p l e R s m args below meth c H1 locs1 cells slots Q (F0 m (pc + 3) ls rest)) : W p l e R s m args below meth c H locs cells slots Q (F0 m pc ls (.int (bI x) :: .ref (n0 + q) :: rest)) := s_put (ci := 8) (k := 6) (σ' := sB σ q 6 x) hX hV iG8 tyX8 tyX8_ok nmX8 rfl (by decide) (by decide) hlk hq rfl (ty := .boolean) (by decide +kernel) (sr_nb x) (sr_fb x) (by simp [sr_F]) (by simp [sr_F, sB]) sr_off_B hdg kk
theorem fg_8_7 (hX : sr_X p s m args meth c cc nL ret own D aC) (hV : sr_V D aC sh n0 σ H0 H locs) (hlk : Cond.fieldLink own index "StagedRolloutModel" "noted" "I" ∈ sr_G) (hq : sh q = 9) (hdg : decode cc pc = .ok (.getfield index, 3)) (kk : W p l e R s m args below meth c H locs cells slots Q (F0 m (pc + 3) ls (.int (gI σ q 7) :: rest))) : W p l e R s m args below meth c H locs cells slots Q (F0 m pc ls (.ref (n0 + q) :: rest)) := s_get (ci := 8) (k := 7) hX hV iG8 rfl (by decide) (by decide) hlk hq rfl hdg kk
theorem fp_8_7 (hX : sr_X p s m args meth c cc nL ret own D aC) (hV : sr_V D aC sh n0 σ H0 H locs) (hlk : Cond.fieldLink own index "StagedRolloutModel" "noted" "I" ∈ sr_G) (hq : sh q = 9) {x : Int32} (hdg : decode cc pc = .ok (.putfield index, 3)) (kk : ∀ (H1 : Heap) (locs1 : List Loc), sr_V D aC sh n0 (sI σ q 7 x) H0 H1 locs1 → W p l e R s m args below meth c H1 locs1 cells slots Q (F0 m (pc + 3) ls rest)) : W p l e R s m args below meth c H locs cells slots Q (F0 m pc ls (.int x :: .ref (n0 + q) :: rest)) := s_put (ci := 8) (k := 7) (σ' := sI σ q 7 x) hX hV iG8 tyX8 tyX8_ok nmX8 rfl (by decide) (by decide) hlk hq rfl (ty := .int) (by decide +kernel) rfl rfl (by simp [sr_F]) (by simp [sr_F, sI, upd]) sr_off_I hdg kk
theorem fg_8_8 (hX : sr_X p s m args meth c cc nL ret own D aC) (hV : sr_V D aC sh n0 σ H0 H locs) (hlk : Cond.fieldLink own index "StagedRolloutModel" "place" "I" ∈ sr_G) (hq : sh q = 9) (hdg : decode cc pc = .ok (.getfield index, 3)) (kk : W p l e R s m args below meth c H locs cells slots Q (F0 m (pc + 3) ls (.int (gI σ q 8) :: rest))) : W p l e R s m args below meth c H locs cells slots Q (F0 m pc ls (.ref (n0 + q) :: rest)) := s_get (ci := 8) (k := 8) hX hV iG8 rfl (by decide) (by decide) hlk hq rfl hdg kk
theorem fp_8_8 (hX : sr_X p s m args meth c cc nL ret own D aC) (hV : sr_V D aC sh n0 σ H0 H locs) (hlk : Cond.fieldLink own index "StagedRolloutModel" "place" "I" ∈ sr_G) (hq : sh q = 9) {x : Int32} (hdg : decode cc pc = .ok (.putfield index, 3)) (kk : ∀ (H1 : Heap) (locs1 : List Loc), sr_V D aC sh n0 (sI σ q 8 x) H0 H1 locs1 → W p l e R s m args below meth c H1 locs1 cells slots Q (F0 m (pc + 3) ls rest)) : W p l e R s m args below meth c H locs cells slots Q (F0 m pc ls (.int x :: .ref (n0 + q) :: rest)) := s_put (ci := 8) (k := 8) (σ' := sI σ q 8 x) hX hV iG8 tyX8 tyX8_ok nmX8 rfl (by decide) (by decide) hlk hq rfl (ty := .int) (by decide +kernel) rfl rfl (by simp [sr_F]) (by simp [sr_F, sI, upd]) sr_off_I hdg kk
theorem fg_8_9 (hX : sr_X p s m args meth c cc nL ret own D aC) (hV : sr_V D aC sh n0 σ H0 H locs) (hlk : Cond.fieldLink own index "StagedRolloutModel" "told" "[I" ∈ sr_G) (hq : sh q = 9) (hdg : decode cc pc = .ok (.getfield index, 3)) (kk : W p l e R s m args below meth c H locs cells slots Q (F0 m (pc + 3) ls (.ref (n0 + (q + 6)) :: rest))) : W p l e R s m args below meth c H locs cells slots Q (F0 m pc ls (.ref (n0 + q) :: rest)) := s_get (ci := 8) (k := 9) hX hV iG8 rfl (by decide) (by decide) hlk hq rfl hdg kk
theorem fg_8_10 (hX : sr_X p s m args meth c cc nL ret own D aC) (hV : sr_V D aC sh n0 σ H0 H locs) (hlk : Cond.fieldLink own index "StagedRolloutModel" "tellings" "I" ∈ sr_G) (hq : sh q = 9) (hdg : decode cc pc = .ok (.getfield index, 3)) (kk : W p l e R s m args below meth c H locs cells slots Q (F0 m (pc + 3) ls (.int (gI σ q 10) :: rest))) : W p l e R s m args below meth c H locs cells slots Q (F0 m pc ls (.ref (n0 + q) :: rest)) := s_get (ci := 8) (k := 10) hX hV iG8 rfl (by decide) (by decide) hlk hq rfl hdg kk
theorem fp_8_10 (hX : sr_X p s m args meth c cc nL ret own D aC) (hV : sr_V D aC sh n0 σ H0 H locs) (hlk : Cond.fieldLink own index "StagedRolloutModel" "tellings" "I" ∈ sr_G) (hq : sh q = 9) {x : Int32} (hdg : decode cc pc = .ok (.putfield index, 3)) (kk : ∀ (H1 : Heap) (locs1 : List Loc), sr_V D aC sh n0 (sI σ q 10 x) H0 H1 locs1 → W p l e R s m args below meth c H1 locs1 cells slots Q (F0 m (pc + 3) ls rest)) : W p l e R s m args below meth c H locs cells slots Q (F0 m pc ls (.int x :: .ref (n0 + q) :: rest)) := s_put (ci := 8) (k := 10) (σ' := sI σ q 10 x) hX hV iG8 tyX8 tyX8_ok nmX8 rfl (by decide) (by decide) hlk hq rfl (ty := .int) (by decide +kernel) rfl rfl (by simp [sr_F]) (by simp [sr_F, sI, upd]) sr_off_I hdg kk
theorem fg_8_11 (hX : sr_X p s m args meth c cc nL ret own D aC) (hV : sr_V D aC sh n0 σ H0 H locs) (hlk : Cond.fieldLink own index "StagedRolloutModel" "number" "I" ∈ sr_G) (hq : sh q = 9) (hdg : decode cc pc = .ok (.getfield index, 3)) (kk : W p l e R s m args below meth c H locs cells slots Q (F0 m (pc + 3) ls (.int (gI σ q 11) :: rest))) : W p l e R s m args below meth c H locs cells slots Q (F0 m pc ls (.ref (n0 + q) :: rest)) := s_get (ci := 8) (k := 11) hX hV iG8 rfl (by decide) (by decide) hlk hq rfl hdg kk
theorem fp_8_11 (hX : sr_X p s m args meth c cc nL ret own D aC) (hV : sr_V D aC sh n0 σ H0 H locs) (hlk : Cond.fieldLink own index "StagedRolloutModel" "number" "I" ∈ sr_G) (hq : sh q = 9) {x : Int32} (hdg : decode cc pc = .ok (.putfield index, 3)) (kk : ∀ (H1 : Heap) (locs1 : List Loc), sr_V D aC sh n0 (sI σ q 11 x) H0 H1 locs1 → W p l e R s m args below meth c H1 locs1 cells slots Q (F0 m (pc + 3) ls rest)) : W p l e R s m args below meth c H locs cells slots Q (F0 m pc ls (.int x :: .ref (n0 + q) :: rest)) := s_put (ci := 8) (k := 11) (σ' := sI σ q 11 x) hX hV iG8 tyX8 tyX8_ok nmX8 rfl (by decide) (by decide) hlk hq rfl (ty := .int) (by decide +kernel) rfl rfl (by simp [sr_F]) (by simp [sr_F, sI, upd]) sr_off_I hdg kk
theorem fg_8_12 (hX : sr_X p s m args meth c cc nL ret own D aC) (hV : sr_V D aC sh n0 σ H0 H locs) (hlk : Cond.fieldLink own index "StagedRolloutModel" "sets" "[J" ∈ sr_G) (hq : sh q = 9) (hdg : decode cc pc = .ok (.getfield index, 3)) (kk : W p l e R s m args below meth c H locs cells slots Q (F0 m (pc + 3) ls (.ref (n0 + (q + 7)) :: rest))) : W p l e R s m args below meth c H locs cells slots Q (F0 m pc ls (.ref (n0 + q) :: rest)) := s_get (ci := 8) (k := 12) hX hV iG8 rfl (by decide) (by decide) hlk hq rfl hdg kk
theorem fg_8_13 (hX : sr_X p s m args meth c cc nL ret own D aC) (hV : sr_V D aC sh n0 σ H0 H locs) (hlk : Cond.fieldLink own index "StagedRolloutModel" "above" "J" ∈ sr_G) (hq : sh q = 9) (hdg : decode cc pc = .ok (.getfield index, 3)) (kk : W p l e R s m args below meth c H locs cells slots Q (F0 m (pc + 3) ls (.long (gL σ q 13) :: rest))) : W p l e R s m args below meth c H locs cells slots Q (F0 m pc ls (.ref (n0 + q) :: rest)) := s_get (ci := 8) (k := 13) hX hV iG8 rfl (by decide) (by decide) hlk hq rfl hdg kk
theorem fp_8_13 (hX : sr_X p s m args meth c cc nL ret own D aC) (hV : sr_V D aC sh n0 σ H0 H locs) (hlk : Cond.fieldLink own index "StagedRolloutModel" "above" "J" ∈ sr_G) (hq : sh q = 9) {x : Int64} (hdg : decode cc pc = .ok (.putfield index, 3)) (kk : ∀ (H1 : Heap) (locs1 : List Loc), sr_V D aC sh n0 (sL σ q 13 x) H0 H1 locs1 → W p l e R s m args below meth c H1 locs1 cells slots Q (F0 m (pc + 3) ls rest)) : W p l e R s m args below meth c H locs cells slots Q (F0 m pc ls (.long x :: .ref (n0 + q) :: rest)) := s_put (ci := 8) (k := 13) (σ' := sL σ q 13 x) hX hV iG8 tyX8 tyX8_ok nmX8 rfl (by decide) (by decide) hlk hq rfl (ty := .long) (by decide +kernel) rfl rfl (by simp [sr_F]) (by simp [sr_F, sL, vp_updL]) sr_off_L hdg kk
theorem fg_8_14 (hX : sr_X p s m args meth c cc nL ret own D aC) (hV : sr_V D aC sh n0 σ H0 H locs) (hlk : Cond.fieldLink own index "StagedRolloutModel" "below" "J" ∈ sr_G) (hq : sh q = 9) (hdg : decode cc pc = .ok (.getfield index, 3)) (kk : W p l e R s m args below meth c H locs cells slots Q (F0 m (pc + 3) ls (.long (gL σ q 14) :: rest))) : W p l e R s m args below meth c H locs cells slots Q (F0 m pc ls (.ref (n0 + q) :: rest)) := s_get (ci := 8) (k := 14) hX hV iG8 rfl (by decide) (by decide) hlk hq rfl hdg kk
theorem fp_8_14 (hX : sr_X p s m args meth c cc nL ret own D aC) (hV : sr_V D aC sh n0 σ H0 H locs) (hlk : Cond.fieldLink own index "StagedRolloutModel" "below" "J" ∈ sr_G) (hq : sh q = 9) {x : Int64} (hdg : decode cc pc = .ok (.putfield index, 3)) (kk : ∀ (H1 : Heap) (locs1 : List Loc), sr_V D aC sh n0 (sL σ q 14 x) H0 H1 locs1 → W p l e R s m args below meth c H1 locs1 cells slots Q (F0 m (pc + 3) ls rest)) : W p l e R s m args below meth c H locs cells slots Q (F0 m pc ls (.long x :: .ref (n0 + q) :: rest)) := s_put (ci := 8) (k := 14) (σ' := sL σ q 14 x) hX hV iG8 tyX8 tyX8_ok nmX8 rfl (by decide) (by decide) hlk hq rfl (ty := .long) (by decide +kernel) rfl rfl (by simp [sr_F]) (by simp [sr_F, sL, vp_updL]) sr_off_L hdg kk
/-! contracts, calls, returns -/
def sr_rf (n0 : Nat) (r : Option Nat) : Value := match r with
  | none => .null
  | some q => .ref (n0 + q)
def sr_Pc (D : va_G) (aC : Nat → ClassId) (sh : Nat → Nat) (n0 : Nat) (σ : St) (av : List Value) : Array Value → State → Prop := fun v U => v = av.toArray ∧ sr_K D aC U ∧ sr_P D aC sh n0 σ U.heap
def sr_Qc (D : va_G) (aC : Nat → ClassId) (sh : Nat → Nat) (n0 : Nat) (σ' : St) (r : Option Value) : Array Value → State → Outcome → State → Prop := fun _ st oc t => oc = .returned r ∧ sr_V D aC sh n0 σ' st.heap t.heap []
def sr_Met (l : Launch) (D : va_G) (aC : Nat → ClassId) (sh : Nat → Nat) (n0 : Nat) (y : MethodName) (cc : ByteArray) (mL : Nat) (ret : Option FieldType) (rm : Room) (av : List Value) (σ : St) (r : Option Value) (σ' : St) : Prop :=
  Met l y (Cond.code y cc mL ret :: sr_G) rm (sr_Pc D aC sh n0 σ av) (sr_Qc D aC sh n0 σ' r) 0 0 (sr_A sh n0)
def sr_Cv (y : MethodName) (bytes : ByteArray) (maxL : Nat) (ret : Option FieldType) (C : String) (n : Nat) : Prop :=
  Cond.code y bytes maxL ret ∈ sr_G ∧ Cond.instanceMethod y ∈ sr_G ∧ Cond.selects C y y ∈ sr_G ∧ Cond.initialized C ∈ sr_G ∧ (y.cls = C ∧ y.cls ≠ "java/lang/invoke/MethodHandle" ∧ y.cls ≠ "java/lang/invoke/VarHandle" ∧ (parseMethodDescriptor y.desc).map (fun d => d.parameters.length) = some n)
def sr_Cs (y : MethodName) (bytes : ByteArray) (maxL : Nat) (ret : Option FieldType) (C : String) (n : Nat) : Prop :=
  Cond.code y bytes maxL ret ∈ sr_G ∧ Cond.static y ∈ sr_G ∧ Cond.initialized C ∈ sr_G ∧ (y.cls = C ∧ y.cls ≠ "java/lang/invoke/MethodHandle" ∧ y.cls ≠ "java/lang/invoke/VarHandle" ∧ (parseMethodDescriptor y.desc).map (fun d => d.parameters.length) = some n)
theorem sr_blind {av : List Value} : FrameBlind (sr_Pc D aC sh n0 σ av) := fun _ _ _ _ h => ⟨h.1, sr_K.same rfl h.2.1, h.2.2⟩
theorem sr_cons {w : Cond} (h : w ∈ sr_G) : ∀ x ∈ w :: sr_G, x ∈ sr_G := fun x hx => by
  rcases List.mem_cons.mp hx with e | e
  · rw [e]; exact h
  · exact e
theorem s_go {r : Option Value} {st0 : List Value} {av : Array Value} (hr : va_Run p l e R s m args below meth c H locs cells slots 0 0 (F0 m pc ls st0) rest (sr_Qc D aC sh n0 σ' r av) (sr_A sh n0)) (hV : sr_V D aC sh n0 σ H0 H locs)
    (kk : ∀ (H1 : Heap) (locs1 : List Loc), sr_V D aC sh n0 σ' H0 H1 locs1 → W p l e R s m args below meth c H1 locs1 cells slots Q (F0 m (pc + 3) ls (r.toList ++ rest))) : W p l e R s m args below meth c H locs cells slots Q (F0 m pc ls st0) := by
  intro T hT X
  obtain ⟨v, st₀, t, T', L, h0, X', hL, e1, e2, ⟨hv, hq⟩, st⟩ := hr T hT X
  cases hv
  rw [h0] at hq
  obtain ⟨t2, a1, b1⟩ := kk T'.heap (locs ++ L) ⟨by rw [e1]; exact hq.1.trans hV.1, fun x hx => by rw [e1]; exact (hq.2.1 x hx).trans (hV.2.1 x hx), fun x hx => by
      rcases List.mem_append.mp hx with h | h
      · exact hV.2.2.1 x h
      · exact hL x h, by rw [e1]; exact hq.2.2.2⟩ T' rfl X'
  exact ⟨t2, st t2 a1, b1⟩
theorem s_callV {y : MethodName} {bytes : ByteArray} {maxL nn ci N : Nat} {rt : Option FieldType} {rm : Room} {As : List Value} {r : Option Value} {C : String} {T : u_T} (hX : sr_X p s m args meth c cc nL ret own D aC) (hV : sr_V D aC sh n0 σ H0 H locs) (hls : ls.size = nL) (hM : sr_Met l D aC sh n0 y bytes maxL rt rm (.ref (n0 + q) :: As) σ r σ') (hC : sr_Cv y bytes maxL rt C nn) (hlink : Cond.methodLink own index y ∈ sr_G) (hR : rm.cells = 0 ∧ rm.slots = 0 ∧ rm.frames + 1 ≤ R.frames ∧ 8 + (maxL + 11) + rm.locals ≤ R.locals) (hc : sr_cls[ci]? = some (C, T, N)) (hci : ci + 1 < 10000) (hq : sh q = ci + 1) (hn : As.length = nn) {st0 : List Value} (hst : st0 = As.reverse ++ .ref (n0 + q) :: rest) (hsum : (rest.map fun v => v.category).sum ≤ 8) (hdg : decode cc pc = .ok (.invokevirtual index, 3)) (hf : cells ≤ R.cells ∧ slots ≤ R.slots)
    (kk : ∀ (H1 : Heap) (locs1 : List Loc), sr_V D aC sh n0 σ' H0 H1 locs1 → W p l e R s m args below meth c H1 locs1 cells slots Q (F0 m (pc + 3) ls (r.toList ++ rest))) : W p l e R s m args below meth c H locs cells slots Q (F0 m pc ls st0) := by
  obtain ⟨hx, hb, hml, hown, hts⟩ := hX.1
  have hat := hV.2.2.2 q (by rw [hq]; exact Nat.succ_ne_zero _)
  rw [sr_e_o hq hci] at hat
  obtain ⟨r', h1, cell, g1, g2, g3, -⟩ := hat
  have hr : r' = (C, T, N) := Option.some.inj (h1.symm.trans hc)
  subst hr
  refine s_go (va_runV (As := As) (rest := rest) (b := n0 + q) (C := C) (n := nn) ⟨hx, hb, hml, hown, hts⟩ hM ⟨callB_of nn hts (sr_good (sr_cons hC.1)) rfl hR.1 hR.2.1 (by rw [hC.2.2.2.2.1]; exact hts _ hC.2.2.2.1) (hts _ hlink) hC.2.2.2.2.2 hR.2.2, hts _ hC.2.1, hts _ hC.2.2.1⟩ ⟨sr_blind, ⟨cell, g1, by rw [g3]; rfl, by rw [g2]; exact (hX.2.1.1.1 ci _ hc).2.1⟩, fun U hU hW => ⟨rfl, hX.2.1.warm hW, by rw [hU]; exact hV.2.2.2⟩⟩ rfl hn hls hst (lv_room hsum) hdg hf) hV kk
theorem s_callS {y : MethodName} {bytes : ByteArray} {maxL nn : Nat} {rt : Option FieldType} {rm : Room} {As : List Value} {r : Option Value} {C : String} (hX : sr_X p s m args meth c cc nL ret own D aC) (hV : sr_V D aC sh n0 σ H0 H locs) (hls : ls.size = nL) (hM : sr_Met l D aC sh n0 y bytes maxL rt rm As σ r σ') (hC : sr_Cs y bytes maxL rt C nn) (hlink : Cond.methodLink own index y ∈ sr_G) (hR : rm.cells = 0 ∧ rm.slots = 0 ∧ rm.frames + 1 ≤ R.frames ∧ 8 + (maxL + 11) + rm.locals ≤ R.locals) (hn : As.length = nn) {st0 : List Value} (hst : st0 = As.reverse ++ rest) (hsum : (rest.map fun v => v.category).sum ≤ 8) (hdg : decode cc pc = .ok (.invokestatic index, 3)) (hf : cells ≤ R.cells ∧ slots ≤ R.slots)
    (kk : ∀ (H1 : Heap) (locs1 : List Loc), sr_V D aC sh n0 σ' H0 H1 locs1 → W p l e R s m args below meth c H1 locs1 cells slots Q (F0 m (pc + 3) ls (r.toList ++ rest))) : W p l e R s m args below meth c H locs cells slots Q (F0 m pc ls st0) := by
  obtain ⟨hx, hb, hml, hown, hts⟩ := hX.1
  refine s_go (va_runS (As := As) (rest := rest) (n := nn) ⟨hx, hb, hml, hown, hts⟩ hM ⟨callB_of nn hts (sr_good (sr_cons hC.1)) rfl hR.1 hR.2.1 (by rw [hC.2.2.2.1]; exact hts _ hC.2.2.1) (hts _ hlink) hC.2.2.2.2 hR.2.2, hts _ hC.2.1⟩ ⟨sr_blind, fun U hU hW => ⟨rfl, hX.2.1.warm hW, by rw [hU]; exact hV.2.2.2⟩⟩ rfl hn hls hst (lv_room hsum) hdg hf) hV kk
theorem s_callN {y : MethodName} {bytes : ByteArray} {maxL nn : Nat} {rt : Option FieldType} {rm : Room} {As : List Value} {r : Option Value} {C host : String} (hX : sr_X p s m args meth c cc nL ret own D aC) (hV : sr_V D aC sh n0 σ H0 H locs) (hls : ls.size = nL) (hM : sr_Met l D aC sh n0 y bytes maxL rt rm As σ r σ') (hC : sr_Cs y bytes maxL rt C nn) (hlink : va_Nw (.methodLinkNest own index y host) s) (hR : rm.cells = 0 ∧ rm.slots = 0 ∧ rm.frames + 1 ≤ R.frames ∧ 8 + (maxL + 11) + rm.locals ≤ R.locals) (hn : As.length = nn) {st0 : List Value} (hst : st0 = As.reverse ++ rest) (hsum : (rest.map fun v => v.category).sum ≤ 8) (hdg : decode cc pc = .ok (.invokestatic index, 3)) (hf : cells ≤ R.cells ∧ slots ≤ R.slots)
    (kk : ∀ (H1 : Heap) (locs1 : List Loc), sr_V D aC sh n0 σ' H0 H1 locs1 → W p l e R s m args below meth c H1 locs1 cells slots Q (F0 m (pc + 3) ls (r.toList ++ rest))) : W p l e R s m args below meth c H locs cells slots Q (F0 m pc ls st0) := by
  obtain ⟨hx, hb, hml, hown, hts⟩ := hX.1
  refine s_go (va_runSN (As := As) (rest := rest) (n := nn) (host := host) ⟨hx, hb, hml, hown, hts⟩ hM ⟨va_cnB nn hts (sr_good (sr_cons hC.1)) rfl hR.1 hR.2.1 hlink (by rw [hC.2.2.2.1]; exact hts _ hC.2.2.1) hC.2.2.2.2 hR.2.2, hts _ hC.2.1, trivial⟩ ⟨sr_blind, fun U hU hW => ⟨rfl, hX.2.1.warm hW, by rw [hU]; exact hV.2.2.2⟩⟩ rfl hn hls hst (lv_room hsum) hdg hf) hV kk
theorem s_iret {v : Int32} (hX : sr_X p s m args meth c cc nL (some .int) own D aC) (hV : sr_V D aC sh n0 σ s.heap H locs) (hdg : decode cc pc = .ok (.ireturn, 1)) : W p l e R s m args below meth c H locs 0 0 (MQ below (sr_Qc D aC sh n0 σ (some (.int v))) args s 0 0 (sr_A sh n0)) (F0 m pc ls [.int v]) :=
  W.iret hX.1.1 hX.1.2.1 hX.2.2.1 (fun t ht _ => ⟨rfl, by rw [ht]; exact ⟨hV.1, hV.2.1, fun _ h => (by cases h), hV.2.2.2⟩⟩) hV.2.2.1 hdg hX.2.2.2
theorem s_zret {b : Bool} (hX : sr_X p s m args meth c cc nL (some .boolean) own D aC) (hV : sr_V D aC sh n0 σ s.heap H locs) (hdg : decode cc pc = .ok (.ireturn, 1)) : W p l e R s m args below meth c H locs 0 0 (MQ below (sr_Qc D aC sh n0 σ (some (.int (bI b)))) args s 0 0 (sr_A sh n0)) (F0 m pc ls [.int (bI b)]) :=
  W.zret hX.1.1 hX.1.2.1 hX.2.2.1 (sr_nb b) (fun t ht _ => ⟨rfl, by rw [ht]; exact ⟨hV.1, hV.2.1, fun _ h => (by cases h), hV.2.2.2⟩⟩) hV.2.2.1 hdg hX.2.2.2
theorem s_lret {v : Int64} (hX : sr_X p s m args meth c cc nL (some .long) own D aC) (hV : sr_V D aC sh n0 σ s.heap H locs) (hdg : decode cc pc = .ok (.lreturn, 1)) : W p l e R s m args below meth c H locs 0 0 (MQ below (sr_Qc D aC sh n0 σ (some (.long v))) args s 0 0 (sr_A sh n0)) (F0 m pc ls [.long v]) :=
  W.lret hX.1.1 hX.1.2.1 hX.2.2.1 (fun t ht _ => ⟨rfl, by rw [ht]; exact ⟨hV.1, hV.2.1, fun _ h => (by cases h), hV.2.2.2⟩⟩) hV.2.2.1 hdg hX.2.2.2
theorem s_vret (hX : sr_X p s m args meth c cc nL none own D aC) (hV : sr_V D aC sh n0 σ s.heap H locs) (hdg : decode cc pc = .ok (.return_, 1)) : W p l e R s m args below meth c H locs 0 0 (MQ below (sr_Qc D aC sh n0 σ none) args s 0 0 (sr_A sh n0)) (F0 m pc ls []) :=
  W.vret hX.1.1 hX.1.2.1 hX.2.2.1 (fun t ht _ => ⟨rfl, by rw [ht]; exact ⟨hV.1, hV.2.1, fun _ h => (by cases h), hV.2.2.2⟩⟩) hV.2.2.1 hdg hX.2.2.2
theorem s_aret {o : Option Nat} {C : String} (hX : sr_X p s m args meth c cc nL (some (.object C)) own D aC) (hV : sr_V D aC sh n0 σ s.heap H locs) (hdg : decode cc pc = .ok (.areturn, 1)) : W p l e R s m args below meth c H locs 0 0 (MQ below (sr_Qc D aC sh n0 σ (some (sr_rf n0 o))) args s 0 0 (sr_A sh n0)) (F0 m pc ls [sr_rf n0 o]) :=
  W.aret hX.1.1 hX.1.2.1 hX.2.2.1 (Or.inl ⟨_, rfl⟩) (by cases o with | none => exact Or.inl rfl | some q => exact Or.inr ⟨_, rfl⟩) (fun t ht _ => ⟨rfl, by rw [ht]; exact ⟨hV.1, hV.2.1, fun _ h => (by cases h), hV.2.2.2⟩⟩) hV.2.2.1 hdg hX.2.2.2
/-- the head of any method: its contract out of the walk of its body -/
theorem s_met {y : MethodName} {maxL : Nat} {rt : Option FieldType} {rm : Room} {av : List Value} {r : Option Value} (hy : plainName y.cls = true) (hlen : (lg_sl av).length ≤ maxL) (hown : y.cls = own)
    (body : ∀ (p : Program) (e : Env) (s : State) (m : MethodId) (below : List Frame) (meth : Method) (c : Code) (ls : Array Slot), sr_X p s m av.toArray meth c cc maxL rt own D aC → sr_V D aC sh n0 σ s.heap s.heap [] → lv_has ls maxL (lv_args 0 av) →
      W p l e rm s m av.toArray below meth c s.heap [] 0 0 (MQ below (sr_Qc D aC sh n0 σ' r) av.toArray s 0 0 (sr_A sh n0)) (F0 m 0 ls [])) : sr_Met l D aC sh n0 y cc maxL rt rm av σ r σ' := by
  refine Met.ofW (cc := cc) (maxL := maxL) (ret := rt) hy rfl ?_
  intro p e s m args below meth c s₁ B hml hv
  obtain ⟨rfl, hK, hP⟩ := hv
  have hts := atoms_spec (ws := Cond.code y cc maxL rt :: sr_G) B.pre
  have hl := lv_entry av (n := maxL) hlen
  rw [lg_entry_eq]
  refine body p e s m below meth c _ ⟨⟨B.exec, B.bytes, hml, by rw [← hown]; exact findClass_of_methodNamed B.named, fun w hw => hts w (List.mem_cons_of_mem _ hw)⟩, hK, B.returns, B.notSynchronized⟩ ⟨rfl, fun _ _ => rfl, fun _ h => (by cases h), hP⟩ hl

end
end
section
/-! iteration with fuel; guards -/
def inb (i : Int32) (n : Nat) : Bool := decide (0 ≤ i) && decide (i.toNatClampNeg < n)
theorem inb_in {i : Int32} {n : Nat} (h : inb i n = true) : vp_in i n := by
  simp only [inb, Bool.and_eq_true, decide_eq_true_eq] at h
  intro z
  rcases z with z | z
  · exact absurd h.1 (Int32.not_le.mpr z)
  · omega
theorem sr_b0 {b : Bool} (h : bI b = 0) : ¬ b = true := by
  intro e
  subst e
  exact absurd h (by decide)
theorem sr_b1 {b : Bool} (h : ¬ bI b = 0) : b = true := by
  cases b with
  | true => rfl
  | false => exact absurd rfl h
def irm (x y : Int32) : Int32 := x - x / y * y
theorem sr_on {ρ : Type} {z : ρ} {f : Nat → ρ} {r : ρ} (h : opt none z f = r) : z = r := h
theorem sr_os {ρ : Type} {z : ρ} {f : Nat → ρ} {q : Nat} {r : ρ} (h : opt (some q) z f = r) : f q = r := h
theorem sr_ac {n0 a b : Nat} : (some (n0 + a) = some (n0 + b)) ↔ a = b := by
  constructor
  · intro h; have := Option.some.inj h; omega
  · intro h; rw [h]
def it1 {A1 ρ : Type} (f : (A1 → Option ρ) → A1 → Option ρ) : Nat → A1 → Option ρ
  | 0 => fun _ => none
  | n + 1 => f (it1 f n)
theorem it1_ind {A1 ρ : Type} {f : (A1 → Option ρ) → A1 → Option ρ} (G : (A1 → Option ρ) → Prop) (h0 : G (fun _ => none)) (hs : ∀ r, G r → G (f r)) : ∀ n, G (it1 f n)
  | 0 => h0
  | n + 1 => hs _ (it1_ind G h0 hs n)
def it2 {A1 A2 ρ : Type} (f : (A1 → A2 → Option ρ) → A1 → A2 → Option ρ) : Nat → A1 → A2 → Option ρ
  | 0 => fun _ _ => none
  | n + 1 => f (it2 f n)
theorem it2_ind {A1 A2 ρ : Type} {f : (A1 → A2 → Option ρ) → A1 → A2 → Option ρ} (G : (A1 → A2 → Option ρ) → Prop) (h0 : G (fun _ _ => none)) (hs : ∀ r, G r → G (f r)) : ∀ n, G (it2 f n)
  | 0 => h0
  | n + 1 => hs _ (it2_ind G h0 hs n)
def it3 {A1 A2 A3 ρ : Type} (f : (A1 → A2 → A3 → Option ρ) → A1 → A2 → A3 → Option ρ) : Nat → A1 → A2 → A3 → Option ρ
  | 0 => fun _ _ _ => none
  | n + 1 => f (it3 f n)
theorem it3_ind {A1 A2 A3 ρ : Type} {f : (A1 → A2 → A3 → Option ρ) → A1 → A2 → A3 → Option ρ} (G : (A1 → A2 → A3 → Option ρ) → Prop) (h0 : G (fun _ _ _ => none)) (hs : ∀ r, G r → G (f r)) : ∀ n, G (it3 f n)
  | 0 => h0
  | n + 1 => hs _ (it3_ind G h0 hs n)
def it4 {A1 A2 A3 A4 ρ : Type} (f : (A1 → A2 → A3 → A4 → Option ρ) → A1 → A2 → A3 → A4 → Option ρ) : Nat → A1 → A2 → A3 → A4 → Option ρ
  | 0 => fun _ _ _ _ => none
  | n + 1 => f (it4 f n)
theorem it4_ind {A1 A2 A3 A4 ρ : Type} {f : (A1 → A2 → A3 → A4 → Option ρ) → A1 → A2 → A3 → A4 → Option ρ} (G : (A1 → A2 → A3 → A4 → Option ρ) → Prop) (h0 : G (fun _ _ _ _ => none)) (hs : ∀ r, G r → G (f r)) : ∀ n, G (it4 f n)
  | 0 => h0
  | n + 1 => hs _ (it4_ind G h0 hs n)
def it5 {A1 A2 A3 A4 A5 ρ : Type} (f : (A1 → A2 → A3 → A4 → A5 → Option ρ) → A1 → A2 → A3 → A4 → A5 → Option ρ) : Nat → A1 → A2 → A3 → A4 → A5 → Option ρ
  | 0 => fun _ _ _ _ _ => none
  | n + 1 => f (it5 f n)
theorem it5_ind {A1 A2 A3 A4 A5 ρ : Type} {f : (A1 → A2 → A3 → A4 → A5 → Option ρ) → A1 → A2 → A3 → A4 → A5 → Option ρ} (G : (A1 → A2 → A3 → A4 → A5 → Option ρ) → Prop) (h0 : G (fun _ _ _ _ _ => none)) (hs : ∀ r, G r → G (f r)) : ∀ n, G (it5 f n)
  | 0 => h0
  | n + 1 => hs _ (it5_ind G h0 hs n)
def it6 {A1 A2 A3 A4 A5 A6 ρ : Type} (f : (A1 → A2 → A3 → A4 → A5 → A6 → Option ρ) → A1 → A2 → A3 → A4 → A5 → A6 → Option ρ) : Nat → A1 → A2 → A3 → A4 → A5 → A6 → Option ρ
  | 0 => fun _ _ _ _ _ _ => none
  | n + 1 => f (it6 f n)
theorem it6_ind {A1 A2 A3 A4 A5 A6 ρ : Type} {f : (A1 → A2 → A3 → A4 → A5 → A6 → Option ρ) → A1 → A2 → A3 → A4 → A5 → A6 → Option ρ} (G : (A1 → A2 → A3 → A4 → A5 → A6 → Option ρ) → Prop) (h0 : G (fun _ _ _ _ _ _ => none)) (hs : ∀ r, G r → G (f r)) : ∀ n, G (it6 f n)
  | 0 => h0
  | n + 1 => hs _ (it6_ind G h0 hs n)
def it7 {A1 A2 A3 A4 A5 A6 A7 ρ : Type} (f : (A1 → A2 → A3 → A4 → A5 → A6 → A7 → Option ρ) → A1 → A2 → A3 → A4 → A5 → A6 → A7 → Option ρ) : Nat → A1 → A2 → A3 → A4 → A5 → A6 → A7 → Option ρ
  | 0 => fun _ _ _ _ _ _ _ => none
  | n + 1 => f (it7 f n)
theorem it7_ind {A1 A2 A3 A4 A5 A6 A7 ρ : Type} {f : (A1 → A2 → A3 → A4 → A5 → A6 → A7 → Option ρ) → A1 → A2 → A3 → A4 → A5 → A6 → A7 → Option ρ} (G : (A1 → A2 → A3 → A4 → A5 → A6 → A7 → Option ρ) → Prop) (h0 : G (fun _ _ _ _ _ _ _ => none)) (hs : ∀ r, G r → G (f r)) : ∀ n, G (it7 f n)
  | 0 => h0
  | n + 1 => hs _ (it7_ind G h0 hs n)
def it8 {A1 A2 A3 A4 A5 A6 A7 A8 ρ : Type} (f : (A1 → A2 → A3 → A4 → A5 → A6 → A7 → A8 → Option ρ) → A1 → A2 → A3 → A4 → A5 → A6 → A7 → A8 → Option ρ) : Nat → A1 → A2 → A3 → A4 → A5 → A6 → A7 → A8 → Option ρ
  | 0 => fun _ _ _ _ _ _ _ _ => none
  | n + 1 => f (it8 f n)
theorem it8_ind {A1 A2 A3 A4 A5 A6 A7 A8 ρ : Type} {f : (A1 → A2 → A3 → A4 → A5 → A6 → A7 → A8 → Option ρ) → A1 → A2 → A3 → A4 → A5 → A6 → A7 → A8 → Option ρ} (G : (A1 → A2 → A3 → A4 → A5 → A6 → A7 → A8 → Option ρ) → Prop) (h0 : G (fun _ _ _ _ _ _ _ _ => none)) (hs : ∀ r, G r → G (f r)) : ∀ n, G (it8 f n)
  | 0 => h0
  | n + 1 => hs _ (it8_ind G h0 hs n)
def it9 {A1 A2 A3 A4 A5 A6 A7 A8 A9 ρ : Type} (f : (A1 → A2 → A3 → A4 → A5 → A6 → A7 → A8 → A9 → Option ρ) → A1 → A2 → A3 → A4 → A5 → A6 → A7 → A8 → A9 → Option ρ) : Nat → A1 → A2 → A3 → A4 → A5 → A6 → A7 → A8 → A9 → Option ρ
  | 0 => fun _ _ _ _ _ _ _ _ _ => none
  | n + 1 => f (it9 f n)
theorem it9_ind {A1 A2 A3 A4 A5 A6 A7 A8 A9 ρ : Type} {f : (A1 → A2 → A3 → A4 → A5 → A6 → A7 → A8 → A9 → Option ρ) → A1 → A2 → A3 → A4 → A5 → A6 → A7 → A8 → A9 → Option ρ} (G : (A1 → A2 → A3 → A4 → A5 → A6 → A7 → A8 → A9 → Option ρ) → Prop) (h0 : G (fun _ _ _ _ _ _ _ _ _ => none)) (hs : ∀ r, G r → G (f r)) : ∀ n, G (it9 f n)
  | 0 => h0
  | n + 1 => hs _ (it9_ind G h0 hs n)
def it10 {A1 A2 A3 A4 A5 A6 A7 A8 A9 A10 ρ : Type} (f : (A1 → A2 → A3 → A4 → A5 → A6 → A7 → A8 → A9 → A10 → Option ρ) → A1 → A2 → A3 → A4 → A5 → A6 → A7 → A8 → A9 → A10 → Option ρ) : Nat → A1 → A2 → A3 → A4 → A5 → A6 → A7 → A8 → A9 → A10 → Option ρ
  | 0 => fun _ _ _ _ _ _ _ _ _ _ => none
  | n + 1 => f (it10 f n)
theorem it10_ind {A1 A2 A3 A4 A5 A6 A7 A8 A9 A10 ρ : Type} {f : (A1 → A2 → A3 → A4 → A5 → A6 → A7 → A8 → A9 → A10 → Option ρ) → A1 → A2 → A3 → A4 → A5 → A6 → A7 → A8 → A9 → A10 → Option ρ} (G : (A1 → A2 → A3 → A4 → A5 → A6 → A7 → A8 → A9 → A10 → Option ρ) → Prop) (h0 : G (fun _ _ _ _ _ _ _ _ _ _ => none)) (hs : ∀ r, G r → G (f r)) : ∀ n, G (it10 f n)
  | 0 => h0
  | n + 1 => hs _ (it10_ind G h0 hs n)
def it11 {A1 A2 A3 A4 A5 A6 A7 A8 A9 A10 A11 ρ : Type} (f : (A1 → A2 → A3 → A4 → A5 → A6 → A7 → A8 → A9 → A10 → A11 → Option ρ) → A1 → A2 → A3 → A4 → A5 → A6 → A7 → A8 → A9 → A10 → A11 → Option ρ) : Nat → A1 → A2 → A3 → A4 → A5 → A6 → A7 → A8 → A9 → A10 → A11 → Option ρ
  | 0 => fun _ _ _ _ _ _ _ _ _ _ _ => none
  | n + 1 => f (it11 f n)
theorem it11_ind {A1 A2 A3 A4 A5 A6 A7 A8 A9 A10 A11 ρ : Type} {f : (A1 → A2 → A3 → A4 → A5 → A6 → A7 → A8 → A9 → A10 → A11 → Option ρ) → A1 → A2 → A3 → A4 → A5 → A6 → A7 → A8 → A9 → A10 → A11 → Option ρ} (G : (A1 → A2 → A3 → A4 → A5 → A6 → A7 → A8 → A9 → A10 → A11 → Option ρ) → Prop) (h0 : G (fun _ _ _ _ _ _ _ _ _ _ _ => none)) (hs : ∀ r, G r → G (f r)) : ∀ n, G (it11 f n)
  | 0 => h0
  | n + 1 => hs _ (it11_ind G h0 hs n)
def it12 {A1 A2 A3 A4 A5 A6 A7 A8 A9 A10 A11 A12 ρ : Type} (f : (A1 → A2 → A3 → A4 → A5 → A6 → A7 → A8 → A9 → A10 → A11 → A12 → Option ρ) → A1 → A2 → A3 → A4 → A5 → A6 → A7 → A8 → A9 → A10 → A11 → A12 → Option ρ) : Nat → A1 → A2 → A3 → A4 → A5 → A6 → A7 → A8 → A9 → A10 → A11 → A12 → Option ρ
  | 0 => fun _ _ _ _ _ _ _ _ _ _ _ _ => none
  | n + 1 => f (it12 f n)
theorem it12_ind {A1 A2 A3 A4 A5 A6 A7 A8 A9 A10 A11 A12 ρ : Type} {f : (A1 → A2 → A3 → A4 → A5 → A6 → A7 → A8 → A9 → A10 → A11 → A12 → Option ρ) → A1 → A2 → A3 → A4 → A5 → A6 → A7 → A8 → A9 → A10 → A11 → A12 → Option ρ} (G : (A1 → A2 → A3 → A4 → A5 → A6 → A7 → A8 → A9 → A10 → A11 → A12 → Option ρ) → Prop) (h0 : G (fun _ _ _ _ _ _ _ _ _ _ _ _ => none)) (hs : ∀ r, G r → G (f r)) : ∀ n, G (it12 f n)
  | 0 => h0
  | n + 1 => hs _ (it12_ind G h0 hs n)
section
variable {p : Program} {l : Launch} {e : Env} {R : Room} {s : State} {m : MethodId} {args : Array Value} {below : List Frame} {meth : Method} {c : Code} {H H0 : Heap} {locs : List Loc} {cells slots : Nat} {Q : State → Prop} {cc : ByteArray} {nL pc q n index : Nat} {ret : Option FieldType} {own : String} {D : va_G} {aC : Nat → ClassId} {sh : Nat → Nat} {n0 : Nat} {σ σ' : St} {ls : Array Slot} {rest : List Value}
theorem s_callV0 {y : MethodName} {bytes : ByteArray} {maxL nn : Nat} {rt : Option FieldType} {rm : Room} {As : List Value} {C : String} {ci N : Nat} {T : u_T} (hX : sr_X p s m args meth c cc nL ret own D aC) (hV : sr_V D aC sh n0 σ H0 H locs) (hls : ls.size = nL) (hM : sr_Met l D aC sh n0 y bytes maxL rt rm (.ref (n0 + q) :: As) σ none σ') (hC : sr_Cv y bytes maxL rt C nn) (hlink : Cond.methodLink own index y ∈ sr_G) (hR : rm.cells = 0 ∧ rm.slots = 0 ∧ rm.frames + 1 ≤ R.frames ∧ 8 + (maxL + 11) + rm.locals ≤ R.locals) (hc : sr_cls[ci]? = some (C, T, N)) (hci : ci + 1 < 10000) (hq : sh q = ci + 1) (hn : As.length = nn) {st0 : List Value} (hst : st0 = As.reverse ++ .ref (n0 + q) :: rest) (hsum : (rest.map fun v => v.category).sum ≤ 8) (hdg : decode cc pc = .ok (.invokevirtual index, 3)) (hf : cells ≤ R.cells ∧ slots ≤ R.slots)
    (kk : ∀ (H1 : Heap) (locs1 : List Loc), sr_V D aC sh n0 σ' H0 H1 locs1 → W p l e R s m args below meth c H1 locs1 cells slots Q (F0 m (pc + 3) ls rest)) : W p l e R s m args below meth c H locs cells slots Q (F0 m pc ls st0) :=
  s_callV hX hV hls hM hC hlink hR hc hci hq hn hst hsum hdg hf kk
theorem s_callV1 {y : MethodName} {bytes : ByteArray} {maxL nn : Nat} {rt : Option FieldType} {rm : Room} {As : List Value} {v : Value} {C : String} {ci N : Nat} {T : u_T} (hX : sr_X p s m args meth c cc nL ret own D aC) (hV : sr_V D aC sh n0 σ H0 H locs) (hls : ls.size = nL) (hM : sr_Met l D aC sh n0 y bytes maxL rt rm (.ref (n0 + q) :: As) σ (some v) σ') (hC : sr_Cv y bytes maxL rt C nn) (hlink : Cond.methodLink own index y ∈ sr_G) (hR : rm.cells = 0 ∧ rm.slots = 0 ∧ rm.frames + 1 ≤ R.frames ∧ 8 + (maxL + 11) + rm.locals ≤ R.locals) (hc : sr_cls[ci]? = some (C, T, N)) (hci : ci + 1 < 10000) (hq : sh q = ci + 1) (hn : As.length = nn) {st0 : List Value} (hst : st0 = As.reverse ++ .ref (n0 + q) :: rest) (hsum : (rest.map fun v => v.category).sum ≤ 8) (hdg : decode cc pc = .ok (.invokevirtual index, 3)) (hf : cells ≤ R.cells ∧ slots ≤ R.slots)
    (kk : ∀ (H1 : Heap) (locs1 : List Loc), sr_V D aC sh n0 σ' H0 H1 locs1 → W p l e R s m args below meth c H1 locs1 cells slots Q (F0 m (pc + 3) ls (v :: rest))) : W p l e R s m args below meth c H locs cells slots Q (F0 m pc ls st0) :=
  s_callV hX hV hls hM hC hlink hR hc hci hq hn hst hsum hdg hf kk
theorem s_callS0 {y : MethodName} {bytes : ByteArray} {maxL nn : Nat} {rt : Option FieldType} {rm : Room} {As : List Value} {C : String} (hX : sr_X p s m args meth c cc nL ret own D aC) (hV : sr_V D aC sh n0 σ H0 H locs) (hls : ls.size = nL) (hM : sr_Met l D aC sh n0 y bytes maxL rt rm As σ none σ') (hC : sr_Cs y bytes maxL rt C nn) (hlink : Cond.methodLink own index y ∈ sr_G) (hR : rm.cells = 0 ∧ rm.slots = 0 ∧ rm.frames + 1 ≤ R.frames ∧ 8 + (maxL + 11) + rm.locals ≤ R.locals) (hn : As.length = nn) {st0 : List Value} (hst : st0 = As.reverse ++ rest) (hsum : (rest.map fun v => v.category).sum ≤ 8) (hdg : decode cc pc = .ok (.invokestatic index, 3)) (hf : cells ≤ R.cells ∧ slots ≤ R.slots)
    (kk : ∀ (H1 : Heap) (locs1 : List Loc), sr_V D aC sh n0 σ' H0 H1 locs1 → W p l e R s m args below meth c H1 locs1 cells slots Q (F0 m (pc + 3) ls rest)) : W p l e R s m args below meth c H locs cells slots Q (F0 m pc ls st0) :=
  s_callS hX hV hls hM hC hlink hR hn hst hsum hdg hf kk
theorem s_callS1 {y : MethodName} {bytes : ByteArray} {maxL nn : Nat} {rt : Option FieldType} {rm : Room} {As : List Value} {v : Value} {C : String} (hX : sr_X p s m args meth c cc nL ret own D aC) (hV : sr_V D aC sh n0 σ H0 H locs) (hls : ls.size = nL) (hM : sr_Met l D aC sh n0 y bytes maxL rt rm As σ (some v) σ') (hC : sr_Cs y bytes maxL rt C nn) (hlink : Cond.methodLink own index y ∈ sr_G) (hR : rm.cells = 0 ∧ rm.slots = 0 ∧ rm.frames + 1 ≤ R.frames ∧ 8 + (maxL + 11) + rm.locals ≤ R.locals) (hn : As.length = nn) {st0 : List Value} (hst : st0 = As.reverse ++ rest) (hsum : (rest.map fun v => v.category).sum ≤ 8) (hdg : decode cc pc = .ok (.invokestatic index, 3)) (hf : cells ≤ R.cells ∧ slots ≤ R.slots)
    (kk : ∀ (H1 : Heap) (locs1 : List Loc), sr_V D aC sh n0 σ' H0 H1 locs1 → W p l e R s m args below meth c H1 locs1 cells slots Q (F0 m (pc + 3) ls (v :: rest))) : W p l e R s m args below meth c H locs cells slots Q (F0 m pc ls st0) :=
  s_callS hX hV hls hM hC hlink hR hn hst hsum hdg hf kk
theorem s_callN0 {y : MethodName} {bytes : ByteArray} {maxL nn : Nat} {rt : Option FieldType} {rm : Room} {As : List Value} {C : String} {host : String} (hX : sr_X p s m args meth c cc nL ret own D aC) (hV : sr_V D aC sh n0 σ H0 H locs) (hls : ls.size = nL) (hM : sr_Met l D aC sh n0 y bytes maxL rt rm As σ none σ') (hC : sr_Cs y bytes maxL rt C nn) (hlink : va_Nw (.methodLinkNest own index y host) s) (hR : rm.cells = 0 ∧ rm.slots = 0 ∧ rm.frames + 1 ≤ R.frames ∧ 8 + (maxL + 11) + rm.locals ≤ R.locals) (hn : As.length = nn) {st0 : List Value} (hst : st0 = As.reverse ++ rest) (hsum : (rest.map fun v => v.category).sum ≤ 8) (hdg : decode cc pc = .ok (.invokestatic index, 3)) (hf : cells ≤ R.cells ∧ slots ≤ R.slots)
    (kk : ∀ (H1 : Heap) (locs1 : List Loc), sr_V D aC sh n0 σ' H0 H1 locs1 → W p l e R s m args below meth c H1 locs1 cells slots Q (F0 m (pc + 3) ls rest)) : W p l e R s m args below meth c H locs cells slots Q (F0 m pc ls st0) :=
  s_callN hX hV hls hM hC hlink hR hn hst hsum hdg hf kk
theorem s_callN1 {y : MethodName} {bytes : ByteArray} {maxL nn : Nat} {rt : Option FieldType} {rm : Room} {As : List Value} {v : Value} {C : String} {host : String} (hX : sr_X p s m args meth c cc nL ret own D aC) (hV : sr_V D aC sh n0 σ H0 H locs) (hls : ls.size = nL) (hM : sr_Met l D aC sh n0 y bytes maxL rt rm As σ (some v) σ') (hC : sr_Cs y bytes maxL rt C nn) (hlink : va_Nw (.methodLinkNest own index y host) s) (hR : rm.cells = 0 ∧ rm.slots = 0 ∧ rm.frames + 1 ≤ R.frames ∧ 8 + (maxL + 11) + rm.locals ≤ R.locals) (hn : As.length = nn) {st0 : List Value} (hst : st0 = As.reverse ++ rest) (hsum : (rest.map fun v => v.category).sum ≤ 8) (hdg : decode cc pc = .ok (.invokestatic index, 3)) (hf : cells ≤ R.cells ∧ slots ≤ R.slots)
    (kk : ∀ (H1 : Heap) (locs1 : List Loc), sr_V D aC sh n0 σ' H0 H1 locs1 → W p l e R s m args below meth c H1 locs1 cells slots Q (F0 m (pc + 3) ls (v :: rest))) : W p l e R s m args below meth c H locs cells slots Q (F0 m pc ls st0) :=
  s_callN hX hV hls hM hC hlink hR hn hst hsum hdg hf kk
theorem s_tabIn {x k : Int32} {dflt lo hi : Int} {offs : Array Int} {len : Nat} {off : Int} {tgt : Nat} (hk : x = k) (hexec : p.tables.exec = Jvm.exec) (hb : c.code = cc) (hdg : decode cc pc = .ok (.tableswitch dflt lo hi offs, len)) (h1 : ¬ k.toInt < lo) (h2 : ¬ hi < k.toInt) (ho : offs[(k.toInt - lo).toNat]? = some off) (ht : (pc : Int) + off = (tgt : Int))
    (kk : W p l e R s m args below meth c H locs cells slots Q (F0 m tgt ls rest)) : W p l e R s m args below meth c H locs cells slots Q (F0 m pc ls (.int x :: rest)) := by
  subst hk
  exact lv_tableIn hexec hb hdg h1 h2 ho ht kk
end
end
section
noncomputable def f_X6_empty (q0 : Nat) (σ : St) : St :=
bnd (sI σ q0 0 0) fun σ1 =>
bnd (sI σ1 q0 1 0) fun σ3 =>
bnd (sI σ3 q0 2 0) fun σ5 =>
bnd (sI σ5 q0 3 0) fun σ7 =>
bnd (sL σ7 q0 4 1) fun σ9 =>
bnd (sL σ9 q0 5 1) fun σ11 =>
σ11
noncomputable def f_X0_makeNew (q0 : Nat) (b1 : Bool) (σ : St) : St :=
bnd (sB σ q0 7 b1) fun σ1 =>
bnd (sI σ1 q0 4 0) fun σ3 =>
bnd (sI σ3 q0 5 0) fun σ5 =>
bnd (sI σ5 q0 6 0) fun σ7 =>
bnd (sI σ7 (q0 + 1) 1 0) fun σ9 =>
bnd (f_X6_empty (q0 + 3) σ9) fun σ12 =>
σ12
noncomputable def f_X4_copyFrom (q0 : Nat) (q1 : Nat) (σ : St) : St :=
bnd (sI σ q0 1 (gI σ q1 1)) fun σ1 =>
bnd (cpI σ1 (q1 + 1) (q0 + 1) 18) fun σ3 =>
σ3
noncomputable def f_X6_copyFrom (q0 : Nat) (q1 : Nat) (σ : St) : St :=
bnd (sI σ q0 0 (gI σ q1 0)) fun σ1 =>
bnd (sI σ1 q0 1 (gI σ1 q1 1)) fun σ3 =>
bnd (sI σ3 q0 2 (gI σ3 q1 2)) fun σ5 =>
bnd (sI σ5 q0 3 (gI σ5 q1 3)) fun σ7 =>
bnd (sL σ7 q0 4 (gL σ7 q1 4)) fun σ9 =>
bnd (sL σ9 q0 5 (gL σ9 q1 5)) fun σ11 =>
σ11
noncomputable def f_X0_copyFrom (q0 : Nat) (q1 : Nat) (σ : St) : St :=
bnd (sB σ q0 7 (gB σ q1 7)) fun σ1 =>
bnd (sI σ1 q0 4 (gI σ1 q1 4)) fun σ3 =>
bnd (sI σ3 q0 5 (gI σ3 q1 5)) fun σ5 =>
bnd (sI σ5 q0 6 (gI σ5 q1 6)) fun σ7 =>
bnd (f_X4_copyFrom (q0 + 1) (q1 + 1) σ7) fun σ10 =>
bnd (f_X6_copyFrom (q0 + 3) (q1 + 3) σ10) fun σ12 =>
bnd (cpI σ12 (q1 + 4) (q0 + 4) 6) fun σ13 =>
σ13
noncomputable def f_X0_isWatched (q0 : Nat) (σ : St) : Bool :=
if (gI σ q0 5) = 1 then (true) else (if (gI σ q0 5) = 2 then (true) else (false))
noncomputable def f_X0_isUnderWay (q0 : Nat) (σ : St) : Bool :=
bnd (f_X0_isWatched q0 σ) fun v2 =>
if v2 = true then (true) else (if (gI σ q0 5) = 4 then (true) else (false))
noncomputable def f_X0_hasFurtherStage (q0 : Nat) (σ : St) : Bool :=
if (gI σ (q0 + 1) 1) ≤ (gI σ q0 6) then (false) else (true)
noncomputable def f_X4_cellsOfFirst_L4 (σ : St) (q0 : Nat) (x1 : Int32) (rec4 : Int32 → Int32 → Option Int32) (x2 : Int32) (x3 : Int32) : Option Int32 :=
if x1 ≤ x3 then (some x2) else (if (gI σ q0 1) ≤ x3 then (some x2) else (if 6 ≤ x3 then (some x2) else (bnd ((x3 * 3) + 0) fun v4 =>
if inb v4 18 = true then (bnd (x2 ||| (gI σ (q0 + 1) (Int32.toNatClampNeg v4))) fun v7 =>
bnd (x3 + 1) fun v9 =>
rec4 v7 v9) else none)))
noncomputable def f_X4_cellsOfFirst (q0 : Nat) (x1 : Int32) (σ : St) : Option Int32 :=
it2 (f_X4_cellsOfFirst_L4 σ q0 x1) sr_fuel 0 0
noncomputable def f_X0_isAt (q0 : Nat) (x1 : Int32) (σ : St) : Option Bool :=
obd (f_X4_cellsOfFirst (q0 + 1) (gI σ q0 6) σ) fun v2 =>
if ((v2 >>> (x1 &&& 31)) &&& 1) = 0 then (some false) else (some true)
noncomputable def f_X6_treated (q0 : Nat) (σ : St) : Int32 :=
((gI σ q0 0) + (gI σ q0 1))
noncomputable def f_X6_setsOf_L21 (x0 : Int32) (x1 : Int32) (rec21 : Int32 → Int64 → Int32 → Option Int64) (x2 : Int32) (w3 : Int64) (x5 : Int32) : Option Int64 :=
if x2 < x5 then (some w3) else (if ¬ (Int32.toInt64 x5) = 0 then (bnd ((w3 * (Int32.toInt64 ((x0 - x2) + x5))) / (Int32.toInt64 x5)) fun v3 =>
bnd (x5 + 1) fun v5 =>
rec21 x2 v3 v5) else none)
noncomputable def f_X6_setsOf (x0 : Int32) (x1 : Int32) : Option Int64 :=
bnd (if (x0 - x1) < x1 then (x0 - x1) else x1) fun v7 =>
if 0 ≤ v7 then (it3 (f_X6_setsOf_L21 x0 x1) sr_fuel v7 1 1) else (it3 (f_X6_setsOf_L21 x0 x1) sr_fuel v7 0 1)
noncomputable def f_X6_commonDivisor_L9 (w0 : Int64) (w2 : Int64) (rec9 : Int64 → Int64 → Int32 → Option Int64) (w4 : Int64) (w6 : Int64) (x8 : Int32) : Option Int64 :=
if 1000 ≤ x8 then (some (if 1 < w4 then w4 else 1)) else (if (lg_cmp w6 0) = 0 then (some (if 1 < w4 then w4 else 1)) else (if ¬ w6 = 0 then (bnd (w4 - w4 / w6 * w6) fun v4 =>
bnd (x8 + 1) fun v6 =>
rec9 w6 v4 v6) else none))
noncomputable def f_X6_commonDivisor (w0 : Int64) (w2 : Int64) : Option Int64 :=
it3 (f_X6_commonDivisor_L9 w0 w2) sr_fuel w0 w2 0
noncomputable def f_X6_computeChance_B72 (q0 : Nat) (x1 : Int32) (x2 : Int32) (x3 : Int32) (w4 : Int64) (σ : St) : Option St :=
obd (f_X6_setsOf (x2 + x3) x1) fun v2 =>
obd (f_X6_commonDivisor w4 v2) fun v4 =>
if ¬ v4 = 0 then (bnd (sL σ q0 4 (w4 / v4)) fun σ6 =>
if ¬ v4 = 0 then (bnd (sL σ6 q0 5 (v2 / v4)) fun σ9 =>
some σ9) else none) else none
noncomputable def f_X6_computeChance_L34 (q0 : Nat) (rec34 : Int32 → Int32 → Int32 → Int64 → Int32 → St → Option St) (x1 : Int32) (x2 : Int32) (x3 : Int32) (w4 : Int64) (x6 : Int32) (σ : St) : Option St :=
if x1 < x6 then (f_X6_computeChance_B72 q0 x1 x2 x3 w4 σ) else (if x2 < x6 then (f_X6_computeChance_B72 q0 x1 x2 x3 w4 σ) else (obd (f_X6_setsOf x2 x6) fun v14 =>
obd (f_X6_setsOf x3 (x1 - x6)) fun v16 =>
bnd (w4 + (v14 * v16)) fun v17 =>
bnd (x6 + 1) fun v19 =>
rec34 x1 x2 x3 v17 v19 σ))
noncomputable def f_X6_computeChance (q0 : Nat) (σ : St) : Option St :=
bnd (f_X6_treated q0 σ) fun v22 =>
bnd ((gI σ q0 0) + (gI σ q0 2)) fun v23 =>
bnd ((gI σ q0 1) + (gI σ q0 3)) fun v25 =>
bnd (gI σ q0 0) fun v27 =>
it6 (f_X6_computeChance_L34 q0) sr_fuel v22 v23 v25 0 v27 σ
noncomputable def f_X6_takesTreated (q0 : Nat) (x1 : Int32) (x2 : Int32) (σ : St) : Option (Bool × St) :=
bnd (f_X6_treated q0 σ) fun v2 =>
if ((v2 + x1) + x2) ≤ 25 then (bnd (sI σ q0 0 ((gI σ q0 0) + x1)) fun σ4 =>
bnd (sI σ4 q0 1 ((gI σ4 q0 1) + x2)) fun σ6 =>
obd (f_X6_computeChance q0 σ6) fun σ9 =>
some (true, σ9)) else (some (false, σ))
noncomputable def f_X6_control (q0 : Nat) (σ : St) : Int32 :=
((gI σ q0 2) + (gI σ q0 3))
noncomputable def f_X6_takesControl (q0 : Nat) (x1 : Int32) (x2 : Int32) (σ : St) : Option (Bool × St) :=
bnd (f_X6_control q0 σ) fun v2 =>
if ((v2 + x1) + x2) ≤ 25 then (bnd (sI σ q0 2 ((gI σ q0 2) + x1)) fun σ4 =>
bnd (sI σ4 q0 3 ((gI σ4 q0 3) + x2)) fun σ6 =>
obd (f_X6_computeChance q0 σ6) fun σ9 =>
some (true, σ9)) else (some (false, σ))
noncomputable def f_X0_takesProbes (q0 : Nat) (x1 : Int32) (x2 : Int32) (x3 : Int32) (σ : St) : Option (Bool × St) :=
bnd (f_X0_isWatched q0 σ) fun v2 =>
if v2 = true then (if (gI σ q0 6) = 0 then (some (false, σ)) else (obd (f_X0_isAt q0 x1 σ) fun v6 =>
if v6 = true then (ob2 (f_X6_takesTreated (q0 + 3) x2 x3 σ) fun v12 σ13 =>
some (v12, σ13)) else (ob2 (f_X6_takesControl (q0 + 3) x2 x3 σ) fun v9 σ10 =>
some (v9, σ10)))) else (some (false, σ))
noncomputable def f_X0_hoursSinceLatest (q0 : Nat) (x1 : Int32) (σ : St) : Option Int32 :=
bnd ((gI σ q0 6) - 1) fun v1 =>
if v1 < 0 then (some 0) else (if 6 ≤ v1 then (some 0) else (if inb v1 6 = true then (some (x1 - (gI σ (q0 + 4) (Int32.toNatClampNeg v1)))) else none))
noncomputable def f_X7_isWithin (x0 : Int32) (x1 : Int32) (x2 : Int32) : Bool :=
if x0 < x1 then (false) else (if x2 < x0 then (false) else (true))
noncomputable def f_X4_number_B28 (σ : St) (q0 : Nat) (x1 : Int32) (x2 : Int32) (sb0 : Bool) : Option Int32 :=
bnd ((x1 * 3) + x2) fun v1 =>
if sb0 = true then (if 18 ≤ v1 then (some 0) else (if inb v1 18 = true then (some (gI σ (q0 + 1) (Int32.toNatClampNeg v1))) else none)) else (some 0)
noncomputable def f_X4_number (q0 : Nat) (x1 : Int32) (x2 : Int32) (σ : St) : Option Int32 :=
bnd (f_X7_isWithin x1 0 ((gI σ q0 1) - 1)) fun v7 =>
if v7 = true then (bnd (f_X7_isWithin x2 0 2) fun v10 =>
if v10 = true then (f_X4_number_B28 σ q0 x1 x2 true) else (f_X4_number_B28 σ q0 x1 x2 false)) else (f_X4_number_B28 σ q0 x1 x2 false)
noncomputable def f_X0_waitsAt (q0 : Nat) (x1 : Int32) (σ : St) : Option Bool :=
if (gI σ q0 6) ≤ 0 then (some false) else (obd (f_X0_hoursSinceLatest q0 x1 σ) fun v3 =>
obd (f_X4_number (q0 + 1) ((gI σ q0 6) - 1) 1 σ) fun v5 =>
if v5 ≤ v3 then (some false) else (some true))
noncomputable def f_X0_lacksSamples_B44 (σ : St) (q0 : Nat) (x1 : Int32) (x2 : Int32) (sb0 : Bool) : Option Bool :=
bnd (f_X6_treated (q0 + 3) σ) fun v2 =>
if v2 < x2 then (some true) else (if sb0 = true then (bnd (f_X6_control (q0 + 3) σ) fun v6 =>
if x2 ≤ v6 then (some false) else (some true)) else (some false))
noncomputable def f_X0_lacksSamples (q0 : Nat) (x1 : Int32) (σ : St) : Option Bool :=
if (gI σ q0 6) = 0 then (some false) else (obd (f_X4_number (q0 + 1) ((gI σ q0 6) - 1) 2 σ) fun v10 =>
obd (f_X4_cellsOfFirst (q0 + 1) (gI σ q0 6) σ) fun v12 =>
if v12 = x1 then (f_X0_lacksSamples_B44 σ q0 x1 v10 false) else (f_X0_lacksSamples_B44 σ q0 x1 v10 true))
noncomputable def f_X0_beginStage (q0 : Nat) (x1 : Int32) (σ : St) : Option St :=
if (gI σ q0 6) < 0 then (some σ) else (if 6 ≤ (gI σ q0 6) then (some σ) else (bnd (gI σ q0 6) fun v3 =>
if inb v3 6 = true then (bnd (sI σ (q0 + 4) (Int32.toNatClampNeg v3) x1) fun σ6 =>
bnd (sI σ6 q0 6 ((gI σ6 q0 6) + 1)) fun σ8 =>
bnd (f_X6_empty (q0 + 3) σ8) fun σ11 =>
some σ11) else none))
noncomputable def f_X3_empty (q0 : Nat) (σ : St) : St :=
bnd (sI σ q0 1 0) fun σ1 =>
bnd (sI σ1 q0 2 0) fun σ3 =>
σ3
noncomputable def f_X1_beginAnew (q0 : Nat) (x1 : Int32) (σ : St) : St :=
bnd (sI σ q0 5 x1) fun σ1 =>
bnd (sI σ1 q0 4 0) fun σ3 =>
bnd (sI σ3 q0 6 0) fun σ5 =>
bnd (sI σ5 (q0 + 27) 2 0) fun σ7 =>
bnd (f_X3_empty (q0 + 30) σ7) fun σ10 =>
σ10
noncomputable def f_X2_copyFrom (q0 : Nat) (q1 : Nat) (σ : St) : St :=
bnd (sI σ q0 2 (gI σ q1 2)) fun σ1 =>
bnd (cpI σ1 (q1 + 1) (q0 + 1) 3) fun σ3 =>
bnd (cpI σ3 (q1 + 2) (q0 + 2) 3) fun σ5 =>
σ5
noncomputable def f_X3_copyFrom (q0 : Nat) (q1 : Nat) (σ : St) : St :=
bnd (sI σ q0 1 (gI σ q1 1)) fun σ1 =>
bnd (sI σ1 q0 2 (gI σ1 q1 2)) fun σ3 =>
bnd (cpI σ3 (q1 + 1) (q0 + 1) 80) fun σ5 =>
σ5
noncomputable def f_X1_copyFrom_L56 (q0 : Nat) (q1 : Nat) (rec56 : Int32 → St → Option St) (x2 : Int32) (σ : St) : Option St :=
if (gI σ q0 4) ≤ x2 then (some σ) else (if 5 ≤ x2 then (some σ) else (if inb x2 5 = true then (if inb x2 5 = true then (bnd (f_X0_copyFrom ((q0 + 1) + 1 + 5 * (Int32.toNatClampNeg x2)) ((q1 + 1) + 1 + 5 * (Int32.toNatClampNeg x2)) σ) fun σ6 =>
bnd (x2 + 1) fun v7 =>
rec56 v7 σ6) else none) else none))
noncomputable def f_X1_copyFrom (q0 : Nat) (q1 : Nat) (σ : St) : Option St :=
bnd (sI σ q0 4 (gI σ q1 4)) fun σ9 =>
bnd (sI σ9 q0 5 (gI σ9 q1 5)) fun σ11 =>
bnd (sI σ11 q0 6 (gI σ11 q1 6)) fun σ13 =>
bnd (sI σ13 q0 7 (gI σ13 q1 7)) fun σ15 =>
bnd (f_X2_copyFrom (q0 + 27) (q1 + 27) σ15) fun σ18 =>
bnd (f_X3_copyFrom (q0 + 30) (q1 + 30) σ18) fun σ20 =>
it2 (f_X1_copyFrom_L56 q0 q1) sr_fuel 0 σ20
noncomputable def f_X1_find (q0 : Nat) (x1 : Int32) (σ : St) : Option (Option Nat) :=
if x1 < 0 then (some none) else (if (gI σ q0 4) ≤ x1 then (some none) else (if 5 ≤ x1 then (some none) else (if inb x1 5 = true then (some (some ((q0 + 1) + 1 + 5 * (Int32.toNatClampNeg x1)))) else none)))
noncomputable def f_X1_putChange (q0 : Nat) (b1 : Bool) (σ : St) : Option (Bool × St) :=
if (gI σ q0 4) < 5 then (bnd (gI σ q0 4) fun v2 =>
if inb v2 5 = true then (bnd (f_X0_makeNew ((q0 + 1) + 1 + 5 * (Int32.toNatClampNeg v2)) b1 σ) fun σ6 =>
bnd (sI σ6 q0 4 ((gI σ6 q0 4) + 1)) fun σ7 =>
some (true, σ7)) else none) else (some (false, σ))
noncomputable def f_X1_isCell (q0 : Nat) (x1 : Int32) (σ : St) : Bool :=
if x1 < 0 then (false) else (if (gI σ q0 5) ≤ x1 then (false) else (true))
noncomputable def f_X1_allCells (q0 : Nat) (σ : St) : Int32 :=
((1 <<< ((gI σ q0 5) &&& 31)) - 1)
noncomputable def f_X1_changesOf_L4 (σ : St) (q0 : Nat) (x1 : Int32) (rec4 : Int32 → Int32 → Option Int32) (x2 : Int32) (x3 : Int32) : Option Int32 :=
if (gI σ q0 4) ≤ x3 then (some x2) else (if 5 ≤ x3 then (some x2) else (if inb x3 5 = true then (obd (f_X0_isAt ((q0 + 1) + 1 + 5 * (Int32.toNatClampNeg x3)) x1 σ) fun v5 =>
if v5 = true then (bnd (x2 ||| (1 <<< (x3 &&& 31))) fun v9 =>
bnd (x3 + 1) fun v11 =>
rec4 v9 v11) else (bnd (x3 + 1) fun v7 =>
rec4 x2 v7)) else none))
noncomputable def f_X1_changesOf (q0 : Nat) (x1 : Int32) (σ : St) : Option Int32 :=
it2 (f_X1_changesOf_L4 σ q0 x1) sr_fuel 0 0
noncomputable def f_X1_isOver (q0 : Nat) (x1 : Int32) (σ : St) : Option Bool :=
obd (f_X1_find q0 x1 σ) fun v2 =>
opt v2 (some false) fun q3 =>
if shC q3 = 1 then (if (gI σ q3 5) = 3 then (some true) else (if (gI σ q3 5) = 5 then (some true) else (some false))) else none
noncomputable def f_X1_takeProbes_L6 (q0 : Nat) (x1 : Int32) (x2 : Int32) (x3 : Int32) (rec6 : Int32 → Int32 → St → Option (Int32 × St)) (x4 : Int32) (x5 : Int32) (σ : St) : Option (Int32 × St) :=
if (gI σ q0 4) ≤ x5 then (some (x4, σ)) else (if 5 ≤ x5 then (some (x4, σ)) else (if inb x5 5 = true then (ob2 (f_X0_takesProbes ((q0 + 1) + 1 + 5 * (Int32.toNatClampNeg x5)) x1 x2 x3 σ) fun v5 σ6 =>
if v5 = true then (bnd (x4 + 1) fun v10 =>
bnd (x5 + 1) fun v12 =>
rec6 v10 v12 σ6) else (bnd (x5 + 1) fun v8 =>
rec6 x4 v8 σ6)) else none))
noncomputable def f_X1_takeProbes (q0 : Nat) (x1 : Int32) (x2 : Int32) (x3 : Int32) (σ : St) : Option (Int32 × St) :=
it3 (f_X1_takeProbes_L6 q0 x1 x2 x3) sr_fuel 0 0 σ
noncomputable def f_X2_covers_L2 (σ : St) (q0 : Nat) (x1 : Int32) (rec2 : Int32 → Option Bool) (x2 : Int32) : Option Bool :=
if (gI σ q0 2) ≤ x2 then (some false) else (if 3 ≤ x2 then (some false) else (if inb x2 3 = true then (if x1 < (gI σ (q0 + 1) (Int32.toNatClampNeg x2)) then (bnd (x2 + 1) fun v5 =>
rec2 v5) else (if inb x2 3 = true then (if (gI σ (q0 + 2) (Int32.toNatClampNeg x2)) ≤ x1 then (bnd (x2 + 1) fun v9 =>
rec2 v9) else (some true)) else none)) else none))
noncomputable def f_X2_covers (q0 : Nat) (x1 : Int32) (σ : St) : Option Bool :=
it1 (f_X2_covers_L2 σ q0 x1) sr_fuel 0
noncomputable def f_X1_lacksDone_L2 (σ : St) (q0 : Nat) (x1 : Int32) (rec2 : Int32 → Option Bool) (x2 : Int32) : Option Bool :=
if (gI σ q0 4) ≤ x2 then (some false) else (if 5 ≤ x2 then (some false) else (if ((x1 >>> (x2 &&& 31)) &&& 1) = 0 then (bnd (x2 + 1) fun v4 =>
rec2 v4) else (if inb x2 5 = true then (if (gI σ ((q0 + 1) + 1 + 5 * (Int32.toNatClampNeg x2)) 5) = 3 then (bnd (x2 + 1) fun v8 =>
rec2 v8) else (some true)) else none)))
noncomputable def f_X1_lacksDone (q0 : Nat) (x1 : Int32) (σ : St) : Option Bool :=
it1 (f_X1_lacksDone_L2 σ q0 x1) sr_fuel 0
noncomputable def f_X1_meetsOtherRisk_L2 (σ : St) (q0 : Nat) (q1 : Nat) (rec2 : Int32 → Option Bool) (x2 : Int32) : Option Bool :=
if (gI σ q0 4) ≤ x2 then (some false) else (if 5 ≤ x2 then (some false) else (if inb x2 5 = true then (if ((q0 + 1) + 1 + 5 * (Int32.toNatClampNeg x2)) = q1 then (bnd (x2 + 1) fun v5 =>
rec2 v5) else (if (gB σ ((q0 + 1) + 1 + 5 * (Int32.toNatClampNeg x2)) 7) = true then (bnd (f_X0_isUnderWay ((q0 + 1) + 1 + 5 * (Int32.toNatClampNeg x2)) σ) fun v11 =>
if v11 = true then (if (gI σ ((q0 + 1) + 1 + 5 * (Int32.toNatClampNeg x2)) 6) ≤ 0 then (bnd (x2 + 1) fun v16 =>
rec2 v16) else (some true)) else (bnd (x2 + 1) fun v13 =>
rec2 v13)) else (bnd (x2 + 1) fun v8 =>
rec2 v8))) else none))
noncomputable def f_X1_meetsOtherRisk (q0 : Nat) (q1 : Nat) (σ : St) : Option Bool :=
it1 (f_X1_meetsOtherRisk_L2 σ q0 q1) sr_fuel 0
noncomputable def f_X1_reasonBeforeFirstStage (q0 : Nat) (q1 : Nat) (σ : St) : Option Int32 :=
obd (f_X1_lacksDone q0 (gI σ q1 4) σ) fun v2 =>
if v2 = true then (some 7) else (if (gB σ q1 7) = true then (obd (f_X1_meetsOtherRisk q0 q1 σ) fun v6 =>
if v6 = true then (some 8) else (some 0)) else (some 0))
noncomputable def f_X1_reasonOf_B90 (σ : St) (q0 : Nat) (q1 : Nat)  : Option Int32 :=
if (gI σ q1 6) ≤ 0 then (obd (f_X1_reasonBeforeFirstStage q0 q1 σ) fun v3 =>
some v3) else (some 0)
noncomputable def f_X1_reasonOf_B62 (σ : St) (q0 : Nat) (q1 : Nat)  : Option Int32 :=
bnd (f_X0_hasFurtherStage q1 σ) fun v5 =>
if v5 = true then (obd (f_X2_covers (q0 + 27) (irm (gI σ q0 6) 168) σ) fun v8 =>
if v8 = true then (some 6) else (f_X1_reasonOf_B90 σ q0 q1 )) else (f_X1_reasonOf_B90 σ q0 q1 )
noncomputable def f_X1_reasonOf (q0 : Nat) (q1 : Nat) (σ : St) : Option Int32 :=
bnd (f_X0_isUnderWay q1 σ) fun v11 =>
if v11 = true then (if (gI σ q1 5) = 4 then (some 2) else (if (gI σ q1 5) = 2 then (some 3) else (obd (f_X0_waitsAt q1 (gI σ q0 6) σ) fun v16 =>
if v16 = true then (some 4) else (if (gB σ q0 3) = true then (f_X1_reasonOf_B62 σ q0 q1 ) else (bnd (f_X1_allCells q0 σ) fun v20 =>
obd (f_X0_lacksSamples q1 v20 σ) fun v22 =>
if v22 = true then (some 5) else (f_X1_reasonOf_B62 σ q0 q1 )))))) else (some 1)
noncomputable def f_X3_placeOf (q0 : Nat) (x1 : Int32) (x2 : Int32) (σ : St) : Int32 :=
(((irm ((gI σ q0 1) + x1) 20) * 4) + x2)
noncomputable def f_X3_put_B28 (q0 : Nat) (x1 : Int32) (x2 : Int32) (x3 : Int32) (x4 : Int32)  (σ : St) : Option St :=
bnd (f_X3_placeOf q0 (gI σ q0 2) 0 σ) fun v2 =>
bnd (sI σ q0 2 ((gI σ q0 2) + 1)) fun σ3 =>
bnd (sI σ3 q0 3 ((gI σ3 q0 3) + 1)) fun σ5 =>
bnd (f_X7_isWithin v2 0 (80 - 4)) fun v8 =>
if v8 = true then (bnd (v2 + 0) fun v10 =>
if inb v10 80 = true then (bnd (sI σ5 (q0 + 1) (Int32.toNatClampNeg v10) x1) fun σ13 =>
bnd (v2 + 1) fun v15 =>
if inb v15 80 = true then (bnd (sI σ13 (q0 + 1) (Int32.toNatClampNeg v15) x2) fun σ18 =>
bnd (v2 + 2) fun v20 =>
if inb v20 80 = true then (bnd (sI σ18 (q0 + 1) (Int32.toNatClampNeg v20) x3) fun σ23 =>
bnd (v2 + 3) fun v25 =>
if inb v25 80 = true then (bnd (sI σ23 (q0 + 1) (Int32.toNatClampNeg v25) x4) fun σ28 =>
some σ28) else none) else none) else none) else none) else (some σ5)
noncomputable def f_X3_put (q0 : Nat) (x1 : Int32) (x2 : Int32) (x3 : Int32) (x4 : Int32) (σ : St) : Option St :=
if (gI σ q0 2) < 20 then (f_X3_put_B28 q0 x1 x2 x3 x4  σ) else (bnd (sI σ q0 1 (irm ((gI σ q0 1) + 1) 20)) fun σ31 =>
bnd (sI σ31 q0 2 19) fun σ33 =>
f_X3_put_B28 q0 x1 x2 x3 x4  σ33)
noncomputable def f_X1_become (q0 : Nat) (q1 : Nat) (x2 : Int32) (x3 : Int32) (σ : St) : Option St :=
bnd (sI σ q1 5 x2) fun σ1 =>
obd (f_X3_put (q0 + 30) (gI σ1 q0 6) (gI σ1 q1 0) x3 (-15) σ1) fun σ4 =>
some σ4
noncomputable def f_X6_isAtMost (q0 : Nat) (x1 : Int32) (σ : St) : Bool :=
if 0 < (lg_cmp ((gL σ q0 4) * 1000) ((Int32.toInt64 x1) * (gL σ q0 5))) then (false) else (true)
noncomputable def f_X1_hasBadChance (q0 : Nat) (q1 : Nat) (σ : St) : Bool :=
if (gB σ q0 3) = true then (false) else (bnd (f_X0_isWatched q1 σ) fun v3 =>
if v3 = true then (if (gI σ q1 6) ≤ 0 then (false) else (bnd (f_X6_isAtMost (q1 + 3) (gI σ q0 7) σ) fun v7 =>
if v7 = true then (true) else (false))) else (false))
noncomputable def f_X1_turnStage_B37 (q0 : Nat) (q1 : Nat)  (σ : St) : Option St :=
if (gI σ q1 6) = 0 then (obd (f_X1_become q0 q1 5 5 σ) fun σ3 =>
some σ3) else (some σ)
noncomputable def f_X1_turnStage (q0 : Nat) (q1 : Nat) (σ : St) : Option St :=
if (gI σ q1 6) ≤ 0 then (f_X1_turnStage_B37 q0 q1  σ) else (bnd (sI σ q1 6 ((gI σ q1 6) - 1)) fun σ5 =>
obd (f_X3_put (q0 + 30) (gI σ5 q0 6) (gI σ5 q1 0) 4 (gI σ5 q1 6) σ5) fun σ8 =>
f_X1_turnStage_B37 q0 q1  σ8)
noncomputable def f_X1_goOn (q0 : Nat) (q1 : Nat) (σ : St) : Option St :=
bnd (f_X0_hasFurtherStage q1 σ) fun v2 =>
if v2 = true then (obd (f_X3_put (q0 + 30) (gI σ q0 6) (gI σ q1 0) 1 (gI σ q1 6) σ) fun σ7 =>
obd (f_X0_beginStage q1 (gI σ7 q0 6) σ7) fun σ9 =>
some σ9) else (obd (f_X1_become q0 q1 3 2 σ) fun σ5 =>
some σ5)
noncomputable def f_X1_moveInHour (q0 : Nat) (q1 : Nat) (σ : St) : Option St :=
bnd (f_X1_hasBadChance q0 q1 σ) fun v2 =>
if v2 = true then (obd (f_X1_become q0 q1 4 3 σ) fun σ14 =>
some σ14) else (if (gI σ q1 5) = 4 then (obd (f_X1_turnStage q0 q1 σ) fun σ12 =>
some σ12) else (if (gI σ q1 5) = 1 then (obd (f_X1_reasonOf q0 q1 σ) fun v7 =>
if v7 = 0 then (obd (f_X1_goOn q0 q1 σ) fun σ10 =>
some σ10) else (some σ)) else (some σ)))
noncomputable def f_X1_passHour_L2 (q0 : Nat) (rec2 : Int32 → St → Option St) (x1 : Int32) (σ : St) : Option St :=
if (gI σ q0 4) ≤ x1 then (bnd (sI σ q0 6 ((gI σ q0 6) + 1)) fun σ2 =>
some σ2) else (if 5 ≤ x1 then (bnd (sI σ q0 6 ((gI σ q0 6) + 1)) fun σ5 =>
some σ5) else (if inb x1 5 = true then (obd (f_X1_moveInHour q0 ((q0 + 1) + 1 + 5 * (Int32.toNatClampNeg x1)) σ) fun σ9 =>
bnd (x1 + 1) fun v10 =>
rec2 v10 σ9) else none))
noncomputable def f_X1_passHour (q0 : Nat) (σ : St) : Option St :=
it2 (f_X1_passHour_L2 q0) sr_fuel 0 σ
noncomputable def f_X2_put (q0 : Nat) (x1 : Int32) (x2 : Int32) (σ : St) : Option (Bool × St) :=
if (gI σ q0 2) < 0 then (some (false, σ)) else (if (gI σ q0 2) < 3 then (bnd (gI σ q0 2) fun v3 =>
if inb v3 3 = true then (bnd (sI σ (q0 + 1) (Int32.toNatClampNeg v3) x1) fun σ6 =>
bnd (gI σ6 q0 2) fun v8 =>
if inb v8 3 = true then (bnd (sI σ6 (q0 + 2) (Int32.toNatClampNeg v8) x2) fun σ11 =>
bnd (sI σ11 q0 2 ((gI σ11 q0 2) + 1)) fun σ13 =>
some (true, σ13)) else none) else none) else (some (false, σ)))
noncomputable def f_X3_number (q0 : Nat) (x1 : Int32) (x2 : Int32) (σ : St) : Option Int32 :=
bnd (f_X3_placeOf q0 x1 x2 σ) fun v2 =>
bnd (f_X7_isWithin v2 0 (80 - 1)) fun v4 =>
if v4 = true then (if inb v2 80 = true then (some (gI σ (q0 + 1) (Int32.toNatClampNeg v2))) else none) else (some 0)
noncomputable def f_X3_countOf_B42 (σ : St) (q0 : Nat) (x1 : Int32) (x2 : Int32) (rec5 : Int32 → Int32 → Option Int32) (x3 : Int32) (x4 : Int32) (sb0 : Bool) : Option Int32 :=
if sb0 = true then (obd (f_X3_number q0 x4 2 σ) fun v5 =>
if v5 = x1 then (bnd (x3 + 1) fun v9 =>
bnd (x4 + 1) fun v11 =>
rec5 v9 v11) else (bnd (x4 + 1) fun v7 =>
rec5 x3 v7)) else (bnd (x4 + 1) fun v2 =>
rec5 x3 v2)
noncomputable def f_X3_countOf_L5 (σ : St) (q0 : Nat) (x1 : Int32) (x2 : Int32) (rec5 : Int32 → Int32 → Option Int32) (x3 : Int32) (x4 : Int32) : Option Int32 :=
if (gI σ q0 2) ≤ x4 then (some x3) else (if 20 ≤ x4 then (some x3) else (if x2 = (-1) then (f_X3_countOf_B42 σ q0 x1 x2 rec5 x3 x4 true) else (obd (f_X3_number q0 x4 1 σ) fun v17 =>
if v17 = x2 then (f_X3_countOf_B42 σ q0 x1 x2 rec5 x3 x4 true) else (f_X3_countOf_B42 σ q0 x1 x2 rec5 x3 x4 false))))
noncomputable def f_X3_countOf (q0 : Nat) (x1 : Int32) (x2 : Int32) (σ : St) : Option Int32 :=
it2 (f_X3_countOf_L5 σ q0 x1 x2) sr_fuel 0 0
noncomputable def f_X4_put (q0 : Nat) (x1 : Int32) (x2 : Int32) (x3 : Int32) (σ : St) : Option (Bool × St) :=
if (gI σ q0 1) < 0 then (some (false, σ)) else (if (gI σ q0 1) < 6 then (bnd ((gI σ q0 1) * 3) fun v3 =>
bnd (v3 + 0) fun v5 =>
if inb v5 18 = true then (bnd (sI σ (q0 + 1) (Int32.toNatClampNeg v5) x1) fun σ8 =>
bnd (v3 + 1) fun v10 =>
if inb v10 18 = true then (bnd (sI σ8 (q0 + 1) (Int32.toNatClampNeg v10) x2) fun σ13 =>
bnd (v3 + 2) fun v15 =>
if inb v15 18 = true then (bnd (sI σ13 (q0 + 1) (Int32.toNatClampNeg v15) x3) fun σ18 =>
bnd (sI σ18 q0 1 ((gI σ18 q0 1) + 1)) fun σ20 =>
some (true, σ20)) else none) else none) else none) else (some (false, σ)))
noncomputable def f_X5_put (q0 : Nat) (x1 : Int32) (σ : St) : Option (Bool × St) :=
if (gI σ q0 2) < 0 then (some (false, σ)) else (if (gI σ q0 2) < 60 then (bnd (gI σ q0 2) fun v3 =>
if inb v3 60 = true then (bnd (sI σ (q0 + 1) (Int32.toNatClampNeg v3) ((Int32.toInt8 ((Int32.toInt8 x1).toInt32)).toInt32)) fun σ6 =>
bnd (sI σ6 q0 2 ((gI σ6 q0 2) + 1)) fun σ8 =>
some (true, σ8)) else none) else (some (false, σ)))
noncomputable def f_X5_letterAt (q0 : Nat) (x1 : Int32) (σ : St) : Option Int32 :=
bnd (f_X7_isWithin x1 0 ((gI σ q0 2) - 1)) fun v2 =>
if v2 = true then (if 60 ≤ x1 then (some (-1)) else (if inb x1 60 = true then (some (gI σ (q0 + 1) (Int32.toNatClampNeg x1))) else none)) else (some (-1))
noncomputable def f_X5_digitAt (q0 : Nat) (x1 : Int32) (σ : St) : Option Int32 :=
obd (f_X5_letterAt q0 x1 σ) fun v2 =>
bnd (v2 - 48) fun v3 =>
bnd (f_X7_isWithin v3 0 9) fun v6 =>
if v6 = true then (some v3) else (some (-1))
noncomputable def f_X5_parseCells_L18 (q0 : Nat) (x1 : Int32) (rec18 : Int32 → Int32 → Int32 → Int32 → St → Option (Int32 × St)) (x2 : Int32) (x3 : Int32) (x4 : Int32) (x5 : Int32) (σ : St) : Option (Int32 × St) :=
if 8 ≤ x5 then (some (x3, σ)) else (obd (f_X5_digitAt q0 (gI σ q0 3) σ) fun v3 =>
if v3 < x4 then (some (x3, σ)) else (if x1 ≤ v3 then (some (x3, σ)) else (if ((x2 >>> (v3 &&& 31)) &&& 1) = 0 then (bnd (x3 ||| (1 <<< (v3 &&& 31))) fun v7 =>
bnd (v3 + 1) fun v9 =>
bnd (sI σ q0 3 ((gI σ q0 3) + 1)) fun σ11 =>
bnd (x5 + 1) fun v13 =>
rec18 x2 v7 v9 v13 σ11) else (some (x3, σ)))))
noncomputable def f_X5_parseCells (q0 : Nat) (x1 : Int32) (σ : St) : Option (Int32 × St) :=
obd (f_X4_cellsOfFirst (q0 + 2) 6 σ) fun v16 =>
it5 (f_X5_parseCells_L18 q0 x1) sr_fuel v16 0 0 0 σ
noncomputable def f_X5_skip (q0 : Nat) (x1 : Int32) (σ : St) : Option (Bool × St) :=
obd (f_X5_letterAt q0 (gI σ q0 3) σ) fun v2 =>
if v2 = x1 then (bnd (sI σ q0 3 ((gI σ q0 3) + 1)) fun σ4 =>
some (true, σ4)) else (some (false, σ))
noncomputable def f_X5_parseNumber_B56 (q0 : Nat) (x1 : Int32) (x2 : Int32) (x4 : Int32) (σ : St) : Option (Int32 × St) :=
if x2 ≤ x1 then (bnd (sI σ q0 3 ((gI σ q0 3) + x4)) fun σ2 =>
some (x2, σ2)) else (some ((-1), σ))
noncomputable def f_X5_parseNumber_B43 (q0 : Nat) (x1 : Int32) (x2 : Int32) (x3 : Int32) (sx0 : Int32) (σ : St) : Option (Int32 × St) :=
if x3 < 0 then (f_X5_parseNumber_B56 q0 x1 x2 sx0 σ) else (bnd ((10 * x2) + x3) fun v5 =>
f_X5_parseNumber_B56 q0 x1 v5 sx0 σ)
noncomputable def f_X5_parseNumber (q0 : Nat) (x1 : Int32) (σ : St) : Option (Int32 × St) :=
obd (f_X5_digitAt q0 (gI σ q0 3) σ) fun v8 =>
if 0 ≤ v8 then (if v8 = 0 then (if 0 ≤ ((-1) : Int32) then (f_X5_parseNumber_B43 q0 x1 v8 (-1) 2 σ) else (f_X5_parseNumber_B43 q0 x1 v8 (-1) 1 σ)) else (obd (f_X5_digitAt q0 ((gI σ q0 3) + 1) σ) fun v12 =>
if 0 ≤ v12 then (f_X5_parseNumber_B43 q0 x1 v8 v12 2 σ) else (f_X5_parseNumber_B43 q0 x1 v8 v12 1 σ))) else (some ((-1), σ))
noncomputable def f_X5_parseStage (q0 : Nat) (x1 : Int32) (σ : St) : Option (Bool × St) :=
ob2 (f_X5_parseCells q0 x1 σ) fun v2 σ3 =>
if v2 = 0 then (some (false, σ3)) else (ob2 (f_X5_skip q0 58 σ3) fun v6 σ7 =>
if v6 = true then (ob2 (f_X5_parseNumber q0 48 σ7) fun v10 σ11 =>
if v10 < 0 then (some (false, σ11)) else (ob2 (f_X5_skip q0 47 σ11) fun v14 σ15 =>
if v14 = true then (ob2 (f_X5_parseNumber q0 25 σ15) fun v18 σ19 =>
if v18 < 0 then (some (false, σ19)) else (ob2 (f_X5_skip q0 59 σ19) fun v22 σ23 =>
if v22 = true then (ob2 (f_X4_put (q0 + 2) v2 v10 v18 σ23) fun v26 σ27 =>
some (v26, σ27)) else (some (false, σ23)))) else (some (false, σ15)))) else (some (false, σ7)))
noncomputable def f_X5_parse_B48 (q0 : Nat) (x1 : Int32)  (σ : St) : Option (Bool × St) :=
if (gI σ q0 3) < (gI σ q0 2) then (some (false, σ)) else (some (true, σ))
noncomputable def f_X5_parse_L15 (q0 : Nat) (x1 : Int32) (rec15 : Int32 → St → Option (Bool × St)) (x2 : Int32) (σ : St) : Option (Bool × St) :=
if 6 ≤ x2 then (f_X5_parse_B48 q0 x1  σ) else (if (gI σ q0 2) ≤ (gI σ q0 3) then (f_X5_parse_B48 q0 x1  σ) else (ob2 (f_X5_parseStage q0 x1 σ) fun v5 σ6 =>
if v5 = true then (bnd (x2 + 1) fun v8 =>
rec15 v8 σ6) else (some (false, σ6))))
noncomputable def f_X5_parse (q0 : Nat) (x1 : Int32) (σ : St) : Option (Bool × St) :=
bnd (sI σ q0 3 0) fun σ10 =>
bnd (sI σ10 (q0 + 2) 1 0) fun σ12 =>
it2 (f_X5_parse_L15 q0 x1) sr_fuel 0 σ12
noncomputable def f_X7_begin (q0 : Nat) (x1 : Int32) (σ : St) : Int32 × St :=
bnd (f_X7_isWithin x1 1 8) fun v2 =>
if v2 = true then (bnd (gI σ (q0 + 1) 5) fun v4 =>
bnd (f_X1_beginAnew (q0 + 1) x1 σ) fun σ7 =>
(v4, σ7)) else (((-12), σ))
noncomputable def f_X7_setLimit (q0 : Nat) (x1 : Int32) (σ : St) : Int32 × St :=
bnd (f_X7_isWithin x1 0 1000) fun v2 =>
if v2 = true then (bnd (gI σ (q0 + 1) 7) fun v4 =>
bnd (sI σ (q0 + 1) 7 x1) fun σ6 =>
(v4, σ6)) else (((-12), σ))
noncomputable def f_X7_freeze (q0 : Nat) (x1 : Int32) (x2 : Int32) (σ : St) : Option (Int32 × St) :=
bnd (f_X7_isWithin x1 0 167) fun v2 =>
if v2 = true then (bnd (f_X7_isWithin x2 (x1 + 1) 168) fun v5 =>
if v5 = true then (ob2 (f_X2_put ((q0 + 1) + 27) x1 x2 σ) fun v8 σ9 =>
if v8 = true then (some ((gI σ9 ((q0 + 1) + 27) 2), σ9)) else (some ((-14), σ9))) else (some ((-12), σ))) else (some ((-12), σ))
noncomputable def f_X7_thaw (q0 : Nat) (σ : St) : Int32 × St :=
bnd (gI σ ((q0 + 1) + 27) 2) fun v1 =>
bnd (sI σ ((q0 + 1) + 27) 2 0) fun σ3 =>
(v1, σ3)
noncomputable def f_X7_addChange (q0 : Nat) (b1 : Bool) (σ : St) : Option (Int32 × St) :=
ob2 (f_X1_putChange (q0 + 1) b1 σ) fun v2 σ3 =>
if v2 = true then (some (((gI σ3 (q0 + 1) 4) - 1), σ3)) else (some ((-14), σ3))
noncomputable def f_X7_addStage (q0 : Nat) (x1 : Int32) (x2 : Int32) (x3 : Int32) (x4 : Int32) (σ : St) : Option (Int32 × St) :=
obd (f_X1_find (q0 + 1) x1 σ) fun v2 =>
opt v2 (some ((-11), σ)) fun q3 =>
if shC q3 = 1 then (bnd (f_X1_allCells (q0 + 1) σ) fun v6 =>
bnd (f_X7_isWithin x2 1 v6) fun v8 =>
if v8 = true then (bnd (f_X7_isWithin x3 0 48) fun v11 =>
if v11 = true then (bnd (f_X7_isWithin x4 0 25) fun v14 =>
if v14 = true then (if (gI σ q3 5) = 0 then (obd (f_X4_cellsOfFirst (q3 + 1) 6 σ) fun v18 =>
if (v18 &&& x2) = 0 then (ob2 (f_X4_put (q3 + 1) x2 x3 x4 σ) fun v21 σ22 =>
if v21 = true then (some ((gI σ22 (q3 + 1) 1), σ22)) else (some ((-14), σ22))) else (some ((-13), σ))) else (some ((-13), σ))) else (some ((-12), σ))) else (some ((-12), σ))) else (some ((-12), σ))) else none
noncomputable def f_J6_bitCount_0f7a4 (x0 : Int32) : Int32 :=
bnd (x0 - ((((x0).toUInt32 >>> ((1 : Int32).toUInt32 &&& Int32.toUInt32 31)).toInt32) &&& 1431655765)) fun v1 =>
bnd ((v1 &&& 858993459) + ((((v1).toUInt32 >>> ((2 : Int32).toUInt32 &&& Int32.toUInt32 31)).toInt32) &&& 858993459)) fun v3 =>
bnd ((v3 + (((v3).toUInt32 >>> ((4 : Int32).toUInt32 &&& Int32.toUInt32 31)).toInt32)) &&& 252645135) fun v5 =>
bnd (v5 + (((v5).toUInt32 >>> ((8 : Int32).toUInt32 &&& Int32.toUInt32 31)).toInt32)) fun v7 =>
bnd (v7 + (((v7).toUInt32 >>> ((16 : Int32).toUInt32 &&& Int32.toUInt32 31)).toInt32)) fun v9 =>
(v9 &&& 63)
noncomputable def f_X7_putAfter (q0 : Nat) (x1 : Int32) (x2 : Int32) (σ : St) : Option (Int32 × St) :=
obd (f_X1_find (q0 + 1) x1 σ) fun v2 =>
opt v2 (some ((-11), σ)) fun q3 =>
if shC q3 = 1 then (bnd (f_X7_isWithin x2 0 (x1 - 1)) fun v6 =>
if v6 = true then (if (gI σ q3 5) = 0 then (bnd (sI σ q3 4 ((gI σ q3 4) ||| (1 <<< (x2 &&& 31)))) fun σ9 =>
bnd (f_J6_bitCount_0f7a4 (gI σ9 q3 4)) fun v12 =>
some (v12, σ9)) else (some ((-13), σ))) else (some ((-11), σ))) else none
noncomputable def f_X7_changes (q0 : Nat) (σ : St) : Int32 :=
(gI σ (q0 + 1) 4)
noncomputable def f_X7_stage (q0 : Nat) (x1 : Int32) (x2 : Int32) (x3 : Int32) (σ : St) : Option Int32 :=
obd (f_X1_find (q0 + 1) x1 σ) fun v2 =>
opt v2 (some (-11)) fun q3 =>
if shC q3 = 1 then (bnd (f_X7_isWithin x2 0 ((gI σ (q3 + 1) 1) - 1)) fun v6 =>
if v6 = true then (bnd (f_X7_isWithin x3 0 2) fun v9 =>
if v9 = true then (obd (f_X4_number (q3 + 1) x2 x3 σ) fun v12 =>
some v12) else (some (-12))) else (some (-11))) else none
noncomputable def f_X7_append (q0 : Nat) (x1 : Int32) (σ : St) : Option (Int32 × St) :=
bnd (f_X7_isWithin x1 0 127) fun v2 =>
if v2 = true then (ob2 (f_X5_put (q0 + 131) x1 σ) fun v5 σ6 =>
if v5 = true then (some ((gI σ6 (q0 + 131) 2), σ6)) else (some ((-14), σ6))) else (some ((-12), σ))
noncomputable def f_X7_clearText (q0 : Nat) (σ : St) : Int32 × St :=
bnd (gI σ (q0 + 131) 2) fun v1 =>
bnd (sI σ (q0 + 131) 2 0) fun σ3 =>
(v1, σ3)
noncomputable def f_X7_faultPosition (q0 : Nat) (σ : St) : Option (Int32 × St) :=
ob2 (f_X5_parse (q0 + 131) (gI σ (q0 + 1) 5) σ) fun v2 σ3 =>
if v2 = true then (some ((-15), σ3)) else (some ((gI σ3 (q0 + 131) 3), σ3))
noncomputable def f_X7_read (q0 : Nat) (x1 : Int32) (σ : St) : Option (Int32 × St) :=
obd (f_X1_find (q0 + 1) x1 σ) fun v2 =>
opt v2 (some ((-11), σ)) fun q3 =>
if shC q3 = 1 then (if (gI σ q3 5) = 0 then (ob2 (f_X5_parse (q0 + 131) (gI σ (q0 + 1) 5) σ) fun v7 σ8 =>
if v7 = true then (bnd (f_X4_copyFrom (q3 + 1) ((q0 + 131) + 2) σ8) fun σ11 =>
some ((gI σ11 (q3 + 1) 1), σ11)) else (some ((-13), σ8))) else (some ((-13), σ))) else none
noncomputable def f_X7_start (q0 : Nat) (x1 : Int32) (σ : St) : Option (Int32 × St) :=
obd (f_X1_find (q0 + 1) x1 σ) fun v2 =>
opt v2 (some ((-11), σ)) fun q3 =>
if shC q3 = 1 then (if (gI σ q3 5) = 0 then (if (gI σ (q3 + 1) 1) = 0 then (some ((-13), σ)) else (bnd (sI σ q3 5 1) fun σ7 =>
some ((gI σ7 (q3 + 1) 1), σ7))) else (some ((-13), σ))) else none
noncomputable def f_X7_move (q0 : Nat) (x1 : Int32) (x2 : Int32) (x3 : Int32) (x4 : Int32) (σ : St) : Option (Int32 × St) :=
obd (f_X1_find (q0 + 1) x1 σ) fun v2 =>
opt v2 (some ((-11), σ)) fun q3 =>
if shC q3 = 1 then (if ((x2 >>> ((gI σ q3 5) &&& 31)) &&& 1) = 0 then (some ((-13), σ)) else (obd (f_X1_become (q0 + 1) q3 x3 x4 σ) fun σ7 =>
some ((gI σ7 q3 6), σ7))) else none
noncomputable def f_X7_hold (q0 : Nat) (x1 : Int32) (σ : St) : Option (Int32 × St) :=
ob2 (f_X7_move q0 x1 2 2 6 σ) fun v2 σ3 =>
some (v2, σ3)
noncomputable def f_X7_resume (q0 : Nat) (x1 : Int32) (σ : St) : Option (Int32 × St) :=
ob2 (f_X7_move q0 x1 4 1 7 σ) fun v2 σ3 =>
some (v2, σ3)
noncomputable def f_X7_turnBack (q0 : Nat) (x1 : Int32) (σ : St) : Option (Int32 × St) :=
ob2 (f_X7_move q0 x1 14 4 3 σ) fun v2 σ3 =>
some (v2, σ3)
noncomputable def f_X7_report (q0 : Nat) (x1 : Int32) (x2 : Int32) (x3 : Int32) (σ : St) : Option (Int32 × St) :=
bnd (f_X1_isCell (q0 + 1) x1 σ) fun v2 =>
if v2 = true then (bnd (f_X7_isWithin x2 0 9) fun v5 =>
if v5 = true then (bnd (f_X7_isWithin x3 0 9) fun v8 =>
if v8 = true then (ob2 (f_X1_takeProbes (q0 + 1) x1 x2 x3 σ) fun v11 σ12 =>
some (v11, σ12)) else (some ((-12), σ))) else (some ((-12), σ))) else (some ((-11), σ))
noncomputable def f_X7_pass_L26 (q0 : Nat) (x1 : Int32) (rec26 : Int32 → Int32 → St → Option (Int32 × St)) (x2 : Int32) (x3 : Int32) (σ : St) : Option (Int32 × St) :=
if x1 ≤ x3 then (some (((gI σ ((q0 + 1) + 30) 3) - x2), σ)) else (obd (f_X1_passHour (q0 + 1) σ) fun σ3 =>
bnd (x3 + 1) fun v4 =>
rec26 x2 v4 σ3)
noncomputable def f_X7_pass (q0 : Nat) (x1 : Int32) (σ : St) : Option (Int32 × St) :=
bnd (f_X7_isWithin x1 1 100) fun v7 =>
if v7 = true then (bnd (gI σ ((q0 + 1) + 30) 3) fun v9 =>
it3 (f_X7_pass_L26 q0 x1) sr_fuel v9 0 σ) else (some ((-12), σ))
noncomputable def f_X7_time (q0 : Nat) (σ : St) : Int32 :=
(gI σ (q0 + 1) 6)
noncomputable def f_X7_change (q0 : Nat) (x1 : Int32) (x2 : Int32) (σ : St) : Option Int32 :=
obd (f_X1_find (q0 + 1) x1 σ) fun v2 =>
opt v2 (some (-11)) fun q3 =>
if shC q3 = 1 then (if x2 = 0 then (some (gI σ q3 5)) else if x2 = 1 then (some (gI σ (q3 + 1) 1)) else if x2 = 2 then (some (gI σ q3 6)) else if x2 = 3 then (obd (f_X0_hoursSinceLatest q3 (gI σ (q0 + 1) 6) σ) fun v10 =>
some v10) else if x2 = 4 then (obd (f_X1_reasonOf (q0 + 1) q3 σ) fun v13 =>
some v13) else if x2 = 5 then (some (gI σ q3 4)) else if x2 = 6 then (if (gB σ q3 7) = true then (some 1) else (some 0)) else (some (-12))) else none
noncomputable def f_X7_probes (q0 : Nat) (x1 : Int32) (x2 : Int32) (σ : St) : Option Int32 :=
obd (f_X1_find (q0 + 1) x1 σ) fun v2 =>
opt v2 (some (-11)) fun q3 =>
if shC q3 = 1 then (if x2 = 0 then (some (gI σ (q3 + 3) 0)) else if x2 = 1 then (some (gI σ (q3 + 3) 1)) else if x2 = 2 then (some (gI σ (q3 + 3) 2)) else if x2 = 3 then (some (gI σ (q3 + 3) 3)) else (some (-12))) else none
noncomputable def f_X7_chance (q0 : Nat) (x1 : Int32) (b2 : Bool) (σ : St) : Option Int64 :=
obd (f_X1_find (q0 + 1) x1 σ) fun v2 =>
opt v2 (some (-11)) fun q3 =>
if shC q3 = 1 then (if b2 = true then (some (gL σ (q3 + 3) 5)) else (some (gL σ (q3 + 3) 4))) else none
noncomputable def f_X7_has (q0 : Nat) (x1 : Int32) (σ : St) : Option Int32 :=
bnd (f_X1_isCell (q0 + 1) x1 σ) fun v2 =>
if v2 = true then (obd (f_X1_changesOf (q0 + 1) x1 σ) fun v5 =>
some v5) else (some (-11))
noncomputable def f_X7_isFrozen (q0 : Nat) (x1 : Int32) (σ : St) : Option Int32 :=
bnd (f_X7_isWithin x1 0 167) fun v2 =>
if v2 = true then (obd (f_X2_covers ((q0 + 1) + 27) x1 σ) fun v5 =>
if v5 = true then (some 1) else (some 0)) else (some (-12))
noncomputable def f_X7_forecast_L47 (q0 : Nat) (x1 : Int32) (rec47 : Int32 → St → Option (Int32 × St)) (x3 : Int32) (σ : St) : Option (Int32 × St) :=
if 400 < x3 then (some ((-15), σ)) else (obd (f_X1_isOver (q0 + 33) x1 σ) fun v3 =>
if v3 = true then (some (x3, σ)) else (obd (f_X1_passHour (q0 + 33) σ) fun σ6 =>
bnd (x3 + 1) fun v7 =>
rec47 v7 σ6))
noncomputable def f_X7_forecast (q0 : Nat) (x1 : Int32) (σ : St) : Option (Int32 × St) :=
obd (f_X1_find (q0 + 1) x1 σ) fun v10 =>
opt v10 (some ((-11), σ)) fun q11 =>
if shC q11 = 1 then (if (gI σ q11 5) = 0 then (some ((-15), σ)) else (if (gI σ q11 5) = 2 then (some ((-15), σ)) else (obd (f_X1_copyFrom (q0 + 33) (q0 + 1) σ) fun σ16 =>
it2 (f_X7_forecast_L47 q0 x1) sr_fuel 0 σ16))) else none
noncomputable def f_X7_entries (q0 : Nat) (σ : St) : Int32 :=
(gI σ ((q0 + 1) + 30) 2)
noncomputable def f_X7_entry (q0 : Nat) (x1 : Int32) (x2 : Int32) (σ : St) : Option Int32 :=
bnd (f_X7_isWithin x1 0 ((gI σ ((q0 + 1) + 30) 2) - 1)) fun v2 =>
if v2 = true then (bnd (f_X7_isWithin x2 0 3) fun v5 =>
if v5 = true then (obd (f_X3_number ((q0 + 1) + 30) x1 x2 σ) fun v8 =>
some v8) else (some (-12))) else (some (-11))
noncomputable def f_X7_count (q0 : Nat) (x1 : Int32) (x2 : Int32) (σ : St) : Option Int32 :=
bnd (f_X7_isWithin x1 1 7) fun v2 =>
if v2 = true then (bnd (f_X7_isWithin x2 (-1) ((gI σ (q0 + 1) 4) - 1)) fun v5 =>
if v5 = true then (obd (f_X3_countOf ((q0 + 1) + 30) x1 x2 σ) fun v8 =>
some v8) else (some (-11))) else (some (-12))
noncomputable def f_X7_save (q0 : Nat) (x1 : Int32) (σ : St) : Option (Int32 × St) :=
bnd (f_X7_isWithin x1 0 1) fun v2 =>
if v2 = true then (if inb x1 2 = true then (obd (f_X1_copyFrom ((q0 + 65) + 2 + 32 * (Int32.toNatClampNeg x1)) (q0 + 1) σ) fun σ6 =>
if inb x1 2 = true then (bnd (sB σ6 (q0 + 66) (Int32.toNatClampNeg x1) true) fun σ8 =>
some ((gI σ8 (q0 + 1) 6), σ8)) else none) else none) else (some ((-11), σ))
noncomputable def f_X7_restore (q0 : Nat) (x1 : Int32) (σ : St) : Option (Int32 × St) :=
bnd (f_X7_isWithin x1 0 1) fun v2 =>
if v2 = true then (if inb x1 2 = true then (if (gB σ (q0 + 66) (Int32.toNatClampNeg x1)) = true then (if inb x1 2 = true then (obd (f_X1_copyFrom (q0 + 1) ((q0 + 65) + 2 + 32 * (Int32.toNatClampNeg x1)) σ) fun σ8 =>
some ((gI σ8 (q0 + 1) 6), σ8)) else none) else (some ((-13), σ))) else none) else (some ((-11), σ))
noncomputable def f_X7_mix (w0 : Int64) (w2 : Int64) : Int64 :=
((31 * w0) + w2)
noncomputable def f_X7_mixChange_L37 (σ : St) (q0 : Nat) (w1 : Int64) (x3 : Int32) (rec37 : Int64 → Int32 → Option Int64) (w4 : Int64) (x6 : Int32) : Option Int64 :=
if 4 ≤ x6 then (obd (f_X7_chance q0 x3 false σ) fun v3 =>
bnd (f_X7_mix w4 v3) fun v5 =>
obd (f_X7_chance q0 x3 true σ) fun v7 =>
bnd (f_X7_mix v5 v7) fun v9 =>
some v9) else (obd (f_X7_probes q0 x3 x6 σ) fun v11 =>
bnd (f_X7_mix w4 (Int32.toInt64 v11)) fun v13 =>
bnd (x6 + 1) fun v14 =>
rec37 v13 v14)
noncomputable def f_X7_mixChange_L6 (σ : St) (q0 : Nat) (w1 : Int64) (x3 : Int32) (rec6 : Int64 → Int32 → Option Int64) (w4 : Int64) (x6 : Int32) : Option Int64 :=
if 7 ≤ x6 then (it2 (f_X7_mixChange_L37 σ q0 w1 x3) sr_fuel w4 0) else (obd (f_X7_change q0 x3 x6 σ) fun v18 =>
bnd (f_X7_mix w4 (Int32.toInt64 v18)) fun v20 =>
bnd (x6 + 1) fun v21 =>
rec6 v20 v21)
noncomputable def f_X7_mixChange (q0 : Nat) (w1 : Int64) (x3 : Int32) (σ : St) : Option Int64 :=
it2 (f_X7_mixChange_L6 σ q0 w1 x3) sr_fuel w1 0
noncomputable def f_X7_checksum_L124 (σ : St) (q0 : Nat) (rec107 : Int64 → Int32 → Option Int64) (rec124 : Int64 → Int32 → Int32 → Option Int64) (w1 : Int64) (x3 : Int32) (x4 : Int32) : Option Int64 :=
if 4 ≤ x4 then (bnd (x3 + 1) fun v2 =>
rec107 w1 v2) else (obd (f_X3_number ((q0 + 1) + 30) x3 x4 σ) fun v5 =>
bnd (f_X7_mix w1 (Int32.toInt64 v5)) fun v7 =>
bnd (x4 + 1) fun v8 =>
rec124 v7 x3 v8)
noncomputable def f_X7_checksum_L107 (σ : St) (q0 : Nat) (rec107 : Int64 → Int32 → Option Int64) (w1 : Int64) (x3 : Int32) : Option Int64 :=
if (gI σ ((q0 + 1) + 30) 2) ≤ x3 then (some w1) else (it3 (f_X7_checksum_L124 σ q0 rec107) sr_fuel w1 x3 0)
noncomputable def f_X7_checksum_L58 (σ : St) (q0 : Nat) (rec58 : Int64 → Int32 → Option Int64) (w1 : Int64) (x3 : Int32) : Option Int64 :=
if (gI σ (q0 + 1) 5) ≤ x3 then (bnd (f_X7_mix w1 (Int32.toInt64 (gI σ ((q0 + 1) + 30) 2))) fun v13 =>
it2 (f_X7_checksum_L107 σ q0) sr_fuel v13 0) else (obd (f_X1_changesOf (q0 + 1) x3 σ) fun v15 =>
bnd (f_X7_mix w1 (Int32.toInt64 v15)) fun v17 =>
bnd (x3 + 1) fun v18 =>
rec58 v17 v18)
noncomputable def f_X7_checksum_L32 (σ : St) (q0 : Nat) (rec32 : Int64 → Int32 → Option Int64) (w1 : Int64) (x3 : Int32) : Option Int64 :=
if (gI σ (q0 + 1) 4) ≤ x3 then (it2 (f_X7_checksum_L58 σ q0) sr_fuel w1 0) else (obd (f_X7_mixChange q0 w1 x3 σ) fun v22 =>
bnd (x3 + 1) fun v23 =>
rec32 v22 v23)
noncomputable def f_X7_checksum (q0 : Nat) (σ : St) : Option Int64 :=
bnd (f_X7_mix 79 (Int32.toInt64 (gI σ (q0 + 1) 6))) fun v26 =>
bnd (f_X7_mix v26 (Int32.toInt64 (gI σ (q0 + 1) 4))) fun v28 =>
it2 (f_X7_checksum_L32 σ q0) sr_fuel v28 0
noncomputable def f_X8_in (x0 : Int32) (x1 : Int32) (x2 : Int32) : Bool :=
if x0 < x1 then (false) else (if x2 < x0 then (false) else (true))
noncomputable def f_X8_at (x0 : Int32) (x1 : Int32) : Int32 :=
((92 + (33 * x0)) + x1)
noncomputable def f_X8_stageAt (x0 : Int32) (x1 : Int32) (x2 : Int32) : Int32 :=
bnd (f_X8_at x0 ((9 + (4 * x1)) + x2)) fun v2 =>
v2
noncomputable def f_X8_isChange (q0 : Nat) (x1 : Int32) (σ : St) : Bool :=
bnd (f_X8_in x1 0 ((gI σ (q0 + 1) (Int32.toNatClampNeg 10)) - 1)) fun v2 =>
v2
noncomputable def f_X8_isCell (q0 : Nat) (x1 : Int32) (σ : St) : Bool :=
bnd (f_X8_in x1 0 ((gI σ (q0 + 1) (Int32.toNatClampNeg 0)) - 1)) fun v2 =>
v2
noncomputable def f_X8_puts (q0 : Nat) (x1 : Int32) (x2 : Int32) (σ : St) : Option (Int32 × St) :=
if inb x1 257 = true then (bnd (gI σ (q0 + 1) (Int32.toNatClampNeg x1)) fun v2 =>
if inb x1 257 = true then (bnd (sI σ (q0 + 1) (Int32.toNatClampNeg x1) x2) fun σ5 =>
some (v2, σ5)) else none) else none
noncomputable def f_X8_begin_L30 (q0 : Nat) (x1 : Int32) (rec30 : Int32 → Int32 → Int32 → St → Option (Int32 × St)) (x2 : Int32) (x3 : Int32) (x4 : Int32) (σ : St) : Option (Int32 × St) :=
if 257 ≤ x4 then (bnd (sI σ (q0 + 1) (Int32.toNatClampNeg 0) x1) fun σ2 =>
bnd (sI σ2 (q0 + 1) (Int32.toNatClampNeg 2) x2) fun σ4 =>
some (x3, σ4)) else (if inb x4 257 = true then (bnd (sI σ (q0 + 1) (Int32.toNatClampNeg x4) 0) fun σ7 =>
bnd (x4 + 1) fun v9 =>
rec30 x2 x3 v9 σ7) else none)
noncomputable def f_X8_begin (q0 : Nat) (x1 : Int32) (σ : St) : Option (Int32 × St) :=
bnd (f_X8_in x1 1 8) fun v12 =>
if v12 = true then (bnd (gI σ (q0 + 1) (Int32.toNatClampNeg 2)) fun v14 =>
bnd (gI σ (q0 + 1) (Int32.toNatClampNeg 0)) fun v16 =>
it4 (f_X8_begin_L30 q0 x1) sr_fuel v14 v16 0 σ) else (some ((-12), σ))
noncomputable def f_X8_setLimit (q0 : Nat) (x1 : Int32) (σ : St) : Option (Int32 × St) :=
bnd (f_X8_in x1 0 1000) fun v2 =>
if v2 = true then (ob2 (f_X8_puts q0 2 x1 σ) fun v5 σ6 =>
some (v5, σ6)) else (some ((-12), σ))
noncomputable def f_X8_freeze (q0 : Nat) (x1 : Int32) (x2 : Int32) (σ : St) : Option (Int32 × St) :=
bnd (f_X8_in x1 0 167) fun v2 =>
if v2 = true then (bnd (f_X8_in x2 (x1 + 1) 168) fun v5 =>
if v5 = true then (if (gI σ (q0 + 1) (Int32.toNatClampNeg 3)) = 3 then (some ((-14), σ)) else (bnd (4 + (2 * (gI σ (q0 + 1) (Int32.toNatClampNeg 3)))) fun v8 =>
if inb v8 257 = true then (bnd (sI σ (q0 + 1) (Int32.toNatClampNeg v8) x1) fun σ11 =>
bnd ((4 + (2 * (gI σ11 (q0 + 1) (Int32.toNatClampNeg 3)))) + 1) fun v13 =>
if inb v13 257 = true then (bnd (sI σ11 (q0 + 1) (Int32.toNatClampNeg v13) x2) fun σ16 =>
bnd (sI σ16 (q0 + 1) (Int32.toNatClampNeg 3) ((gI σ16 (q0 + 1) (Int32.toNatClampNeg 3)) + 1)) fun σ18 =>
some ((gI σ18 (q0 + 1) (Int32.toNatClampNeg 3)), σ18)) else none) else none)) else (some ((-12), σ))) else (some ((-12), σ))
noncomputable def f_X8_thaw (q0 : Nat) (σ : St) : Option (Int32 × St) :=
ob2 (f_X8_puts q0 3 0 σ) fun v2 σ3 =>
some (v2, σ3)
noncomputable def f_X8_addChange_B65 (q0 : Nat) (b1 : Bool) (x2 : Int32) (sq0 : Nat) (sx1 : Int32) (sb2 : Bool) (σ : St) : Option (Int32 × St) :=
if inb sx1 257 = true then (bnd (sI σ sq0 (Int32.toNatClampNeg sx1) (bI sb2)) fun σ2 =>
bnd (sI σ2 (q0 + 1) (Int32.toNatClampNeg 10) ((gI σ2 (q0 + 1) (Int32.toNatClampNeg 10)) + 1)) fun σ4 =>
some (x2, σ4)) else none
noncomputable def f_X8_addChange_L24 (q0 : Nat) (b1 : Bool) (rec24 : Int32 → Int32 → St → Option (Int32 × St)) (x2 : Int32) (x3 : Int32) (σ : St) : Option (Int32 × St) :=
if 33 ≤ x3 then (bnd (f_X8_at x2 0) fun v8 =>
if b1 = true then (f_X8_addChange_B65 q0 b1 x2 (q0 + 1) v8 true σ) else (f_X8_addChange_B65 q0 b1 x2 (q0 + 1) v8 false σ)) else (bnd (f_X8_at x2 x3) fun v11 =>
if inb v11 257 = true then (bnd (sI σ (q0 + 1) (Int32.toNatClampNeg v11) 0) fun σ13 =>
bnd (x3 + 1) fun v15 =>
rec24 x2 v15 σ13) else none)
noncomputable def f_X8_addChange (q0 : Nat) (b1 : Bool) (σ : St) : Option (Int32 × St) :=
if (gI σ (q0 + 1) (Int32.toNatClampNeg 10)) = 5 then (some ((-14), σ)) else (bnd (gI σ (q0 + 1) (Int32.toNatClampNeg 10)) fun v18 =>
it3 (f_X8_addChange_L24 q0 b1) sr_fuel v18 0 σ)
noncomputable def f_X8_cellsOf_L5 (σ : St) (q0 : Nat) (x1 : Int32) (x2 : Int32) (rec5 : Int32 → Int32 → Option Int32) (x3 : Int32) (x4 : Int32) : Option Int32 :=
if x2 ≤ x4 then (some x3) else (bnd (f_X8_stageAt x1 x4 0) fun v3 =>
if inb v3 257 = true then (bnd (x3 ||| (gI σ (q0 + 1) (Int32.toNatClampNeg v3))) fun v5 =>
bnd (x4 + 1) fun v7 =>
rec5 v5 v7) else none)
noncomputable def f_X8_cellsOf (q0 : Nat) (x1 : Int32) (x2 : Int32) (σ : St) : Option Int32 :=
it2 (f_X8_cellsOf_L5 σ q0 x1 x2) sr_fuel 0 0
noncomputable def f_X8_adds (q0 : Nat) (x1 : Int32) (x2 : Int32) (x3 : Int32) (x4 : Int32) (σ : St) : Option St :=
bnd (f_X8_at x1 2) fun v2 =>
if inb v2 257 = true then (bnd (gI σ (q0 + 1) (Int32.toNatClampNeg v2)) fun v4 =>
bnd (f_X8_stageAt x1 v4 0) fun v7 =>
if inb v7 257 = true then (bnd (sI σ (q0 + 1) (Int32.toNatClampNeg v7) x2) fun σ9 =>
bnd (f_X8_stageAt x1 v4 1) fun v12 =>
if inb v12 257 = true then (bnd (sI σ9 (q0 + 1) (Int32.toNatClampNeg v12) x3) fun σ14 =>
bnd (f_X8_stageAt x1 v4 2) fun v17 =>
if inb v17 257 = true then (bnd (sI σ14 (q0 + 1) (Int32.toNatClampNeg v17) x4) fun σ19 =>
bnd (f_X8_stageAt x1 v4 3) fun v22 =>
if inb v22 257 = true then (bnd (sI σ19 (q0 + 1) (Int32.toNatClampNeg v22) 0) fun σ24 =>
bnd (f_X8_at x1 2) fun v27 =>
if inb v27 257 = true then (if inb v27 257 = true then (bnd (sI σ24 (q0 + 1) (Int32.toNatClampNeg v27) ((gI σ24 (q0 + 1) (Int32.toNatClampNeg v27)) + 1)) fun σ30 =>
some σ30) else none) else none) else none) else none) else none) else none) else none
noncomputable def f_X8_addStage (q0 : Nat) (x1 : Int32) (x2 : Int32) (x3 : Int32) (x4 : Int32) (σ : St) : Option (Int32 × St) :=
bnd (f_X8_isChange q0 x1 σ) fun v2 =>
if v2 = true then (bnd (f_X8_in x2 1 ((1 <<< ((gI σ (q0 + 1) (Int32.toNatClampNeg 0)) &&& 31)) - 1)) fun v5 =>
if v5 = true then (bnd (f_X8_in x3 0 48) fun v8 =>
if v8 = true then (bnd (f_X8_in x4 0 25) fun v11 =>
if v11 = true then (bnd (f_X8_at x1 2) fun v14 =>
if inb v14 257 = true then (bnd (gI σ (q0 + 1) (Int32.toNatClampNeg v14)) fun v16 =>
bnd (f_X8_at x1 1) fun v19 =>
if inb v19 257 = true then (if (gI σ (q0 + 1) (Int32.toNatClampNeg v19)) = 0 then (obd (f_X8_cellsOf q0 x1 v16 σ) fun v23 =>
if (v23 &&& x2) = 0 then (if v16 = 6 then (some ((-14), σ)) else (obd (f_X8_adds q0 x1 x2 x3 x4 σ) fun σ27 =>
some ((v16 + 1), σ27))) else (some ((-13), σ))) else (some ((-13), σ))) else none) else none) else (some ((-12), σ))) else (some ((-12), σ))) else (some ((-12), σ))) else (some ((-11), σ))
noncomputable def f_X8_size_L4 (x0 : Int32) (rec4 : Int32 → Int32 → Option Int32) (x1 : Int32) (x2 : Int32) : Option Int32 :=
if x2 = 0 then (some x1) else (bnd (x1 + 1) fun v2 =>
bnd (x2 &&& (x2 - 1)) fun v4 =>
rec4 v2 v4)
noncomputable def f_X8_size (x0 : Int32) : Option Int32 :=
it2 (f_X8_size_L4 x0) sr_fuel 0 x0
noncomputable def f_X8_putAfter (q0 : Nat) (x1 : Int32) (x2 : Int32) (σ : St) : Option (Int32 × St) :=
bnd (f_X8_isChange q0 x1 σ) fun v2 =>
if v2 = true then (bnd (f_X8_in x2 0 (x1 - 1)) fun v5 =>
if v5 = true then (bnd (f_X8_at x1 1) fun v8 =>
if inb v8 257 = true then (if (gI σ (q0 + 1) (Int32.toNatClampNeg v8)) = 0 then (bnd (f_X8_at x1 4) fun v12 =>
if inb v12 257 = true then (if inb v12 257 = true then (bnd (sI σ (q0 + 1) (Int32.toNatClampNeg v12) ((gI σ (q0 + 1) (Int32.toNatClampNeg v12)) ||| (1 <<< (x2 &&& 31)))) fun σ15 =>
bnd (f_X8_at x1 4) fun v18 =>
if inb v18 257 = true then (obd (f_X8_size (gI σ15 (q0 + 1) (Int32.toNatClampNeg v18))) fun v21 =>
some (v21, σ15)) else none) else none) else none) else (some ((-13), σ))) else none) else (some ((-11), σ))) else (some ((-11), σ))
noncomputable def f_X8_changes (q0 : Nat) (σ : St) : Int32 :=
(gI σ (q0 + 1) (Int32.toNatClampNeg 10))
noncomputable def f_X8_stage (q0 : Nat) (x1 : Int32) (x2 : Int32) (x3 : Int32) (σ : St) : Option Int32 :=
bnd (f_X8_isChange q0 x1 σ) fun v2 =>
if v2 = true then (bnd (f_X8_at x1 2) fun v5 =>
if inb v5 257 = true then (bnd (f_X8_in x2 0 ((gI σ (q0 + 1) (Int32.toNatClampNeg v5)) - 1)) fun v8 =>
if v8 = true then (bnd (f_X8_in x3 0 2) fun v11 =>
if v11 = true then (bnd (f_X8_stageAt x1 x2 x3) fun v14 =>
if inb v14 257 = true then (some (gI σ (q0 + 1) (Int32.toNatClampNeg v14))) else none) else (some (-12))) else (some (-11))) else none) else (some (-11))
noncomputable def f_X8_append (q0 : Nat) (x1 : Int32) (σ : St) : Option (Int32 × St) :=
bnd (f_X8_in x1 0 127) fun v2 =>
if v2 = true then (if (gI σ q0 5) = 60 then (some ((-14), σ)) else (bnd (gI σ q0 5) fun v5 =>
if inb v5 60 = true then (bnd (sI σ (q0 + 5) (Int32.toNatClampNeg v5) x1) fun σ8 =>
bnd (sI σ8 q0 5 ((gI σ8 q0 5) + 1)) fun σ10 =>
some ((gI σ10 q0 5), σ10)) else none)) else (some ((-12), σ))
noncomputable def f_X8_clearText (q0 : Nat) (σ : St) : Int32 × St :=
bnd (gI σ q0 5) fun v1 =>
bnd (sI σ q0 5 0) fun σ3 =>
(v1, σ3)
noncomputable def f_X8_here (q0 : Nat) (σ : St) : Option Int32 :=
if (gI σ q0 5) ≤ (gI σ q0 8) then (some (-1)) else (bnd (gI σ q0 8) fun v2 =>
if inb v2 60 = true then (some (gI σ (q0 + 5) (Int32.toNatClampNeg v2))) else none)
noncomputable def f_X8_takes_B13 (q0 : Nat) (x1 : Int32) (sb0 : Bool) (σ : St) : Option (Bool × St) :=
if sb0 = true then (bnd (sI σ q0 8 ((gI σ q0 8) + 1)) fun σ4 =>
some (sb0, σ4)) else (bnd (sI σ q0 8 ((gI σ q0 8) + 0)) fun σ2 =>
some (sb0, σ2))
noncomputable def f_X8_takes (q0 : Nat) (x1 : Int32) (σ : St) : Option (Bool × St) :=
obd (f_X8_here q0 σ) fun v7 =>
if v7 = x1 then (f_X8_takes_B13 q0 x1 true σ) else (f_X8_takes_B13 q0 x1 false σ)
noncomputable def f_X8_digit (q0 : Nat) (σ : St) : Option Int32 :=
obd (f_X8_here q0 σ) fun v2 =>
bnd (f_X8_in v2 48 57) fun v4 =>
if v4 = true then (obd (f_X8_here q0 σ) fun v7 =>
some (v7 - 48)) else (some (-1))
noncomputable def f_X8_number_B85 (q0 : Nat) (x1 : Int32) (x2 : Int32) (sb0 : Bool) (σ : St) : Option (Bool × St) :=
if sb0 = true then (bnd (sI σ q0 8 (gI σ q0 8)) fun σ4 =>
some (sb0, σ4)) else (bnd (sI σ q0 8 x2) fun σ2 =>
some (sb0, σ2))
noncomputable def f_X8_number_B72 (q0 : Nat) (x1 : Int32) (x2 : Int32) (σ : St) : Option (Bool × St) :=
if x1 < (gI σ q0 11) then (f_X8_number_B85 q0 x1 x2 false σ) else (f_X8_number_B85 q0 x1 x2 true σ)
noncomputable def f_X8_number (q0 : Nat) (x1 : Int32) (σ : St) : Option (Bool × St) :=
bnd (gI σ q0 8) fun v7 =>
obd (f_X8_digit q0 σ) fun v10 =>
if 0 ≤ v10 then (obd (f_X8_digit q0 σ) fun v13 =>
bnd (sI σ q0 11 v13) fun σ14 =>
bnd (sI σ14 q0 8 ((gI σ14 q0 8) + 1)) fun σ16 =>
if (gI σ16 q0 11) ≤ 0 then (f_X8_number_B72 q0 x1 v7 σ16) else (obd (f_X8_digit q0 σ16) fun v20 =>
if v20 < 0 then (f_X8_number_B72 q0 x1 v7 σ16) else (obd (f_X8_digit q0 σ16) fun v23 =>
bnd (sI σ16 q0 11 ((10 * (gI σ16 q0 11)) + v23)) fun σ24 =>
bnd (sI σ24 q0 8 ((gI σ24 q0 8) + 1)) fun σ26 =>
f_X8_number_B72 q0 x1 v7 σ26))) else (some (false, σ))
noncomputable def f_X8_cells_L4 (q0 : Nat) (x1 : Int32) (rec4 : Int32 → Int32 → St → Option (Bool × St)) (x2 : Int32) (x3 : Int32) (σ : St) : Option (Bool × St) :=
obd (f_X8_digit q0 σ) fun v2 =>
if v2 < 0 then (bnd (sI σ q0 11 x2) fun σ4 =>
if x2 = 0 then (some (false, σ4)) else (some (true, σ4))) else (obd (f_X8_digit q0 σ) fun v8 =>
if v8 ≤ x3 then (some (false, σ)) else (bnd (f_X8_isCell q0 v8 σ) fun v11 =>
if v11 = true then (if ((x1 >>> (v8 &&& 31)) &&& 1) = 1 then (some (false, σ)) else (bnd (x2 ||| (1 <<< (v8 &&& 31))) fun v14 =>
bnd (sI σ q0 8 ((gI σ q0 8) + 1)) fun σ16 =>
rec4 v14 v8 σ16)) else (some (false, σ))))
noncomputable def f_X8_cells (q0 : Nat) (x1 : Int32) (σ : St) : Option (Bool × St) :=
it3 (f_X8_cells_L4 q0 x1) sr_fuel 0 (-1) σ
noncomputable def f_X8_isStage (q0 : Nat) (x1 : Int32) (σ : St) : Option (Bool × St) :=
bnd (3 * (gI σ q0 10)) fun v1 =>
if (gI σ q0 10) = 6 then (some (false, σ)) else (ob2 (f_X8_cells q0 x1 σ) fun v5 σ6 =>
if v5 = true then (if inb v1 18 = true then (bnd (sI σ6 (q0 + 6) (Int32.toNatClampNeg v1) (gI σ6 q0 11)) fun σ9 =>
ob2 (f_X8_takes q0 58 σ9) fun v12 σ13 =>
if v12 = true then (ob2 (f_X8_number q0 48 σ13) fun v16 σ17 =>
if v16 = true then (bnd (v1 + 1) fun v19 =>
if inb v19 18 = true then (bnd (sI σ17 (q0 + 6) (Int32.toNatClampNeg v19) (gI σ17 q0 11)) fun σ22 =>
ob2 (f_X8_takes q0 47 σ22) fun v25 σ26 =>
if v25 = true then (ob2 (f_X8_number q0 25 σ26) fun v29 σ30 =>
if v29 = true then (bnd (v1 + 2) fun v32 =>
if inb v32 18 = true then (bnd (sI σ30 (q0 + 6) (Int32.toNatClampNeg v32) (gI σ30 q0 11)) fun σ35 =>
bnd (sI σ35 q0 10 ((gI σ35 q0 10) + 1)) fun σ37 =>
ob2 (f_X8_takes q0 59 σ37) fun v40 σ41 =>
some (v40, σ41)) else none) else (some (false, σ30))) else (some (false, σ26))) else none) else (some (false, σ17))) else (some (false, σ13))) else none) else (some (false, σ6)))
noncomputable def f_X8_isText_L14 (q0 : Nat) (rec14 : Int32 → Bool → St → Option (Bool × St)) (x1 : Int32) (b2 : Bool) (σ : St) : Option (Bool × St) :=
if b2 = true then (if (gI σ q0 5) ≤ (gI σ q0 8) then (some (b2, σ)) else (ob2 (f_X8_isStage q0 x1 σ) fun v4 σ5 =>
if v4 = true then (bnd ((3 * (gI σ5 q0 10)) - 3) fun v9 =>
if inb v9 18 = true then (bnd (x1 ||| (gI σ5 (q0 + 6) (Int32.toNatClampNeg v9))) fun v12 =>
rec14 v12 v4 σ5) else none) else (bnd (x1 ||| 0) fun v7 =>
rec14 v7 v4 σ5))) else (some (b2, σ))
noncomputable def f_X8_isText (q0 : Nat) (σ : St) : Option (Bool × St) :=
bnd (sI σ q0 8 0) fun σ14 =>
bnd (sI σ14 q0 10 0) fun σ16 =>
it3 (f_X8_isText_L14 q0) sr_fuel 0 true σ16
noncomputable def f_X8_faultPosition (q0 : Nat) (σ : St) : Option (Int32 × St) :=
ob2 (f_X8_isText q0 σ) fun v2 σ3 =>
if v2 = true then (some ((-15), σ3)) else (some ((gI σ3 q0 8), σ3))
noncomputable def f_X8_read_L47 (q0 : Nat) (x1 : Int32) (rec47 : Int32 → St → Option (Int32 × St)) (x2 : Int32) (σ : St) : Option (Int32 × St) :=
if (gI σ q0 10) ≤ x2 then (some ((gI σ q0 10), σ)) else (bnd (3 * x2) fun v2 =>
if inb v2 18 = true then (bnd ((3 * x2) + 1) fun v5 =>
if inb v5 18 = true then (bnd ((3 * x2) + 2) fun v8 =>
if inb v8 18 = true then (obd (f_X8_adds q0 x1 (gI σ (q0 + 6) (Int32.toNatClampNeg v2)) (gI σ (q0 + 6) (Int32.toNatClampNeg v5)) (gI σ (q0 + 6) (Int32.toNatClampNeg v8)) σ) fun σ12 =>
bnd (x2 + 1) fun v13 =>
rec47 v13 σ12) else none) else none) else none)
noncomputable def f_X8_read (q0 : Nat) (x1 : Int32) (σ : St) : Option (Int32 × St) :=
bnd (f_X8_isChange q0 x1 σ) fun v16 =>
if v16 = true then (ob2 (f_X8_isText q0 σ) fun v19 σ20 =>
if v19 = true then (bnd (f_X8_at x1 1) fun v23 =>
if inb v23 257 = true then (if (gI σ20 (q0 + 1) (Int32.toNatClampNeg v23)) = 0 then (bnd (f_X8_at x1 2) fun v27 =>
if inb v27 257 = true then (bnd (sI σ20 (q0 + 1) (Int32.toNatClampNeg v27) 0) fun σ29 =>
it2 (f_X8_read_L47 q0 x1) sr_fuel 0 σ29) else none) else (some ((-13), σ20))) else none) else (some ((-13), σ20))) else (some ((-11), σ))
noncomputable def f_X8_notes_B54 (q0 : Nat) (x1 : Int32) (x2 : Int32) (x3 : Int32)  (σ : St) : Option St :=
bnd (12 + (4 * (gI σ (q0 + 1) (Int32.toNatClampNeg 11)))) fun v1 =>
if inb v1 257 = true then (bnd (sI σ (q0 + 1) (Int32.toNatClampNeg v1) (gI σ (q0 + 1) (Int32.toNatClampNeg 1))) fun σ4 =>
bnd (v1 + 1) fun v6 =>
if inb v6 257 = true then (bnd (sI σ4 (q0 + 1) (Int32.toNatClampNeg v6) x1) fun σ9 =>
bnd (v1 + 2) fun v11 =>
if inb v11 257 = true then (bnd (sI σ9 (q0 + 1) (Int32.toNatClampNeg v11) x2) fun σ14 =>
bnd (v1 + 3) fun v16 =>
if inb v16 257 = true then (bnd (sI σ14 (q0 + 1) (Int32.toNatClampNeg v16) x3) fun σ19 =>
bnd (sI σ19 (q0 + 1) (Int32.toNatClampNeg 11) ((gI σ19 (q0 + 1) (Int32.toNatClampNeg 11)) + 1)) fun σ21 =>
bnd (sI σ21 q0 7 ((gI σ21 q0 7) + 1)) fun σ23 =>
some σ23) else none) else none) else none) else none
noncomputable def f_X8_notes_L16 (q0 : Nat) (x1 : Int32) (x2 : Int32) (x3 : Int32) (rec16 : Int32 → St → Option St) (x4 : Int32) (σ : St) : Option St :=
if 88 ≤ x4 then (bnd (sI σ (q0 + 1) (Int32.toNatClampNeg 11) 19) fun σ26 =>
f_X8_notes_B54 q0 x1 x2 x3  σ26) else (bnd (x4 + 4) fun v28 =>
if inb v28 257 = true then (if inb x4 257 = true then (bnd (sI σ (q0 + 1) (Int32.toNatClampNeg x4) (gI σ (q0 + 1) (Int32.toNatClampNeg v28))) fun σ32 =>
bnd (x4 + 1) fun v34 =>
rec16 v34 σ32) else none) else none)
noncomputable def f_X8_notes (q0 : Nat) (x1 : Int32) (x2 : Int32) (x3 : Int32) (σ : St) : Option St :=
if (gI σ (q0 + 1) (Int32.toNatClampNeg 11)) = 20 then (it2 (f_X8_notes_L16 q0 x1 x2 x3) sr_fuel 12 σ) else (f_X8_notes_B54 q0 x1 x2 x3  σ)
noncomputable def f_X8_start (q0 : Nat) (x1 : Int32) (σ : St) : Option (Int32 × St) :=
bnd (f_X8_isChange q0 x1 σ) fun v2 =>
if v2 = true then (bnd (f_X8_at x1 1) fun v5 =>
if inb v5 257 = true then (if (gI σ (q0 + 1) (Int32.toNatClampNeg v5)) = 0 then (bnd (f_X8_at x1 2) fun v9 =>
if inb v9 257 = true then (if (gI σ (q0 + 1) (Int32.toNatClampNeg v9)) = 0 then (some ((-13), σ)) else (bnd (f_X8_at x1 1) fun v13 =>
if inb v13 257 = true then (bnd (sI σ (q0 + 1) (Int32.toNatClampNeg v13) 1) fun σ15 =>
bnd (f_X8_at x1 2) fun v18 =>
if inb v18 257 = true then (some ((gI σ15 (q0 + 1) (Int32.toNatClampNeg v18)), σ15)) else none) else none)) else none) else (some ((-13), σ))) else none) else (some ((-11), σ))
noncomputable def f_X8_becomes (q0 : Nat) (x1 : Int32) (x2 : Int32) (x3 : Int32) (σ : St) : Option (Int32 × St) :=
bnd (f_X8_at x1 1) fun v2 =>
if inb v2 257 = true then (bnd (sI σ (q0 + 1) (Int32.toNatClampNeg v2) x2) fun σ4 =>
obd (f_X8_notes q0 x1 x3 (-15) σ4) fun σ7 =>
bnd (f_X8_at x1 3) fun v9 =>
if inb v9 257 = true then (some ((gI σ7 (q0 + 1) (Int32.toNatClampNeg v9)), σ7)) else none) else none
noncomputable def f_X8_hold (q0 : Nat) (x1 : Int32) (σ : St) : Option (Int32 × St) :=
bnd (f_X8_isChange q0 x1 σ) fun v2 =>
if v2 = true then (bnd (f_X8_at x1 1) fun v5 =>
if inb v5 257 = true then (if (gI σ (q0 + 1) (Int32.toNatClampNeg v5)) = 1 then (ob2 (f_X8_becomes q0 x1 2 6 σ) fun v9 σ10 =>
some (v9, σ10)) else (some ((-13), σ))) else none) else (some ((-11), σ))
noncomputable def f_X8_resume (q0 : Nat) (x1 : Int32) (σ : St) : Option (Int32 × St) :=
bnd (f_X8_isChange q0 x1 σ) fun v2 =>
if v2 = true then (bnd (f_X8_at x1 1) fun v5 =>
if inb v5 257 = true then (if (gI σ (q0 + 1) (Int32.toNatClampNeg v5)) = 2 then (ob2 (f_X8_becomes q0 x1 1 7 σ) fun v9 σ10 =>
some (v9, σ10)) else (some ((-13), σ))) else none) else (some ((-11), σ))
noncomputable def f_X8_turnBack (q0 : Nat) (x1 : Int32) (σ : St) : Option (Int32 × St) :=
bnd (f_X8_isChange q0 x1 σ) fun v2 =>
if v2 = true then (bnd (f_X8_at x1 1) fun v5 =>
if inb v5 257 = true then (bnd (f_X8_in (gI σ (q0 + 1) (Int32.toNatClampNeg v5)) 1 3) fun v8 =>
if v8 = true then (ob2 (f_X8_becomes q0 x1 4 3 σ) fun v11 σ12 =>
some (v11, σ12)) else (some ((-13), σ))) else none) else (some ((-11), σ))
noncomputable def f_X8_isOut (q0 : Nat) (x1 : Int32) (σ : St) : Option Bool :=
bnd (f_X8_at x1 1) fun v2 =>
if inb v2 257 = true then (bnd (f_X8_in (gI σ (q0 + 1) (Int32.toNatClampNeg v2)) 1 2) fun v5 =>
if v5 = true then (bnd (f_X8_at x1 3) fun v8 =>
if inb v8 257 = true then (if (gI σ (q0 + 1) (Int32.toNatClampNeg v8)) ≤ 0 then (some false) else (some true)) else none) else (some false)) else none
noncomputable def f_X8_reached (q0 : Nat) (x1 : Int32) (σ : St) : Option Int32 :=
bnd (f_X8_at x1 3) fun v2 =>
if inb v2 257 = true then (obd (f_X8_cellsOf q0 x1 (gI σ (q0 + 1) (Int32.toNatClampNeg v2)) σ) fun v5 =>
some v5) else none
noncomputable def f_X8_report_B77 (q0 : Nat) (x1 : Int32) (x2 : Int32) (x3 : Int32) (rec40 : Int32 → Int32 → St → Option (Int32 × St)) (x4 : Int32) (x5 : Int32) (sx0 : Int32) (sx1 : Int32) (σ : St) : Option (Int32 × St) :=
bnd (sx0 + sx1) fun v1 =>
obd (f_X8_isOut q0 x5 σ) fun v4 =>
if v4 = true then (if inb v1 257 = true then (bnd (v1 + 1) fun v9 =>
if inb v9 257 = true then (if 25 < ((((gI σ (q0 + 1) (Int32.toNatClampNeg v1)) + (gI σ (q0 + 1) (Int32.toNatClampNeg v9))) + x2) + x3) then (bnd (x5 + 1) fun v13 =>
rec40 x4 v13 σ) else (if inb v1 257 = true then (if inb v1 257 = true then (bnd (sI σ (q0 + 1) (Int32.toNatClampNeg v1) ((gI σ (q0 + 1) (Int32.toNatClampNeg v1)) + x2)) fun σ17 =>
bnd (v1 + 1) fun v19 =>
if inb v19 257 = true then (if inb v19 257 = true then (bnd (sI σ17 (q0 + 1) (Int32.toNatClampNeg v19) ((gI σ17 (q0 + 1) (Int32.toNatClampNeg v19)) + x3)) fun σ23 =>
bnd (x4 + 1) fun v25 =>
bnd (x5 + 1) fun v27 =>
rec40 v25 v27 σ23) else none) else none) else none) else none)) else none) else none) else (bnd (x5 + 1) fun v6 =>
rec40 x4 v6 σ)
noncomputable def f_X8_report_L40 (q0 : Nat) (x1 : Int32) (x2 : Int32) (x3 : Int32) (rec40 : Int32 → Int32 → St → Option (Int32 × St)) (x4 : Int32) (x5 : Int32) (σ : St) : Option (Int32 × St) :=
if (gI σ (q0 + 1) (Int32.toNatClampNeg 10)) ≤ x5 then (some (x4, σ)) else (bnd (f_X8_at x5 5) fun v31 =>
obd (f_X8_reached q0 x5 σ) fun v33 =>
if ((v33 >>> (x1 &&& 31)) &&& 1) = 1 then (f_X8_report_B77 q0 x1 x2 x3 rec40 x4 x5 v31 0 σ) else (f_X8_report_B77 q0 x1 x2 x3 rec40 x4 x5 v31 2 σ))
noncomputable def f_X8_report (q0 : Nat) (x1 : Int32) (x2 : Int32) (x3 : Int32) (σ : St) : Option (Int32 × St) :=
bnd (f_X8_isCell q0 x1 σ) fun v36 =>
if v36 = true then (bnd (f_X8_in x2 0 9) fun v39 =>
if v39 = true then (bnd (f_X8_in x3 0 9) fun v42 =>
if v42 = true then (it3 (f_X8_report_L40 q0 x1 x2 x3) sr_fuel 0 0 σ) else (some ((-12), σ))) else (some ((-12), σ))) else (some ((-11), σ))
noncomputable def f_X8_sets_B116 (q0 : Nat) (x1 : Int32) (x2 : Int32)  (σ : St) : Option (Int64 × St) :=
bnd ((51 * x1) + x2) fun v1 =>
if inb v1 2601 = true then (some ((gL σ (q0 + 7) (Int32.toNatClampNeg v1)), σ)) else none
noncomputable def f_X8_sets_L43 (q0 : Nat) (x1 : Int32) (x2 : Int32) (rec24 : Int32 → St → Option (Int64 × St)) (rec43 : Int32 → Int32 → St → Option (Int64 × St)) (x3 : Int32) (x4 : Int32) (σ : St) : Option (Int64 × St) :=
if x3 < x4 then (bnd (x3 + 1) fun v5 =>
rec24 v5 σ) else (bnd ((((51 * x3) - 51) + x4) - 1) fun v7 =>
if inb v7 2601 = true then (if x3 ≤ x4 then (bnd ((51 * x3) + x4) fun v11 =>
if inb v11 2601 = true then (bnd (sL σ (q0 + 7) (Int32.toNatClampNeg v11) ((gL σ (q0 + 7) (Int32.toNatClampNeg v7)) + 0)) fun σ14 =>
bnd (x4 + 1) fun v16 =>
rec43 x3 v16 σ14) else none) else (bnd (((51 * x3) - 51) + x4) fun v18 =>
if inb v18 2601 = true then (bnd ((51 * x3) + x4) fun v21 =>
if inb v21 2601 = true then (bnd (sL σ (q0 + 7) (Int32.toNatClampNeg v21) ((gL σ (q0 + 7) (Int32.toNatClampNeg v7)) + (gL σ (q0 + 7) (Int32.toNatClampNeg v18)))) fun σ24 =>
bnd (x4 + 1) fun v26 =>
rec43 x3 v26 σ24) else none) else none)) else none)
noncomputable def f_X8_sets_L24 (q0 : Nat) (x1 : Int32) (x2 : Int32) (rec24 : Int32 → St → Option (Int64 × St)) (x3 : Int32) (σ : St) : Option (Int64 × St) :=
if 50 < x3 then (f_X8_sets_B116 q0 x1 x2  σ) else (bnd (51 * x3) fun v29 =>
if inb v29 2601 = true then (bnd (sL σ (q0 + 7) (Int32.toNatClampNeg v29) 1) fun σ32 =>
it3 (f_X8_sets_L43 q0 x1 x2 rec24) sr_fuel x3 1 σ32) else none)
noncomputable def f_X8_sets (q0 : Nat) (x1 : Int32) (x2 : Int32) (σ : St) : Option (Int64 × St) :=
if x2 < 0 then (some (0, σ)) else (if x2 ≤ x1 then (if (lg_cmp (gL σ (q0 + 7) (Int32.toNatClampNeg 0)) 0) = 0 then (it2 (f_X8_sets_L24 q0 x1 x2) sr_fuel 0 σ) else (f_X8_sets_B116 q0 x1 x2  σ)) else (some (0, σ)))
noncomputable def f_X8_findChance_L85 (q0 : Nat) (x1 : Int32) (rec85 : Int32 → Int32 → Int32 → Int32 → St → Option St) (x3 : Int32) (x4 : Int32) (x5 : Int32) (x6 : Int32) (σ : St) : Option St :=
if x3 < x6 then (some σ) else (if x4 < x6 then (some σ) else (ob2 (f_X8_sets q0 x4 x6 σ) fun v4 σ5 =>
ob2 (f_X8_sets q0 x5 (x3 - x6) σ5) fun v7 σ8 =>
bnd (sL σ8 q0 13 ((gL σ q0 13) + (v4 * v7))) fun σ9 =>
bnd (x6 + 1) fun v11 =>
rec85 x3 x4 x5 v11 σ9))
noncomputable def f_X8_findChance (q0 : Nat) (x1 : Int32) (σ : St) : Option St :=
bnd (f_X8_at x1 5) fun v14 =>
if inb v14 257 = true then (bnd (v14 + 1) fun v16 =>
if inb v16 257 = true then (bnd ((gI σ (q0 + 1) (Int32.toNatClampNeg v14)) + (gI σ (q0 + 1) (Int32.toNatClampNeg v16))) fun v19 =>
if inb v14 257 = true then (bnd (v14 + 2) fun v22 =>
if inb v22 257 = true then (bnd ((gI σ (q0 + 1) (Int32.toNatClampNeg v14)) + (gI σ (q0 + 1) (Int32.toNatClampNeg v22))) fun v25 =>
bnd (v14 + 1) fun v27 =>
if inb v27 257 = true then (bnd (v14 + 3) fun v30 =>
if inb v30 257 = true then (bnd ((gI σ (q0 + 1) (Int32.toNatClampNeg v27)) + (gI σ (q0 + 1) (Int32.toNatClampNeg v30))) fun v33 =>
bnd (sL σ q0 13 0) fun σ35 =>
ob2 (f_X8_sets q0 (v25 + v33) v19 σ35) fun v38 σ39 =>
bnd (sL σ39 q0 14 v38) fun σ40 =>
if inb v14 257 = true then (bnd (gI σ40 (q0 + 1) (Int32.toNatClampNeg v14)) fun v43 =>
it5 (f_X8_findChance_L85 q0 x1) sr_fuel v19 v25 v33 v43 σ40) else none) else none) else none) else none) else none) else none) else none
noncomputable def f_X8_isBad (q0 : Nat) (x1 : Int32) (σ : St) : Option (Bool × St) :=
obd (f_X8_findChance q0 x1 σ) fun σ2 =>
if (gB σ2 q0 6) = true then (some (false, σ2)) else (if 0 < (lg_cmp (1000 * (gL σ2 q0 13)) ((Int32.toInt64 (gI σ2 (q0 + 1) (Int32.toNatClampNeg 2))) * (gL σ2 q0 14))) then (some (false, σ2)) else (some (true, σ2)))
noncomputable def f_X8_divisor_L6 (w0 : Int64) (w2 : Int64) (rec6 : Int64 → Int64 → Option Int64) (w4 : Int64) (w6 : Int64) : Option Int64 :=
if (lg_cmp w6 0) = 0 then (some w4) else (if ¬ w6 = 0 then (bnd (w4 - w4 / w6 * w6) fun v3 =>
rec6 w6 v3) else none)
noncomputable def f_X8_divisor (w0 : Int64) (w2 : Int64) : Option Int64 :=
it2 (f_X8_divisor_L6 w0 w2) sr_fuel w0 w2
noncomputable def f_X8_isFrozenHour_L4 (σ : St) (q0 : Nat) (x1 : Int32) (rec4 : Bool → Int32 → Option Bool) (b2 : Bool) (x3 : Int32) : Option Bool :=
if (gI σ (q0 + 1) (Int32.toNatClampNeg 3)) ≤ x3 then (some b2) else (if b2 = true then (bnd (x3 + 1) fun v3 =>
rec4 true v3) else (bnd (4 + (2 * x3)) fun v5 =>
if inb v5 257 = true then (bnd ((4 + (2 * x3)) + 1) fun v8 =>
if inb v8 257 = true then (bnd (f_X8_in x1 (gI σ (q0 + 1) (Int32.toNatClampNeg v5)) ((gI σ (q0 + 1) (Int32.toNatClampNeg v8)) - 1)) fun v12 =>
if v12 = true then (bnd (x3 + 1) fun v16 =>
rec4 true v16) else (bnd (x3 + 1) fun v14 =>
rec4 false v14)) else none) else none))
noncomputable def f_X8_isFrozenHour (q0 : Nat) (x1 : Int32) (σ : St) : Option Bool :=
it2 (f_X8_isFrozenHour_L4 σ q0 x1) sr_fuel false 0
noncomputable def f_X8_hoursSince (q0 : Nat) (x1 : Int32) (σ : St) : Option Int32 :=
bnd (f_X8_at x1 3) fun v2 =>
if inb v2 257 = true then (bnd (gI σ (q0 + 1) (Int32.toNatClampNeg v2)) fun v4 =>
if v4 = 0 then (some 0) else (bnd (f_X8_stageAt x1 (v4 - 1) 3) fun v8 =>
if inb v8 257 = true then (some ((gI σ (q0 + 1) (Int32.toNatClampNeg 1)) - (gI σ (q0 + 1) (Int32.toNatClampNeg v8)))) else none)) else none
noncomputable def f_X8_lacks_B52 (σ : St) (q0 : Nat) (x1 : Int32) (x2 : Int32) (x3 : Int32) (sb0 : Bool) : Option Bool :=
if (gB σ q0 6) = true then (some false) else (if inb x2 257 = true then (bnd (x2 + 1) fun v3 =>
if inb v3 257 = true then (if ((gI σ (q0 + 1) (Int32.toNatClampNeg x2)) + (gI σ (q0 + 1) (Int32.toNatClampNeg v3))) < x3 then (some true) else (if sb0 = true then (some false) else (bnd (x2 + 2) fun v8 =>
if inb v8 257 = true then (bnd (x2 + 3) fun v11 =>
if inb v11 257 = true then (if x3 ≤ ((gI σ (q0 + 1) (Int32.toNatClampNeg v8)) + (gI σ (q0 + 1) (Int32.toNatClampNeg v11))) then (some false) else (some true)) else none) else none))) else none) else none)
noncomputable def f_X8_lacks (q0 : Nat) (x1 : Int32) (σ : St) : Option Bool :=
bnd (f_X8_at x1 5) fun v16 =>
bnd (f_X8_at x1 3) fun v18 =>
if inb v18 257 = true then (bnd (f_X8_stageAt x1 ((gI σ (q0 + 1) (Int32.toNatClampNeg v18)) - 1) 2) fun v21 =>
if inb v21 257 = true then (bnd (gI σ (q0 + 1) (Int32.toNatClampNeg v21)) fun v23 =>
obd (f_X8_reached q0 x1 σ) fun v26 =>
if v26 = ((1 <<< ((gI σ (q0 + 1) (Int32.toNatClampNeg 0)) &&& 31)) - 1) then (f_X8_lacks_B52 σ q0 x1 v16 v23 true) else (f_X8_lacks_B52 σ q0 x1 v16 v23 false)) else none) else none
noncomputable def f_X8_areAllDone_L4 (σ : St) (q0 : Nat) (x1 : Int32) (rec4 : Bool → Int32 → Option Bool) (b2 : Bool) (x3 : Int32) : Option Bool :=
if 5 ≤ x3 then (some b2) else (if b2 = true then (if ((x1 >>> (x3 &&& 31)) &&& 1) = 0 then (bnd (x3 + 1) fun v6 =>
rec4 true v6) else (bnd (f_X8_at x3 1) fun v9 =>
if inb v9 257 = true then (if (gI σ (q0 + 1) (Int32.toNatClampNeg v9)) = 3 then (bnd (x3 + 1) fun v14 =>
rec4 true v14) else (bnd (x3 + 1) fun v12 =>
rec4 false v12)) else none)) else (bnd (x3 + 1) fun v3 =>
rec4 false v3))
noncomputable def f_X8_areAllDone (q0 : Nat) (x1 : Int32) (σ : St) : Option Bool :=
it2 (f_X8_areAllDone_L4 σ q0 x1) sr_fuel true 0
noncomputable def f_X8_isOtherRisk_B48 (σ : St) (q0 : Nat) (x1 : Int32) (rec4 : Bool → Int32 → Option Bool) (b2 : Bool) (x3 : Int32) (sb0 : Bool) : Option Bool :=
if b2 = true then (bnd (x3 + 1) fun v2 =>
rec4 true v2) else (if x3 = x1 then (bnd (x3 + 1) fun v5 =>
rec4 false v5) else (bnd (f_X8_at x3 0) fun v8 =>
if inb v8 257 = true then (if (gI σ (q0 + 1) (Int32.toNatClampNeg v8)) = 1 then (if sb0 = true then (bnd (f_X8_at x3 3) fun v17 =>
if inb v17 257 = true then (if (gI σ (q0 + 1) (Int32.toNatClampNeg v17)) ≤ 0 then (bnd (x3 + 1) fun v20 =>
rec4 false v20) else (bnd (x3 + 1) fun v22 =>
rec4 true v22)) else none) else (bnd (x3 + 1) fun v14 =>
rec4 false v14)) else (bnd (x3 + 1) fun v11 =>
rec4 false v11)) else none))
noncomputable def f_X8_isOtherRisk_L4 (σ : St) (q0 : Nat) (x1 : Int32) (rec4 : Bool → Int32 → Option Bool) (b2 : Bool) (x3 : Int32) : Option Bool :=
if (gI σ (q0 + 1) (Int32.toNatClampNeg 10)) ≤ x3 then (if b2 = true then (bnd (f_X8_at x1 0) fun v27 =>
if inb v27 257 = true then (if (gI σ (q0 + 1) (Int32.toNatClampNeg v27)) = 1 then (some true) else (some false)) else none) else (some false)) else (bnd (f_X8_at x3 1) fun v31 =>
if inb v31 257 = true then (bnd (gI σ (q0 + 1) (Int32.toNatClampNeg v31)) fun v33 =>
bnd (f_X8_in v33 1 2) fun v36 =>
if v36 = true then (f_X8_isOtherRisk_B48 σ q0 x1 rec4 b2 x3 true) else (if v33 = 4 then (f_X8_isOtherRisk_B48 σ q0 x1 rec4 b2 x3 true) else (f_X8_isOtherRisk_B48 σ q0 x1 rec4 b2 x3 false))) else none)
noncomputable def f_X8_isOtherRisk (q0 : Nat) (x1 : Int32) (σ : St) : Option Bool :=
it2 (f_X8_isOtherRisk_L4 σ q0 x1) sr_fuel false 0
noncomputable def f_X8_reason_B149 (σ : St) (q0 : Nat) (x1 : Int32) (x3 : Int32) : Option Int32 :=
if x3 = 0 then (obd (f_X8_isOtherRisk q0 x1 σ) fun v3 =>
if v3 = true then (some 8) else (some 0)) else (some 0)
noncomputable def f_X8_reason_B125 (σ : St) (q0 : Nat) (x1 : Int32) (x3 : Int32) : Option Int32 :=
if x3 = 0 then (bnd (f_X8_at x1 4) fun v7 =>
if inb v7 257 = true then (obd (f_X8_areAllDone q0 (gI σ (q0 + 1) (Int32.toNatClampNeg v7)) σ) fun v10 =>
if v10 = true then (f_X8_reason_B149 σ q0 x1 x3) else (some 7)) else none) else (f_X8_reason_B149 σ q0 x1 x3)
noncomputable def f_X8_reason_B91 (σ : St) (q0 : Nat) (x1 : Int32) (x3 : Int32) : Option Int32 :=
bnd (f_X8_at x1 2) fun v13 =>
if inb v13 257 = true then (if (gI σ (q0 + 1) (Int32.toNatClampNeg v13)) ≤ x3 then (f_X8_reason_B125 σ q0 x1 x3) else (obd (f_X8_isFrozenHour q0 (irm (gI σ (q0 + 1) (Int32.toNatClampNeg 1)) 168) σ) fun v17 =>
if v17 = true then (some 6) else (f_X8_reason_B125 σ q0 x1 x3))) else none
noncomputable def f_X8_reason_B77 (σ : St) (q0 : Nat) (x1 : Int32) (x3 : Int32) : Option Int32 :=
if x3 ≤ 0 then (f_X8_reason_B91 σ q0 x1 x3) else (obd (f_X8_lacks q0 x1 σ) fun v21 =>
if v21 = true then (some 5) else (f_X8_reason_B91 σ q0 x1 x3))
noncomputable def f_X8_reason (q0 : Nat) (x1 : Int32) (σ : St) : Option Int32 :=
bnd (f_X8_at x1 1) fun v24 =>
if inb v24 257 = true then (bnd (gI σ (q0 + 1) (Int32.toNatClampNeg v24)) fun v26 =>
bnd (f_X8_at x1 3) fun v29 =>
if inb v29 257 = true then (bnd (gI σ (q0 + 1) (Int32.toNatClampNeg v29)) fun v31 =>
if v26 = 4 then (if v26 = 4 then (some 2) else (some 3)) else (if v26 = 2 then (if v26 = 4 then (some 2) else (some 3)) else (if v26 = 1 then (if v31 ≤ 0 then (f_X8_reason_B77 σ q0 x1 v31) else (obd (f_X8_hoursSince q0 x1 σ) fun v39 =>
bnd (f_X8_stageAt x1 (v31 - 1) 1) fun v41 =>
if inb v41 257 = true then (if (gI σ (q0 + 1) (Int32.toNatClampNeg v41)) ≤ v39 then (f_X8_reason_B77 σ q0 x1 v31) else (some 4)) else none)) else (some 1)))) else none) else none
noncomputable def f_X8_turnsOn_B43 (q0 : Nat) (x1 : Int32)  (σ : St) : Option St :=
bnd (f_X8_at x1 3) fun v2 =>
if inb v2 257 = true then (if (gI σ (q0 + 1) (Int32.toNatClampNeg v2)) = 0 then (ob2 (f_X8_becomes q0 x1 5 5 σ) fun v6 σ7 =>
some σ7) else (some σ)) else none
noncomputable def f_X8_turnsOn (q0 : Nat) (x1 : Int32) (σ : St) : Option St :=
bnd (f_X8_at x1 3) fun v9 =>
if inb v9 257 = true then (if (gI σ (q0 + 1) (Int32.toNatClampNeg v9)) ≤ 0 then (f_X8_turnsOn_B43 q0 x1  σ) else (bnd (f_X8_at x1 3) fun v13 =>
if inb v13 257 = true then (if inb v13 257 = true then (bnd (sI σ (q0 + 1) (Int32.toNatClampNeg v13) ((gI σ (q0 + 1) (Int32.toNatClampNeg v13)) - 1)) fun σ16 =>
bnd (f_X8_at x1 3) fun v19 =>
if inb v19 257 = true then (obd (f_X8_notes q0 x1 4 (gI σ16 (q0 + 1) (Int32.toNatClampNeg v19)) σ16) fun σ22 =>
f_X8_turnsOn_B43 q0 x1  σ22) else none) else none) else none)) else none
noncomputable def f_X8_goesOn_L67 (q0 : Nat) (x1 : Int32) (rec67 : Int32 → Int32 → St → Option St) (x2 : Int32) (x3 : Int32) (σ : St) : Option St :=
if 4 ≤ x3 then (obd (f_X8_notes q0 x1 1 x2 σ) fun σ3 =>
some σ3) else (bnd (f_X8_at x1 (5 + x3)) fun v5 =>
if inb v5 257 = true then (bnd (sI σ (q0 + 1) (Int32.toNatClampNeg v5) 0) fun σ7 =>
bnd (x3 + 1) fun v9 =>
rec67 x2 v9 σ7) else none)
noncomputable def f_X8_goesOn (q0 : Nat) (x1 : Int32) (σ : St) : Option St :=
bnd (f_X8_at x1 3) fun v12 =>
if inb v12 257 = true then (bnd (gI σ (q0 + 1) (Int32.toNatClampNeg v12)) fun v14 =>
bnd (f_X8_at x1 2) fun v17 =>
if inb v17 257 = true then (if v14 = (gI σ (q0 + 1) (Int32.toNatClampNeg v17)) then (ob2 (f_X8_becomes q0 x1 3 2 σ) fun v32 σ33 =>
some σ33) else (bnd (f_X8_stageAt x1 v14 3) fun v21 =>
if inb v21 257 = true then (bnd (sI σ (q0 + 1) (Int32.toNatClampNeg v21) (gI σ (q0 + 1) (Int32.toNatClampNeg 1))) fun σ23 =>
bnd (f_X8_at x1 3) fun v26 =>
if inb v26 257 = true then (if inb v26 257 = true then (bnd (sI σ23 (q0 + 1) (Int32.toNatClampNeg v26) ((gI σ23 (q0 + 1) (Int32.toNatClampNeg v26)) + 1)) fun σ29 =>
it3 (f_X8_goesOn_L67 q0 x1) sr_fuel v14 0 σ29) else none) else none) else none)) else none) else none
noncomputable def f_X8_passes_B40 (q0 : Nat) (rec2 : Int32 → St → Option St) (x1 : Int32) (σ : St) : Option St :=
bnd (f_X8_at x1 1) fun v2 =>
if inb v2 257 = true then (if (gI σ (q0 + 1) (Int32.toNatClampNeg v2)) = 4 then (obd (f_X8_turnsOn q0 x1 σ) fun σ21 =>
bnd (x1 + 1) fun v22 =>
rec2 v22 σ21) else (bnd (f_X8_at x1 1) fun v6 =>
if inb v6 257 = true then (if (gI σ (q0 + 1) (Int32.toNatClampNeg v6)) = 1 then (obd (f_X8_reason q0 x1 σ) fun v12 =>
if v12 = 0 then (obd (f_X8_goesOn q0 x1 σ) fun σ17 =>
bnd (x1 + 1) fun v18 =>
rec2 v18 σ17) else (bnd (x1 + 1) fun v14 =>
rec2 v14 σ)) else (bnd (x1 + 1) fun v9 =>
rec2 v9 σ)) else none)) else none
noncomputable def f_X8_passes_L2 (q0 : Nat) (rec2 : Int32 → St → Option St) (x1 : Int32) (σ : St) : Option St :=
if (gI σ (q0 + 1) (Int32.toNatClampNeg 10)) ≤ x1 then (bnd (sI σ (q0 + 1) (Int32.toNatClampNeg 1) ((gI σ (q0 + 1) (Int32.toNatClampNeg 1)) + 1)) fun σ25 =>
some σ25) else (obd (f_X8_isOut q0 x1 σ) fun v28 =>
if v28 = true then (ob2 (f_X8_isBad q0 x1 σ) fun v31 σ32 =>
if v31 = true then (ob2 (f_X8_becomes q0 x1 4 3 σ32) fun v35 σ36 =>
bnd (x1 + 1) fun v37 =>
rec2 v37 σ36) else (f_X8_passes_B40 q0 rec2 x1 σ32)) else (f_X8_passes_B40 q0 rec2 x1 σ))
noncomputable def f_X8_passes (q0 : Nat) (σ : St) : Option St :=
it2 (f_X8_passes_L2 q0) sr_fuel 0 σ
noncomputable def f_X8_pass_L20 (q0 : Nat) (x1 : Int32) (rec20 : Int32 → St → Option (Int32 × St)) (x2 : Int32) (σ : St) : Option (Int32 × St) :=
if x1 ≤ x2 then (some ((gI σ q0 7), σ)) else (obd (f_X8_passes q0 σ) fun σ3 =>
bnd (x2 + 1) fun v4 =>
rec20 v4 σ3)
noncomputable def f_X8_pass (q0 : Nat) (x1 : Int32) (σ : St) : Option (Int32 × St) :=
bnd (f_X8_in x1 1 100) fun v7 =>
if v7 = true then (bnd (sI σ q0 7 0) fun σ9 =>
it2 (f_X8_pass_L20 q0 x1) sr_fuel 0 σ9) else (some ((-12), σ))
noncomputable def f_X8_time (q0 : Nat) (σ : St) : Int32 :=
(gI σ (q0 + 1) (Int32.toNatClampNeg 1))
noncomputable def f_X8_tells (q0 : Nat) (x1 : Int32) (x2 : Int32) (σ : St) : Option Int32 :=
if x2 = 0 then (bnd (f_X8_at x1 1) fun v3 =>
if inb v3 257 = true then (some (gI σ (q0 + 1) (Int32.toNatClampNeg v3))) else none) else if x2 = 1 then (bnd (f_X8_at x1 2) fun v7 =>
if inb v7 257 = true then (some (gI σ (q0 + 1) (Int32.toNatClampNeg v7))) else none) else if x2 = 2 then (bnd (f_X8_at x1 3) fun v11 =>
if inb v11 257 = true then (some (gI σ (q0 + 1) (Int32.toNatClampNeg v11))) else none) else if x2 = 3 then (obd (f_X8_hoursSince q0 x1 σ) fun v15 =>
some v15) else if x2 = 4 then (obd (f_X8_reason q0 x1 σ) fun v18 =>
some v18) else if x2 = 5 then (bnd (f_X8_at x1 4) fun v21 =>
if inb v21 257 = true then (some (gI σ (q0 + 1) (Int32.toNatClampNeg v21))) else none) else (bnd (f_X8_at x1 0) fun v24 =>
if inb v24 257 = true then (some (gI σ (q0 + 1) (Int32.toNatClampNeg v24))) else none)
noncomputable def f_X8_change (q0 : Nat) (x1 : Int32) (x2 : Int32) (σ : St) : Option Int32 :=
bnd (f_X8_isChange q0 x1 σ) fun v2 =>
if v2 = true then (bnd (f_X8_in x2 0 6) fun v5 =>
if v5 = true then (obd (f_X8_tells q0 x1 x2 σ) fun v8 =>
some v8) else (some (-12))) else (some (-11))
noncomputable def f_X8_probes (q0 : Nat) (x1 : Int32) (x2 : Int32) (σ : St) : Option Int32 :=
bnd (f_X8_isChange q0 x1 σ) fun v2 =>
if v2 = true then (bnd (f_X8_in x2 0 3) fun v5 =>
if v5 = true then (bnd (f_X8_at x1 (5 + x2)) fun v8 =>
if inb v8 257 = true then (some (gI σ (q0 + 1) (Int32.toNatClampNeg v8))) else none) else (some (-12))) else (some (-11))
noncomputable def f_X8_chance (q0 : Nat) (x1 : Int32) (b2 : Bool) (σ : St) : Option (Int64 × St) :=
bnd (f_X8_isChange q0 x1 σ) fun v2 =>
if v2 = true then (obd (f_X8_findChance q0 x1 σ) fun σ5 =>
if b2 = true then (obd (f_X8_divisor (gL σ5 q0 13) (gL σ5 q0 14)) fun v11 =>
if ¬ v11 = 0 then (some (((gL σ5 q0 14) / v11), σ5)) else none) else (obd (f_X8_divisor (gL σ5 q0 13) (gL σ5 q0 14)) fun v8 =>
if ¬ v8 = 0 then (some (((gL σ5 q0 13) / v8), σ5)) else none)) else (some ((-11), σ))
noncomputable def f_X8_having_L4 (σ : St) (q0 : Nat) (x1 : Int32) (rec4 : Int32 → Int32 → Option Int32) (x2 : Int32) (x3 : Int32) : Option Int32 :=
if (gI σ (q0 + 1) (Int32.toNatClampNeg 10)) ≤ x3 then (some x2) else (obd (f_X8_reached q0 x3 σ) fun v3 =>
bnd (x2 ||| (((v3 >>> (x1 &&& 31)) &&& 1) <<< (x3 &&& 31))) fun v4 =>
bnd (x3 + 1) fun v6 =>
rec4 v4 v6)
noncomputable def f_X8_having (q0 : Nat) (x1 : Int32) (σ : St) : Option Int32 :=
it2 (f_X8_having_L4 σ q0 x1) sr_fuel 0 0
noncomputable def f_X8_has (q0 : Nat) (x1 : Int32) (σ : St) : Option Int32 :=
bnd (f_X8_isCell q0 x1 σ) fun v2 =>
if v2 = true then (obd (f_X8_having q0 x1 σ) fun v5 =>
some v5) else (some (-11))
noncomputable def f_X8_isFrozen (q0 : Nat) (x1 : Int32) (σ : St) : Option Int32 :=
bnd (f_X8_in x1 0 167) fun v2 =>
if v2 = true then (obd (f_X8_isFrozenHour q0 x1 σ) fun v5 =>
if v5 = true then (some 1) else (some 0)) else (some (-12))
noncomputable def f_X8_isOver (q0 : Nat) (x1 : Int32) (σ : St) : Option Bool :=
bnd (f_X8_at x1 1) fun v2 =>
if inb v2 257 = true then (if (gI σ (q0 + 1) (Int32.toNatClampNeg v2)) = 3 then (some true) else (bnd (f_X8_at x1 1) fun v6 =>
if inb v6 257 = true then (if (gI σ (q0 + 1) (Int32.toNatClampNeg v6)) = 5 then (some true) else (some false)) else none)) else none
noncomputable def f_X8_forecast_L93 (q0 : Nat) (x1 : Int32) (rec93 : Int32 → Int32 → St → Option (Int32 × St)) (x3 : Int32) (x4 : Int32) (σ : St) : Option (Int32 × St) :=
if 257 ≤ x4 then (some (x3, σ)) else (if inb x4 257 = true then (if inb x4 257 = true then (bnd (sI σ (q0 + 1) (Int32.toNatClampNeg x4) (gI σ (q0 + 2) (Int32.toNatClampNeg x4))) fun σ4 =>
bnd (x4 + 1) fun v6 =>
rec93 x3 v6 σ4) else none) else none)
noncomputable def f_X8_forecast_B70 (q0 : Nat) (x1 : Int32) (x2 : Int32) (σ : St) : Option (Int32 × St) :=
obd (f_X8_isOver q0 x1 σ) fun v9 =>
if v9 = true then (bnd (sB σ q0 6 false) fun σ13 =>
it3 (f_X8_forecast_L93 q0 x1) sr_fuel x2 0 σ13) else (bnd (sB σ q0 6 false) fun σ11 =>
it3 (f_X8_forecast_L93 q0 x1) sr_fuel (-15) 0 σ11)
noncomputable def f_X8_forecast_L45 (q0 : Nat) (x1 : Int32) (rec45 : Int32 → St → Option (Int32 × St)) (x2 : Int32) (σ : St) : Option (Int32 × St) :=
if 400 ≤ x2 then (f_X8_forecast_B70 q0 x1 x2 σ) else (obd (f_X8_isOver q0 x1 σ) fun v17 =>
if v17 = true then (f_X8_forecast_B70 q0 x1 x2 σ) else (obd (f_X8_passes q0 σ) fun σ20 =>
bnd (x2 + 1) fun v21 =>
rec45 v21 σ20))
noncomputable def f_X8_forecast_L13 (q0 : Nat) (x1 : Int32) (rec13 : Int32 → St → Option (Int32 × St)) (x2 : Int32) (σ : St) : Option (Int32 × St) :=
if 257 ≤ x2 then (bnd (sB σ q0 6 true) fun σ24 =>
it2 (f_X8_forecast_L45 q0 x1) sr_fuel 0 σ24) else (if inb x2 257 = true then (if inb x2 257 = true then (bnd (sI σ (q0 + 2) (Int32.toNatClampNeg x2) (gI σ (q0 + 1) (Int32.toNatClampNeg x2))) fun σ28 =>
bnd (x2 + 1) fun v30 =>
rec13 v30 σ28) else none) else none)
noncomputable def f_X8_forecast (q0 : Nat) (x1 : Int32) (σ : St) : Option (Int32 × St) :=
bnd (f_X8_isChange q0 x1 σ) fun v33 =>
if v33 = true then (it2 (f_X8_forecast_L13 q0 x1) sr_fuel 0 σ) else (some ((-11), σ))
noncomputable def f_X8_entries (q0 : Nat) (σ : St) : Int32 :=
(gI σ (q0 + 1) (Int32.toNatClampNeg 11))
noncomputable def f_X8_entry (q0 : Nat) (x1 : Int32) (x2 : Int32) (σ : St) : Option Int32 :=
bnd (f_X8_in x1 0 ((gI σ (q0 + 1) (Int32.toNatClampNeg 11)) - 1)) fun v2 =>
if v2 = true then (bnd (f_X8_in x2 0 3) fun v5 =>
if v5 = true then (bnd ((12 + (4 * x1)) + x2) fun v7 =>
if inb v7 257 = true then (some (gI σ (q0 + 1) (Int32.toNatClampNeg v7))) else none) else (some (-12))) else (some (-11))
noncomputable def f_X8_count_L35 (σ : St) (q0 : Nat) (x1 : Int32) (x2 : Int32) (rec35 : Int32 → Int32 → Option Int32) (x3 : Int32) (x4 : Int32) : Option Int32 :=
if (12 + (4 * (gI σ (q0 + 1) (Int32.toNatClampNeg 11)))) ≤ x4 then (some x3) else (bnd (x4 + 2) fun v2 =>
if inb v2 257 = true then (if (gI σ (q0 + 1) (Int32.toNatClampNeg v2)) = x1 then (if x2 = (-1) then (bnd (x3 + 1) fun v11 =>
bnd (x4 + 4) fun v13 =>
rec35 v11 v13) else (bnd (x4 + 1) fun v15 =>
if inb v15 257 = true then (if (gI σ (q0 + 1) (Int32.toNatClampNeg v15)) = x2 then (bnd (x3 + 1) fun v23 =>
bnd (x4 + 4) fun v25 =>
rec35 v23 v25) else (bnd (x3 + 0) fun v19 =>
bnd (x4 + 4) fun v21 =>
rec35 v19 v21)) else none)) else (bnd (x3 + 0) fun v6 =>
bnd (x4 + 4) fun v8 =>
rec35 v6 v8)) else none)
noncomputable def f_X8_count (q0 : Nat) (x1 : Int32) (x2 : Int32) (σ : St) : Option Int32 :=
bnd (f_X8_in x1 1 7) fun v28 =>
if v28 = true then (if x2 = (-1) then (it2 (f_X8_count_L35 σ q0 x1 x2) sr_fuel 0 12) else (bnd (f_X8_isChange q0 x2 σ) fun v32 =>
if v32 = true then (it2 (f_X8_count_L35 σ q0 x1 x2) sr_fuel 0 12) else (some (-11)))) else (some (-12))
noncomputable def f_X8_save_L14 (q0 : Nat) (x1 : Int32) (rec14 : Int32 → St → Option (Int32 × St)) (x2 : Int32) (σ : St) : Option (Int32 × St) :=
if 257 ≤ x2 then (if inb x1 2 = true then (bnd (sB σ (q0 + 4) (Int32.toNatClampNeg x1) true) fun σ3 =>
some ((gI σ3 (q0 + 1) (Int32.toNatClampNeg 1)), σ3)) else none) else (if inb x2 257 = true then (bnd ((257 * x1) + x2) fun v6 =>
if inb v6 514 = true then (bnd (sI σ (q0 + 3) (Int32.toNatClampNeg v6) (gI σ (q0 + 1) (Int32.toNatClampNeg x2))) fun σ9 =>
bnd (x2 + 1) fun v11 =>
rec14 v11 σ9) else none) else none)
noncomputable def f_X8_save (q0 : Nat) (x1 : Int32) (σ : St) : Option (Int32 × St) :=
bnd (f_X8_in x1 0 1) fun v14 =>
if v14 = true then (it2 (f_X8_save_L14 q0 x1) sr_fuel 0 σ) else (some ((-11), σ))
noncomputable def f_X8_restore_L26 (q0 : Nat) (x1 : Int32) (rec26 : Int32 → St → Option (Int32 × St)) (x2 : Int32) (σ : St) : Option (Int32 × St) :=
if 257 ≤ x2 then (some ((gI σ (q0 + 1) (Int32.toNatClampNeg 1)), σ)) else (bnd ((257 * x1) + x2) fun v2 =>
if inb v2 514 = true then (if inb x2 257 = true then (bnd (sI σ (q0 + 1) (Int32.toNatClampNeg x2) (gI σ (q0 + 3) (Int32.toNatClampNeg v2))) fun σ6 =>
bnd (x2 + 1) fun v8 =>
rec26 v8 σ6) else none) else none)
noncomputable def f_X8_restore (q0 : Nat) (x1 : Int32) (σ : St) : Option (Int32 × St) :=
bnd (f_X8_in x1 0 1) fun v11 =>
if v11 = true then (if inb x1 2 = true then (if (gB σ (q0 + 4) (Int32.toNatClampNeg x1)) = true then (it2 (f_X8_restore_L26 q0 x1) sr_fuel 0 σ) else (some ((-13), σ))) else none) else (some ((-11), σ))
noncomputable def f_X8_more (w0 : Int64) (w2 : Int64) : Int64 :=
((31 * w0) + w2)
noncomputable def f_X8_checksum_L172 (q0 : Nat) (rec172 : Int64 → Int32 → St → Option (Int64 × St)) (w1 : Int64) (x3 : Int32) (σ : St) : Option (Int64 × St) :=
if (12 + (4 * (gI σ (q0 + 1) (Int32.toNatClampNeg 11)))) ≤ x3 then (some (w1, σ)) else (if inb x3 257 = true then (bnd (f_X8_more w1 (Int32.toInt64 (gI σ (q0 + 1) (Int32.toNatClampNeg x3)))) fun v4 =>
bnd (x3 + 1) fun v5 =>
rec172 v4 v5 σ) else none)
noncomputable def f_X8_checksum_L129 (q0 : Nat) (rec129 : Int64 → Int32 → St → Option (Int64 × St)) (w1 : Int64) (x3 : Int32) (σ : St) : Option (Int64 × St) :=
if (gI σ (q0 + 1) (Int32.toNatClampNeg 0)) ≤ x3 then (bnd (f_X8_more w1 (Int32.toInt64 (gI σ (q0 + 1) (Int32.toNatClampNeg 11)))) fun v9 =>
it3 (f_X8_checksum_L172 q0) sr_fuel v9 12 σ) else (obd (f_X8_having q0 x3 σ) fun v11 =>
bnd (f_X8_more w1 (Int32.toInt64 v11)) fun v13 =>
bnd (x3 + 1) fun v14 =>
rec129 v13 v14 σ)
noncomputable def f_X8_checksum_L70 (q0 : Nat) (rec27 : Int64 → Int32 → St → Option (Int64 × St)) (rec70 : Int64 → Int32 → Int32 → St → Option (Int64 × St)) (w1 : Int64) (x3 : Int32) (x4 : Int32) (σ : St) : Option (Int64 × St) :=
if 4 ≤ x4 then (ob2 (f_X8_chance q0 x3 false σ) fun v18 σ19 =>
bnd (f_X8_more w1 v18) fun v21 =>
ob2 (f_X8_chance q0 x3 true σ19) fun v23 σ24 =>
bnd (f_X8_more v21 v23) fun v26 =>
bnd (x3 + 1) fun v27 =>
rec27 v26 v27 σ24) else (bnd (f_X8_at x3 (5 + x4)) fun v30 =>
if inb v30 257 = true then (bnd (f_X8_more w1 (Int32.toInt64 (gI σ (q0 + 1) (Int32.toNatClampNeg v30)))) fun v33 =>
bnd (x4 + 1) fun v34 =>
rec70 v33 x3 v34 σ) else none)
noncomputable def f_X8_checksum_L41 (q0 : Nat) (rec27 : Int64 → Int32 → St → Option (Int64 × St)) (rec41 : Int64 → Int32 → Int32 → St → Option (Int64 × St)) (w1 : Int64) (x3 : Int32) (x4 : Int32) (σ : St) : Option (Int64 × St) :=
if 7 ≤ x4 then (it4 (f_X8_checksum_L70 q0 rec27) sr_fuel w1 x3 0 σ) else (obd (f_X8_tells q0 x3 x4 σ) fun v38 =>
bnd (f_X8_more w1 (Int32.toInt64 v38)) fun v40 =>
bnd (x4 + 1) fun v41 =>
rec41 v40 x3 v41 σ)
noncomputable def f_X8_checksum_L27 (q0 : Nat) (rec27 : Int64 → Int32 → St → Option (Int64 × St)) (w1 : Int64) (x3 : Int32) (σ : St) : Option (Int64 × St) :=
if (gI σ (q0 + 1) (Int32.toNatClampNeg 10)) ≤ x3 then (it3 (f_X8_checksum_L129 q0) sr_fuel w1 0 σ) else (it4 (f_X8_checksum_L41 q0 rec27) sr_fuel w1 x3 0 σ)
noncomputable def f_X8_checksum (q0 : Nat) (σ : St) : Option (Int64 × St) :=
bnd (f_X8_more 79 (Int32.toInt64 (gI σ (q0 + 1) (Int32.toNatClampNeg 1)))) fun v45 =>
bnd (f_X8_more v45 (Int32.toInt64 (gI σ (q0 + 1) (Int32.toNatClampNeg 10)))) fun v47 =>
it3 (f_X8_checksum_L27 q0) sr_fuel v47 0 σ
end
section
/-! LAYER 2: the functions over the store, side by side. Base rows. -/
theorem gI_sI (σ : St) (k j : Nat) (v : Int32) (k' j' : Nat) : gI (sI σ k j v) k' j' = if k' = k ∧ j' = j then v else gI σ k' j' := by
  unfold gI sI
  by_cases h : k' = k
  · subst h
    simp [upd]
  · simp [h]
theorem gI_s (σ : St) (k j : Nat) (v : Int32) : gI (sI σ k j v) k j = v := by rw [gI_sI, if_pos ⟨rfl, rfl⟩]
theorem gI_n {σ : St} {k j : Nat} {v : Int32} {k' j' : Nat} (h : k' ≠ k ∨ j' ≠ j) : gI (sI σ k j v) k' j' = gI σ k' j' := by
  rw [gI_sI, if_neg]
  intro z
  rcases h with h | h
  · exact h z.1
  · exact h z.2
theorem gI_sL (σ : St) (k j : Nat) (v : Int64) (k' j' : Nat) : gI (sL σ k j v) k' j' = gI σ k' j' := rfl
theorem gI_sB (σ : St) (k j : Nat) (v : Bool) (k' j' : Nat) : gI (sB σ k j v) k' j' = gI σ k' j' := rfl
theorem gL_sI (σ : St) (k j : Nat) (v : Int32) (k' j' : Nat) : gL (sI σ k j v) k' j' = gL σ k' j' := rfl
theorem gL_sB (σ : St) (k j : Nat) (v : Bool) (k' j' : Nat) : gL (sB σ k j v) k' j' = gL σ k' j' := rfl
theorem gB_sI (σ : St) (k j : Nat) (v : Int32) (k' j' : Nat) : gB (sI σ k j v) k' j' = gB σ k' j' := rfl
theorem gB_sL (σ : St) (k j : Nat) (v : Int64) (k' j' : Nat) : gB (sL σ k j v) k' j' = gB σ k' j' := rfl
theorem gL_sL (σ : St) (k j : Nat) (v : Int64) (k' j' : Nat) : gL (sL σ k j v) k' j' = if k' = k ∧ j' = j then v else gL σ k' j' := by
  unfold gL sL
  by_cases h : k' = k
  · subst h
    simp [vp_updL]
  · simp [h]
theorem gB_sB (σ : St) (k j : Nat) (v : Bool) (k' j' : Nat) : gB (sB σ k j v) k' j' = if k' = k ∧ j' = j then v else gB σ k' j' := by
  unfold gB sB
  by_cases h : k' = k
  · subst h
    simp
  · simp [h]
/-- rows of a store -/
theorem rI_s (σ : St) (k j : Nat) (v : Int32) : (sI σ k j v).1 k = upd (σ.1 k) j v := by simp [sI]
theorem rI_n {σ : St} {k j : Nat} {v : Int32} {q : Nat} (h : q ≠ k) : (sI σ k j v).1 q = σ.1 q := by simp [sI, h]
theorem rL_s (σ : St) (k j : Nat) (v : Int64) : (sL σ k j v).2.1 k = vp_updL (σ.2.1 k) j v := by simp [sL]
theorem rL_n {σ : St} {k j : Nat} {v : Int64} {q : Nat} (h : q ≠ k) : (sL σ k j v).2.1 q = σ.2.1 q := by simp [sL, h]
theorem rB_s (σ : St) (k j : Nat) (v : Bool) : (sB σ k j v).2.2 k = (fun b => if b = j then v else σ.2.2 k b) := by simp [sB]
theorem rB_n {σ : St} {k j : Nat} {v : Bool} {q : Nat} (h : q ≠ k) : (sB σ k j v).2.2 q = σ.2.2 q := by simp [sB, h]
theorem rC_s (σ : St) (ks kd n : Nat) : (cpI σ ks kd n).1 kd = va_cpy (σ.1 ks) (σ.1 kd) 0 0 n := by simp [cpI]
theorem rC_n {σ : St} {ks kd n q : Nat} (h : q ≠ kd) : (cpI σ ks kd n).1 q = σ.1 q := by simp [cpI, h]
theorem upd_s (f : Nat → Int32) (k : Nat) (x : Int32) : upd f k x k = x := by simp [upd]
theorem upd_n {f : Nat → Int32} {k j : Nat} {x : Int32} (h : j ≠ k) : upd f k x j = f j := by simp [upd, h]
/-- numbers -/
theorem inb_nI {n N : Nat} (h : n < N) (hN : N ≤ 10000) : inb (nI n) N = true := by
  unfold inb
  rw [nI_clamp (by omega)]
  simp [h, nI_pos' (n := n) (by omega)]
theorem inb_or (x : Int32) {N : Nat} (hN : N ≤ 10000) : (inb x N = true ∧ ∃ n, n < N ∧ x = nI n) ∨ (inb x N = false ∧ (x < 0 ∨ nI N ≤ x)) := by
  rcases pk_ix x (n := N) (by omega) with h | h | ⟨j, hj, rfl⟩
  · right
    refine ⟨?_, Or.inl h⟩
    unfold inb
    simp [Int32.not_le.mpr h]
  · by_cases h0 : x < 0
    · right
      refine ⟨?_, Or.inl h0⟩
      unfold inb
      simp [Int32.not_le.mpr h0]
    · right
      refine ⟨?_, Or.inr h⟩
      obtain ⟨j, hj, rfl⟩ := nI_of h0
      have h2 : N ≤ j := (nI_leI (by omega) hj).mp h
      unfold inb
      rw [nI_clamp hj]
      simp [show ¬ j < N by omega]
  · exact Or.inl ⟨inb_nI hj hN, j, hj, rfl⟩
theorem cl_nI {n : Nat} (h : n < 10000000) : (nI n).toNatClampNeg = n := nI_clamp (by omega)
theorem lt_nI {a b : Nat} (ha : a < 10000000) (hb : b < 10000000) : (nI a < nI b) ↔ a < b := nI_ltI (by omega) (by omega)
theorem le_nI {a b : Nat} (ha : a < 10000000) (hb : b < 10000000) : (nI a ≤ nI b) ↔ a ≤ b := nI_leI (by omega) (by omega)
theorem eq_nI {a b : Nat} (ha : a < 10000000) (hb : b < 10000000) : (nI a = nI b) ↔ a = b := nI_eq (by omega) (by omega)
theorem at_nI (i k : Nat) : f_X8_at (nI i) (nI k) = nI (92 + 33 * i + k) := by
  show nI 92 + nI 33 * nI i + nI k = _
  rw [pk_mul, nI_add, nI_add]
theorem sat_nI (i j k : Nat) : f_X8_stageAt (nI i) (nI j) (nI k) = nI (92 + 33 * i + (9 + 4 * j + k)) := by
  show f_X8_at (nI i) (nI 9 + nI 4 * nI j + nI k) = _
  rw [pk_mul, nI_add, nI_add, at_nI]
theorem within_in (x a b : Int32) : f_X7_isWithin x a b = f_X8_in x a b := by
  by_cases h : x < a <;> simp [f_X7_isWithin, f_X8_in, h]
theorem in_t {x a b : Int32} (h1 : ¬ x < a) (h2 : ¬ b < x) : f_X8_in x a b = true := by unfold f_X8_in; rw [if_neg h1, if_neg h2]
theorem in_iff {x a b : Int32} : f_X8_in x a b = true ↔ ¬ x < a ∧ ¬ b < x := by
  unfold f_X8_in
  by_cases h1 : x < a
  · simp [h1]
  · by_cases h2 : b < x <;> simp [h1, h2]
/-- x in 0 .. n - 1 -/
theorem in_0 (x : Int32) {n : Nat} (hn : n < 10000) : (f_X8_in x 0 (nI n - 1) = true ∧ ∃ j, j < n ∧ x = nI j) ∨ (f_X8_in x 0 (nI n - 1) = false ∧ (x < 0 ∨ nI n ≤ x)) := by
  rcases pk_ix x (n := n) (by omega) with h | h | ⟨j, hj, rfl⟩
  · right
    refine ⟨?_, Or.inl h⟩
    unfold f_X8_in
    rw [if_pos h]
  · by_cases h0 : x < 0
    · right
      refine ⟨?_, Or.inl h0⟩
      unfold f_X8_in
      rw [if_pos h0]
    · right
      refine ⟨?_, Or.inr h⟩
      unfold f_X8_in
      rw [if_neg h0, if_pos]
      obtain ⟨j, hj, rfl⟩ := nI_of h0
      have h2 : n ≤ j := (nI_leI (by omega) hj).mp h
      rw [Int32.lt_iff_toInt_lt, nI_toInt hj]
      have : (nI n - 1).toInt = (n : Int) - 1 := pk_sub_toInt (a := n) (b := 1) (by omega) (by omega)
      omega
  · left
    refine ⟨in_t ?_ ?_, j, hj, rfl⟩
    · exact nI_pos (by omega)
    · rw [Int32.lt_iff_toInt_lt, nI_toInt (by omega)]
      have : (nI n - 1).toInt = (n : Int) - 1 := pk_sub_toInt (a := n) (b := 1) (by omega) (by omega)
      omega
theorem in_lo {x : Int32} (a b : Nat) (ha : a < 10000) (hb : b < 10000) (h : f_X8_in x (nI a) (nI b) = true) : ∃ j, a ≤ j ∧ j ≤ b ∧ x = nI j := by
  obtain ⟨h1, h2⟩ := in_iff.mp h
  rw [Int32.lt_iff_toInt_lt, nI_toInt (by omega)] at h2
  rw [Int32.lt_iff_toInt_lt, nI_toInt (by omega)] at h1
  have h0 : ¬ x < 0 := by
    rw [Int32.lt_iff_toInt_lt]
    have : (0 : Int32).toInt = 0 := rfl
    omega
  obtain ⟨j, hj, rfl⟩ := nI_of h0
  rw [nI_toInt hj] at h1 h2
  exact ⟨j, by omega, by omega, rfl⟩
theorem in_nI {a b j : Nat} (hj : j < 10000) (hb : b < 10000) (ha : a < 10000) : f_X8_in (nI j) (nI a) (nI b) = true ↔ a ≤ j ∧ j ≤ b := by
  rw [in_iff, lt_nI (by omega) (by omega), lt_nI (by omega) (by omega)]
  omega
theorem bI_inj {a b : Bool} (h : bI a = bI b) : a = b := by
  cases a <;> cases b <;> first | rfl | exact absurd h (by decide)
theorem bI_1 {b : Bool} : bI b = 1 ↔ b = true := by cases b <;> decide
theorem bI_0 {b : Bool} : bI b = 0 ↔ b = false := by cases b <;> decide
theorem leN {a b : Nat} (h : a ≤ b) (hb : b < 10000000) : nI a ≤ nI b := (le_nI (by omega) hb).mpr h
theorem nleN {a b : Nat} (h : b < a) (ha : a < 10000000) : ¬ nI a ≤ nI b := fun z => by rw [le_nI ha (by omega)] at z; omega
theorem ltN {a b : Nat} (h : a < b) (hb : b < 10000000) : nI a < nI b := (lt_nI (by omega) hb).mpr h
theorem nltN {a b : Nat} (h : b ≤ a) (ha : a < 10000000) : ¬ nI a < nI b := fun z => by rw [lt_nI ha (by omega)] at z; omega
theorem neN {a b : Nat} (h : a ≠ b) (ha : a < 10000000) (hb : b < 10000000) : ¬ nI a = nI b := fun z => h ((eq_nI ha hb).mp z)
end
section
/-! THE RELATION between the component's store and the reference's -/
/-- the number of sets of k of n things -/
def chs : Nat → Nat → Nat
  | _, 0 => 1
  | 0, _ + 1 => 0
  | n + 1, k + 1 => chs n k + chs n (k + 1)
/-- sum over k from k0 on, m terms -/
def wsum (A B t : Nat) : Nat → Nat → Nat
  | _, 0 => 0
  | k, m + 1 => chs A k * chs B (t - k) + wsum A B t (k + 1) m
def chW (a b c d : Nat) : Nat := wsum (a + c) (b + d) (a + b) a (min (a + b) (a + c) + 1 - a)
def chA (a b c d : Nat) : Nat := chs (a + c + (b + d)) (a + b)
def chN (a b c d : Nat) : Nat := chW a b c d / Nat.gcd (chW a b c d) (chA a b c d)
def chD (a b c d : Nat) : Nat := chA a b c d / Nat.gcd (chW a b c d) (chA a b c d)
/-- one change: its five cells' rows, and its part w of the reference's row -/
def CRw (i : Nat) (r0 r1 r2 r3 r4 : Nat → Int32) (l3 : Nat → Int64) (b0 : Nat → Bool) (w : Nat → Int32) : Prop :=
  ∃ st pl bg m a b c d : Nat, (w 1 = nI st ∧ st ≤ 5 ∧ w 2 = nI pl ∧ pl ≤ 6 ∧ w 3 = nI bg ∧ bg ≤ pl ∧ (st = 0 → bg = 0) ∧ w 4 = nI m ∧ m < 2 ^ i) ∧ (w 5 = nI a ∧ w 6 = nI b ∧ w 7 = nI c ∧ w 8 = nI d ∧ a + b ≤ 25 ∧ c + d ≤ 25) ∧ w 0 = bI (b0 7) ∧
  (r0 4 = w 4 ∧ r0 5 = w 1 ∧ r0 6 = w 3 ∧ r1 1 = w 2) ∧ (∀ k, k < pl → r2 (3 * k) = w (9 + 4 * k) ∧ r2 (3 * k + 1) = w (10 + 4 * k) ∧ r2 (3 * k + 2) = w (11 + 4 * k)) ∧ (∀ k, k < bg → r4 k = w (12 + 4 * k)) ∧
  (r3 0 = w 5 ∧ r3 1 = w 6 ∧ r3 2 = w 7 ∧ r3 3 = w 8 ∧ l3 4 = lN (chN a b c d) ∧ l3 5 = lN (chD a b c d))
theorem CRw.congr {i : Nat} {r0 r1 r2 r3 r4 : Nat → Int32} {l3 : Nat → Int64} {b0 : Nat → Bool} {w w' : Nat → Int32} (h : CRw i r0 r1 r2 r3 r4 l3 b0 w) (hw : ∀ k, k < 33 → w' k = w k) : CRw i r0 r1 r2 r3 r4 l3 b0 w' := by
  obtain ⟨st, pl, bg, m, a, b, c, d, ⟨h1, h2, h3, h4, h5, h6, h7, h8, h9⟩, ⟨g1, g2, g3, g4, g5, g6⟩, e0, ⟨f1, f2, f3, f4⟩, k1, k2, m1, m2, m3, m4, m5, m6⟩ := h
  refine ⟨st, pl, bg, m, a, b, c, d, ⟨(hw 1 (by omega)).trans h1, h2, (hw 2 (by omega)).trans h3, h4, (hw 3 (by omega)).trans h5, h6, h7, (hw 4 (by omega)).trans h8, h9⟩, ⟨(hw 5 (by omega)).trans g1, (hw 6 (by omega)).trans g2, (hw 7 (by omega)).trans g3, (hw 8 (by omega)).trans g4, g5, g6⟩, (hw 0 (by omega)).trans e0, ⟨f1.trans (hw 4 (by omega)).symm, f2.trans (hw 1 (by omega)).symm, f3.trans (hw 3 (by omega)).symm, f4.trans (hw 2 (by omega)).symm⟩, fun k hk => ?_, fun k hk => ?_, m1.trans (hw 5 (by omega)).symm, m2.trans (hw 6 (by omega)).symm, m3.trans (hw 7 (by omega)).symm, m4.trans (hw 8 (by omega)).symm, m5, m6⟩
  · rw [hw _ (by omega), hw _ (by omega), hw _ (by omega)]
    exact k1 k hk
  · rw [hw _ (by omega)]
    exact k2 k hk
/-- frozen spans -/
def SpW (r f t : Nat → Int32) (v : Nat → Int32) : Prop := ∃ ns : Nat, v 3 = nI ns ∧ ns ≤ 3 ∧ r 2 = v 3 ∧ ∀ k, k < ns → f k = v (4 + 2 * k) ∧ t k = v (5 + 2 * k) ∧ ∃ u : Nat, 1 ≤ u ∧ u ≤ 168 ∧ v (5 + 2 * k) = nI u
/-- the log: a ring against a row -/
def LgW (r g : Nat → Int32) (v : Nat → Int32) : Prop := ∃ lg od : Nat, v 11 = nI lg ∧ lg ≤ 20 ∧ od < 20 ∧ r 1 = nI od ∧ r 2 = v 11 ∧ ∀ k, k < lg → ∀ j, j < 4 → g (4 * ((od + k) % 20) + j) = v (12 + 4 * k + j)
def CR (σ : St) (c i : Nat) (v : Nat → Int32) : Prop := CRw i (σ.1 c) (σ.1 (c + 1)) (σ.1 (c + 1 + 1)) (σ.1 (c + 3)) (σ.1 (c + 4)) (σ.2.1 (c + 3)) (σ.2.2 c) (fun k => v (92 + 33 * i + k))
/-- a fleet at b, and a row of the reference -/
def FR (σ : St) (b : Nat) (v : Nat → Int32) : Prop :=
  ((∃ n, v 0 = nI n ∧ 1 ≤ n ∧ n ≤ 8) ∧ (∃ n, v 2 = nI n ∧ n ≤ 1000) ∧ gI σ b 5 = v 0 ∧ gI σ b 6 = v 1 ∧ gI σ b 7 = v 2 ∧ gI σ b 4 = v 10) ∧
  SpW (σ.1 (b + 27)) (σ.1 (b + 27 + 1)) (σ.1 (b + 27 + 2)) v ∧ LgW (σ.1 (b + 30)) (σ.1 (b + 30 + 1)) v ∧
  (∃ sz : Nat, v 10 = nI sz ∧ sz ≤ 5 ∧ ∀ i, i < sz → CR σ (b + 1 + 1 + 5 * i) i v) ∧ ∀ i, i < 5 → gI σ (b + 1 + 1 + 5 * i) 0 = nI i
/-- nothing outside the fleet at b differs -/
def frC (σ σ' : St) (b : Nat) : Prop := ∀ q, (q < b ∨ b + 32 ≤ q) → σ'.1 q = σ.1 q ∧ σ'.2.1 q = σ.2.1 q ∧ σ'.2.2 q = σ.2.2 q
theorem frC.rf {σ : St} {b : Nat} : frC σ σ b := fun _ _ => ⟨rfl, rfl, rfl⟩
theorem frC.tr {σ σ' σ'' : St} {b : Nat} (h : frC σ σ' b) (h' : frC σ' σ'' b) : frC σ σ'' b := fun q hq => ⟨(h' q hq).1.trans (h q hq).1, (h' q hq).2.1.trans (h q hq).2.1, (h' q hq).2.2.trans (h q hq).2.2⟩
theorem frC.I {σ : St} {b k j : Nat} {x : Int32} (h : b ≤ k ∧ k < b + 32) : frC σ (sI σ k j x) b := fun q hq => ⟨rI_n (by omega), rfl, rfl⟩
theorem frC.L {σ : St} {b k j : Nat} {x : Int64} (h : b ≤ k ∧ k < b + 32) : frC σ (sL σ k j x) b := fun q hq => ⟨rfl, rL_n (by omega), rfl⟩
theorem frC.B {σ : St} {b k j : Nat} {x : Bool} (h : b ≤ k ∧ k < b + 32) : frC σ (sB σ k j x) b := fun q hq => ⟨rfl, rfl, rB_n (by omega)⟩
theorem frC.C {σ : St} {b s k n : Nat} (h : b ≤ k ∧ k < b + 32) : frC σ (cpI σ s k n) b := fun q hq => ⟨rC_n (by omega), rfl, rfl⟩
/-- a fleet is where its 32 cells are -/
theorem FR.same {σ σ' : St} {b : Nat} {v : Nat → Int32} (h : FR σ b v) (he : ∀ q, b ≤ q → q < b + 32 → σ'.1 q = σ.1 q ∧ σ'.2.1 q = σ.2.1 q ∧ σ'.2.2 q = σ.2.2 q) : FR σ' b v := by
  obtain ⟨⟨h1, h2, h3, h4, h5, h6⟩, hs, hl, ⟨sz, z1, z2, z3⟩, hn⟩ := h
  have e0 := (he b (by omega) (by omega)).1
  refine ⟨⟨h1, h2, ?_, ?_, ?_, ?_⟩, ?_, ?_, ⟨sz, z1, z2, fun i hi => ?_⟩, fun i hi => ?_⟩
  · unfold gI; rw [e0]; exact h3
  · unfold gI; rw [e0]; exact h4
  · unfold gI; rw [e0]; exact h5
  · unfold gI; rw [e0]; exact h6
  · rw [(he _ (by omega) (by omega)).1, (he _ (by omega) (by omega)).1, (he _ (by omega) (by omega)).1]; exact hs
  · rw [(he _ (by omega) (by omega)).1, (he _ (by omega) (by omega)).1]; exact hl
  · unfold CR
    rw [(he (b + 1 + 1 + 5 * i) (by omega) (by omega)).1, (he (b + 1 + 1 + 5 * i + 1) (by omega) (by omega)).1, (he (b + 1 + 1 + 5 * i + 1 + 1) (by omega) (by omega)).1, (he (b + 1 + 1 + 5 * i + 3) (by omega) (by omega)).1, (he (b + 1 + 1 + 5 * i + 4) (by omega) (by omega)).1, (he (b + 1 + 1 + 5 * i + 3) (by omega) (by omega)).2.1, (he (b + 1 + 1 + 5 * i) (by omega) (by omega)).2.2]
    exact z3 i hi
  · unfold gI; rw [(he (b + 1 + 1 + 5 * i) (by omega) (by omega)).1]; exact hn i hi
/-- the reference's table of numbers of sets -/
def SetsOK (τ : St) : Prop := gL τ (0 + 7) 0 = 0 ∨ ∀ n, n ≤ 50 → ∀ k, k ≤ n → gL τ (0 + 7) (51 * n + k) = lN (chs n k)
def TxR (σ τ : St) : Prop := ∃ len : Nat, gI τ 0 5 = nI len ∧ len ≤ 60 ∧ gI σ (0 + 131) 2 = nI len ∧ ∀ k, k < len → ∃ ch : Nat, ch ≤ 127 ∧ gI σ (0 + 131 + 1) k = nI ch ∧ gI τ (0 + 5) k = nI ch
def KpR (σ τ : St) : Prop := ∀ j, j < 2 → gB σ (0 + 66) j = gB τ (0 + 4) j ∧ (gB τ (0 + 4) j = true → FR σ (0 + 65 + 2 + 32 * j) (fun k => gI τ (0 + 3) (257 * j + k)))
/-- what stays as it was made -/
def StR (σ : St) : Prop := gB σ (0 + 1) 3 = false ∧ gB σ (0 + 33) 3 = true ∧ (∀ i, i < 5 → gI σ (0 + 33 + 1 + 1 + 5 * i) 0 = nI i) ∧ ∀ j, j < 2 → ∀ i, i < 5 → gI σ (0 + 65 + 2 + 32 * j + 1 + 1 + 5 * i) 0 = nI i
def Rel (σ τ : St) : Prop := FR σ (0 + 1) (τ.1 (0 + 1)) ∧ TxR σ τ ∧ KpR σ τ ∧ StR σ ∧ SetsOK τ ∧ gB τ 0 6 = false
end
section
theorem SpW.congr {r f t v v' : Nat → Int32} (h : SpW r f t v) (hv : ∀ k, 3 ≤ k → k < 10 → v' k = v k) : SpW r f t v' := by
  obtain ⟨ns, h1, h2, h3, h4⟩ := h
  refine ⟨ns, (hv 3 (by omega) (by omega)).trans h1, h2, h3.trans (hv 3 (by omega) (by omega)).symm, fun k hk => ?_⟩
  rw [hv (4 + 2 * k) (by omega) (by omega), hv (5 + 2 * k) (by omega) (by omega)]
  exact h4 k hk
theorem LgW.congr {r g v v' : Nat → Int32} (h : LgW r g v) (hv : ∀ k, 11 ≤ k → k < 92 → v' k = v k) : LgW r g v' := by
  obtain ⟨lg, od, h1, h2, h3, h4, h5, h6⟩ := h
  refine ⟨lg, od, (hv 11 (by omega) (by omega)).trans h1, h2, h3, h4, h5.trans (hv 11 (by omega) (by omega)).symm, fun k hk j hj => ?_⟩
  rw [hv _ (by omega) (by omega)]
  exact h6 k hk j hj
theorem CR.congr {σ σ' : St} {c i : Nat} {v v' : Nat → Int32} (h : CR σ c i v) (he : ∀ q, c ≤ q → q < c + 5 → σ'.1 q = σ.1 q ∧ σ'.2.1 q = σ.2.1 q ∧ σ'.2.2 q = σ.2.2 q) (hv : ∀ k, k < 33 → v' (92 + 33 * i + k) = v (92 + 33 * i + k)) : CR σ' c i v' := by
  unfold CR at h ⊢
  rw [(he c (by omega) (by omega)).1, (he (c + 1) (by omega) (by omega)).1, (he (c + 1 + 1) (by omega) (by omega)).1, (he (c + 3) (by omega) (by omega)).1, (he (c + 4) (by omega) (by omega)).1, (he (c + 3) (by omega) (by omega)).2.1, (he c (by omega) (by omega)).2.2]
  exact h.congr hv
/-- the fleet's own cell changes alone: cells, hour, limit -/
theorem FR.hdr {σ σ' : St} {b : Nat} {v v' : Nat → Int32} (h : FR σ b v) (he : ∀ q, b < q → q < b + 32 → σ'.1 q = σ.1 q ∧ σ'.2.1 q = σ.2.1 q ∧ σ'.2.2 q = σ.2.2 q) (hv : ∀ k, 3 ≤ k → k < 257 → v' k = v k) (h0 : ∃ n, v' 0 = nI n ∧ 1 ≤ n ∧ n ≤ 8) (h2 : ∃ n, v' 2 = nI n ∧ n ≤ 1000) (e5 : gI σ' b 5 = v' 0) (e6 : gI σ' b 6 = v' 1) (e7 : gI σ' b 7 = v' 2) (e4 : gI σ' b 4 = gI σ b 4) : FR σ' b v' := by
  obtain ⟨⟨-, -, -, -, -, h6⟩, hs, hl, ⟨sz, z1, z2, z3⟩, hn⟩ := h
  refine ⟨⟨h0, h2, e5, e6, e7, (e4.trans h6).trans (hv 10 (by omega) (by omega)).symm⟩, ?_, ?_, ⟨sz, (hv 10 (by omega) (by omega)).trans z1, z2, fun i hi => ?_⟩, fun i hi => ?_⟩
  · rw [(he _ (by omega) (by omega)).1, (he _ (by omega) (by omega)).1, (he _ (by omega) (by omega)).1]
    exact hs.congr (fun k h1 h2 => hv k h1 (by omega))
  · rw [(he _ (by omega) (by omega)).1, (he _ (by omega) (by omega)).1]
    exact hl.congr (fun k h1 h2 => hv k (by omega) (by omega))
  · exact (z3 i hi).congr (fun q h1 h2 => he q (by omega) (by omega)) (fun k hk => hv _ (by omega) (by omega))
  · unfold gI
    rw [(he (b + 1 + 1 + 5 * i) (by omega) (by omega)).1]
    exact hn i hi
def frM (τ τ' : St) : Prop := (∀ q, 2 ≤ q → τ'.1 q = τ.1 q) ∧ (∀ j, j ≠ 7 → gI τ' 0 j = gI τ 0 j) ∧ τ'.2.2 = τ.2.2
theorem frM.rf {τ : St} : frM τ τ := ⟨fun _ _ => rfl, fun _ _ => rfl, rfl⟩
theorem frM.tr {τ τ' τ'' : St} (h : frM τ τ') (h' : frM τ' τ'') : frM τ τ'' := ⟨fun q hq => (h'.1 q hq).trans (h.1 q hq), fun j hj => (h'.2.1 j hj).trans (h.2.1 j hj), h'.2.2.trans h.2.2⟩
theorem frM.row {τ : St} {j : Nat} {x : Int32} : frM τ (sI τ (0 + 1) j x) := ⟨fun q hq => rI_n (by omega), fun j _ => gI_n (Or.inl (by omega)), rfl⟩
theorem frM.noted {τ : St} {x : Int32} : frM τ (sI τ 0 7 x) := ⟨fun q hq => rI_n (by omega), fun j hj => gI_n (Or.inr hj), rfl⟩
theorem frM.long {τ : St} {k j : Nat} {x : Int64} : frM τ (sL τ k j x) := ⟨fun q hq => rfl, fun j hj => rfl, rfl⟩
theorem TxR.same {σ σ' τ τ' : St} (h : TxR σ τ) (e1 : σ'.1 (0 + 131) 2 = σ.1 (0 + 131) 2) (e2 : σ'.1 (0 + 131 + 1) = σ.1 (0 + 131 + 1)) (e3 : gI τ' 0 5 = gI τ 0 5) (e4 : τ'.1 (0 + 5) = τ.1 (0 + 5)) : TxR σ' τ' := by
  obtain ⟨len, h1, h2, h3, h4⟩ := h
  refine ⟨len, e3.trans h1, h2, e1.trans h3, fun k hk => ?_⟩
  unfold gI
  rw [e2, e4]
  exact h4 k hk
theorem Rel.step {σ σ' τ τ' : St} (hR : Rel σ τ) (hF : FR σ' (0 + 1) (τ'.1 (0 + 1))) (fc : frC σ σ' (0 + 1)) (fm : frM τ τ') (hS : SetsOK τ') (hb : gB σ' (0 + 1) 3 = gB σ (0 + 1) 3) : Rel σ' τ' := by
  obtain ⟨-, ht, hk, hs, -, hi⟩ := hR
  refine ⟨hF, ht.same ?_ ?_ (fm.2.1 5 (by omega)) (fm.1 _ (by omega)), fun j hj => ⟨?_, fun hx => ?_⟩, ⟨hb.trans hs.1, ?_, fun i hi => ?_, fun j hj i hi => ?_⟩, hS, ?_⟩
  · rw [(fc _ (by omega)).1]
  · rw [(fc _ (by omega)).1]
  · unfold gB
    rw [(fc _ (by omega)).2.2, fm.2.2]
    exact (hk j hj).1
  · have hx' : gB τ (0 + 4) j = true := by unfold gB at hx ⊢; rw [fm.2.2] at hx; exact hx
    have h2 := (hk j hj).2 hx'
    have e : (fun k => gI τ' (0 + 3) (257 * j + k)) = fun k => gI τ (0 + 3) (257 * j + k) := by
      funext k
      unfold gI
      rw [fm.1 _ (by omega)]
    rw [e]
    exact h2.same (fun q h1 h2 => fc q (by omega))
  · unfold gB
    rw [(fc _ (by omega)).2.2]
    exact hs.2.1
  · unfold gI
    rw [(fc _ (by omega)).1]
    exact hs.2.2.1 i hi
  · unfold gI
    rw [(fc _ (by omega)).1]
    exact hs.2.2.2 j hj i hi
  · unfold gB
    rw [fm.2.2]
    exact hi
theorem SetsOK.same {τ τ' : St} (h : SetsOK τ) (e : τ'.2.1 (0 + 7) = τ.2.1 (0 + 7)) : SetsOK τ' := by
  unfold SetsOK gL at h ⊢
  rw [e]
  exact h
theorem op_time {σ τ : St} (hR : Rel σ τ) : ∃ r, f_X7_time 0 σ = r ∧ f_X8_time 0 τ = r ∧ Rel σ τ := ⟨_, rfl, hR.1.1.2.2.2.1.symm, hR⟩
theorem op_changes {σ τ : St} (hR : Rel σ τ) : ∃ r, f_X7_changes 0 σ = r ∧ f_X8_changes 0 τ = r ∧ Rel σ τ := ⟨_, rfl, hR.1.1.2.2.2.2.2.symm, hR⟩
theorem op_entries {σ τ : St} (hR : Rel σ τ) : ∃ r, f_X7_entries 0 σ = r ∧ f_X8_entries 0 τ = r ∧ Rel σ τ := by
  obtain ⟨lg, od, h1, h2, h3, h4, h5, h6⟩ := hR.1.2.2.1
  exact ⟨_, rfl, h5.symm, hR⟩
theorem puts_nI {τ : St} {m : Nat} {x : Int32} (hm : m < 257) : f_X8_puts 0 (nI m) x τ = some (gI τ (0 + 1) m, sI τ (0 + 1) m x) := by
  unfold f_X8_puts
  simp only [bnd, inb_nI hm (by omega), if_true, cl_nI (show m < 10000000 by omega)]
theorem obd_s {α ρ : Type} (a : α) (f : α → Option ρ) : obd (some a) f = f a := rfl
theorem ob2_s {α β ρ : Type} (a : α) (b : β) (f : α → β → Option ρ) : ob2 (some (a, b)) f = f a b := rfl
theorem bn2_s {α β ρ : Type} (a : α) (b : β) (f : α → β → ρ) : bn2 (a, b) f = f a b := rfl
theorem opt_s {ρ : Type} (q : Nat) (z : ρ) (f : Nat → ρ) : opt (some q) z f = f q := rfl
theorem opt_n {ρ : Type} (z : ρ) (f : Nat → ρ) : opt none z f = z := rfl
theorem bnd_d {α ρ : Type} (a : α) (f : α → ρ) : bnd a f = f a := rfl
theorem op_setLimit {σ τ : St} (hR : Rel σ τ) (x1 : Int32) : ∃ r σ' τ', f_X7_setLimit 0 x1 σ = (r, σ') ∧ f_X8_setLimit 0 x1 τ = some (r, τ') ∧ Rel σ' τ' := by
  unfold f_X7_setLimit f_X8_setLimit
  simp only [bnd_d, within_in]
  by_cases h : f_X8_in x1 0 1000 = true
  · rw [if_pos h, if_pos h]
    obtain ⟨j, -, hj, rfl⟩ := in_lo 0 1000 (by omega) (by omega) h
    have hF := hR.1
    rw [show (2 : Int32) = nI 2 from rfl, puts_nI (by omega), ob2_s, show gI τ (0 + 1) 2 = gI σ (0 + 1) 7 from hF.1.2.2.2.2.1.symm]
    refine ⟨_, _, _, rfl, rfl, ?_⟩
    refine hR.step ?_ (frC.I (by omega)) frM.row (hR.2.2.2.2.1.same rfl) rfl
    rw [rI_s]
    refine hF.hdr (fun q h1 h2 => ⟨rI_n (by omega), rfl, rfl⟩) (fun k h1 h2 => upd_n (by omega)) ?_ ⟨j, upd_s _ _ _, hj⟩ ?_ ?_ ?_ ?_
    · rw [upd_n (by omega)]; exact hF.1.1
    · rw [gI_n (Or.inr (by omega)), upd_n (by omega)]; exact hF.1.2.2.1
    · rw [gI_n (Or.inr (by omega)), upd_n (by omega)]; exact hF.1.2.2.2.1
    · rw [gI_s, upd_s]
    · rw [gI_n (Or.inr (by omega))]
  · rw [if_neg h, if_neg h]
    exact ⟨_, _, _, rfl, rfl, hR⟩
/-- all but the fleet's own cell may change -/
theorem FR.mod {σ σ' : St} {b : Nat} {v v' : Nat → Int32} (h : FR σ b v) (hb : σ'.1 b = σ.1 b) (h0 : v' 0 = v 0) (h1 : v' 1 = v 1) (h2 : v' 2 = v 2) (h10 : v' 10 = v 10) (hs : SpW (σ'.1 (b + 27)) (σ'.1 (b + 27 + 1)) (σ'.1 (b + 27 + 2)) v') (hl : LgW (σ'.1 (b + 30)) (σ'.1 (b + 30 + 1)) v') (hc : ∀ sz, v 10 = nI sz → sz ≤ 5 → ∀ i, i < sz → CR σ' (b + 1 + 1 + 5 * i) i v') (hn : ∀ i, i < 5 → gI σ' (b + 1 + 1 + 5 * i) 0 = gI σ (b + 1 + 1 + 5 * i) 0) : FR σ' b v' := by
  obtain ⟨⟨a0, a2, a3, a4, a5, a6⟩, -, -, ⟨sz, z1, z2, z3⟩, hn0⟩ := h
  have e : ∀ j, gI σ' b j = gI σ b j := fun j => by unfold gI; rw [hb]
  refine ⟨⟨by rw [h0]; exact a0, by rw [h2]; exact a2, by rw [e, h0]; exact a3, by rw [e, h1]; exact a4, by rw [e, h2]; exact a5, by rw [e, h10]; exact a6⟩, hs, hl, ⟨sz, h10.trans z1, z2, hc sz z1 z2⟩, fun i hi => (hn i hi).trans (hn0 i hi)⟩
theorem FR.sz {σ : St} {b : Nat} {v : Nat → Int32} (h : FR σ b v) : ∃ sz, v 10 = nI sz ∧ gI σ b 4 = nI sz ∧ sz ≤ 5 ∧ ∀ i, i < sz → CR σ (b + 1 + 1 + 5 * i) i v := by
  obtain ⟨⟨a0, a2, a3, a4, a5, a6⟩, -, -, ⟨sz, z1, z2, z3⟩, hn0⟩ := h
  exact ⟨sz, z1, a6.trans z1, z2, z3⟩
theorem FR.crs {σ : St} {b : Nat} {v : Nat → Int32} (h : FR σ b v) : ∀ sz, v 10 = nI sz → sz ≤ 5 → ∀ i, i < sz → CR σ (b + 1 + 1 + 5 * i) i v := by
  intro sz e hsz i hi
  obtain ⟨sz', z1, -, z2, z3⟩ := h.sz
  have : sz = sz' := (eq_nI (by omega) (by omega)).mp (e.symm.trans z1)
  exact z3 i (by omega)
theorem op_thaw {σ τ : St} (hR : Rel σ τ) : ∃ r σ' τ', f_X7_thaw 0 σ = (r, σ') ∧ f_X8_thaw 0 τ = some (r, τ') ∧ Rel σ' τ' := by
  unfold f_X7_thaw f_X8_thaw
  have hF := hR.1
  obtain ⟨ns, n1, n2, n3, n4⟩ := hF.2.1
  rw [show (3 : Int32) = nI 3 from rfl, puts_nI (by omega), ob2_s]
  simp only [bnd_d]
  rw [show gI τ (0 + 1) 3 = gI σ (0 + 1 + 27) 2 from n3.symm]
  refine ⟨_, _, _, rfl, rfl, ?_⟩
  refine hR.step ?_ (frC.I (by omega)) frM.row (hR.2.2.2.2.1.same rfl) rfl
  rw [rI_s]
  refine hF.mod (rI_n (by omega)) (upd_n (by omega)) (upd_n (by omega)) (upd_n (by omega)) (upd_n (by omega)) ?_ ?_ ?_ ?_
  · refine ⟨0, upd_s _ _ _, by omega, ?_, fun k hk => absurd hk (by omega)⟩
    rw [rI_s, upd_s, upd_s]
  · rw [rI_n (by omega), rI_n (by omega)]
    exact hF.2.2.1.congr (fun k h1 h2 => upd_n (by omega))
  · intro sz z1 z2 i hi
    exact (hF.crs sz z1 z2 i hi).congr (fun q h1 h2 => ⟨rI_n (by omega), rfl, rfl⟩) (fun k hk => upd_n (by omega))
  · intro i hi
    exact gI_n (Or.inl (by omega))
theorem op_clearText {σ τ : St} (hR : Rel σ τ) : ∃ r σ' τ', f_X7_clearText 0 σ = (r, σ') ∧ f_X8_clearText 0 τ = (r, τ') ∧ Rel σ' τ' := by
  unfold f_X7_clearText f_X8_clearText
  simp only [bnd_d]
  obtain ⟨hF, ⟨len, t1, t2, t3, t4⟩, hk, hs, hS, hi⟩ := hR
  rw [t1, t3]
  refine ⟨_, _, _, rfl, rfl, ?_, ?_, ?_, ?_, hS, hi⟩
  · rw [rI_n (by omega)]
    exact hF.same (fun q h1 h2 => ⟨rI_n (by omega), rfl, rfl⟩)
  · exact ⟨0, gI_s _ _ _ _, by omega, gI_s _ _ _ _, fun k hk => absurd hk (by omega)⟩
  · intro j hj
    refine ⟨(hk j hj).1, fun hx => ?_⟩
    have e : (fun k => gI (sI τ 0 5 0) (0 + 3) (257 * j + k)) = fun k => gI τ (0 + 3) (257 * j + k) := funext fun k => gI_n (Or.inl (by omega))
    rw [e]
    exact ((hk j hj).2 hx).same (fun q h1 h2 => ⟨rI_n (by omega), rfl, rfl⟩)
  · refine ⟨hs.1, hs.2.1, fun i hi => ?_, fun j hj i hi => ?_⟩
    · rw [gI_n (Or.inl (by omega))]; exact hs.2.2.1 i hi
    · rw [gI_n (Or.inl (by omega))]; exact hs.2.2.2 j hj i hi
theorem b7 : ∀ n, n < 128 → ((nI n).toInt8.toInt32).toInt8.toInt32 = nI n := by decide +kernel
theorem op_append {σ τ : St} (hR : Rel σ τ) (x1 : Int32) : ∃ r σ' τ', f_X7_append 0 x1 σ = some (r, σ') ∧ f_X8_append 0 x1 τ = some (r, τ') ∧ Rel σ' τ' := by
  unfold f_X7_append f_X8_append
  simp only [bnd_d, within_in]
  by_cases h : f_X8_in x1 0 127 = true
  · rw [if_pos h, if_pos h]
    obtain ⟨ch, -, hch, rfl⟩ := in_lo 0 127 (by omega) (by omega) h
    have hR0 := hR
    obtain ⟨hF, ⟨len, t1, t2, t3, t4⟩, hk, hs, hS, hi⟩ := hR
    unfold f_X5_put
    rw [t1, t3]
    have e60 : (60 : Int32) = nI 60 := rfl
    rw [if_neg (nI_pos (by omega)), e60]
    by_cases hl : len = 60
    · subst hl
      rw [if_neg (by rw [lt_nI (by omega) (by omega)]; omega), if_pos rfl, ob2_s, if_neg (by decide)]
      exact ⟨_, _, _, rfl, rfl, hR0⟩
    · rw [if_pos ((lt_nI (by omega) (by omega)).mpr (by omega)), if_neg (by rw [eq_nI (by omega) (by omega)]; omega)]
      simp only [bnd_d]
      rw [if_pos (inb_nI (by omega) (by omega)), if_pos (inb_nI (by omega) (by omega)), ob2_s, if_pos rfl, cl_nI (by omega)]
      have e1 : gI (sI σ (0 + 131 + 1) len ((nI ch).toInt8.toInt32).toInt8.toInt32) (0 + 131) 2 = nI len := by rw [gI_n (Or.inl (by omega))]; exact t3
      have e2 : gI (sI τ (0 + 5) len (nI ch)) 0 5 = nI len := by rw [gI_n (Or.inl (by omega))]; exact t1
      rw [e1, e2, gI_s, gI_s, nI_1, b7 ch (by omega)]
      refine ⟨_, _, _, rfl, rfl, ?_, ?_, ?_, ?_, hS, hi⟩
      · rw [rI_n (by omega), rI_n (by omega)]
        exact hF.same (fun q h1 h2 => ⟨by rw [rI_n (by omega), rI_n (by omega)], rfl, rfl⟩)
      · refine ⟨len + 1, gI_s _ _ _ _, by omega, gI_s _ _ _ _, fun k hk2 => ?_⟩
        rw [gI_n (Or.inl (by omega)), gI_n (k := 0) (Or.inl (by omega))]
        by_cases hkl : k = len
        · subst hkl
          exact ⟨ch, hch, gI_s _ _ _ _, gI_s _ _ _ _⟩
        · rw [gI_n (Or.inr hkl), gI_n (Or.inr hkl)]
          exact t4 k (by omega)
      · intro j hj
        refine ⟨(hk j hj).1, fun hx => ?_⟩
        have e : (fun k => gI (sI (sI τ (0 + 5) len (nI ch)) 0 5 (nI (len + 1))) (0 + 3) (257 * j + k)) = fun k => gI τ (0 + 3) (257 * j + k) := funext fun k => by rw [gI_n (Or.inl (by omega)), gI_n (Or.inl (by omega))]
        rw [e]
        exact ((hk j hj).2 hx).same (fun q h1 h2 => ⟨by rw [rI_n (by omega), rI_n (by omega)], rfl, rfl⟩)
      · refine ⟨hs.1, hs.2.1, fun i hi => ?_, fun j hj i hi => ?_⟩
        · rw [gI_n (Or.inl (by omega)), gI_n (Or.inl (by omega))]; exact hs.2.2.1 i hi
        · rw [gI_n (Or.inl (by omega)), gI_n (Or.inl (by omega))]; exact hs.2.2.2 j hj i hi
  · rw [if_neg h, if_neg h]
    exact ⟨_, _, _, rfl, rfl, hR⟩
end
section
theorem fuel_ex : ∃ F, 5000 ≤ F ∧ sr_fuel = F := ⟨sr_fuel, Nat.le_of_eq sr_fuel_eq.symm, rfl⟩
/-- is the hour h frozen by the spans k .. k + m - 1 -/
noncomputable def frz (v : Nat → Int32) (h : Int32) : Nat → Nat → Bool
  | _, 0 => false
  | k, m + 1 => f_X8_in h (v (4 + 2 * k)) (v (5 + 2 * k) - 1) || frz v h (k + 1) m
theorem in_half {h a : Int32} {u : Nat} (h1 : 1 ≤ u) (h2 : u ≤ 168) : f_X8_in h a (nI u - 1) = (if h < a then false else if nI u ≤ h then false else true) := by
  have e : (nI u - 1 < h) ↔ nI u ≤ h := by
    rw [Int32.lt_iff_toInt_lt, Int32.le_iff_toInt_le, nI_toInt (by omega)]
    have : (nI u - 1).toInt = (u : Int) - 1 := pk_sub_toInt (a := u) (b := 1) (by omega) (by omega)
    omega
  unfold f_X8_in
  simp only [e]
theorem covers_L {σ : St} {q : Nat} {v : Nat → Int32} {h : Int32} {ns : Nat} (hns : ns ≤ 3) (e2 : gI σ q 2 = nI ns) (hk : ∀ k, k < ns → gI σ (q + 1) k = v (4 + 2 * k) ∧ gI σ (q + 2) k = v (5 + 2 * k) ∧ ∃ u : Nat, 1 ≤ u ∧ u ≤ 168 ∧ v (5 + 2 * k) = nI u) : ∀ (m k n : Nat), k + m = ns → m < n → it1 (f_X2_covers_L2 σ q h) n (nI k) = some (frz v h k m) := by
  intro m
  induction m with
  | zero =>
    intro k n hkm hn
    obtain ⟨n, rfl⟩ : ∃ n', n = n' + 1 := ⟨n - 1, by omega⟩
    show f_X2_covers_L2 σ q h (it1 (f_X2_covers_L2 σ q h) n) (nI k) = _
    unfold f_X2_covers_L2
    rw [e2, if_pos ((le_nI (by omega) (by omega)).mpr (by omega))]
    rfl
  | succ m ih =>
    intro k n hkm hn
    obtain ⟨n, rfl⟩ : ∃ n', n = n' + 1 := ⟨n - 1, by omega⟩
    show f_X2_covers_L2 σ q h (it1 (f_X2_covers_L2 σ q h) n) (nI k) = _
    obtain ⟨a1, a2, u, u1, u2, u3⟩ := hk k (by omega)
    have ih' := ih (k + 1) n (by omega) (by omega)
    generalize it1 (f_X2_covers_L2 σ q h) n = g at ih' ⊢
    unfold f_X2_covers_L2
    rw [e2, if_neg (by rw [le_nI (by omega) (by omega)]; omega), show (3 : Int32) = nI 3 from rfl, if_neg (by rw [le_nI (by omega) (by omega)]; omega), if_pos (inb_nI (by omega) (by omega)), if_pos (inb_nI (by omega) (by omega)), cl_nI (by omega)]
    simp only [bnd_d, nI_1]
    rw [ih', a1, a2]
    show _ = some (f_X8_in h (v (4 + 2 * k)) (v (5 + 2 * k) - 1) || frz v h (k + 1) m)
    rw [u3, in_half u1 u2]
    by_cases c1 : h < v (4 + 2 * k)
    · simp [c1]
    · by_cases c2 : nI u ≤ h <;> simp [c1, c2]
theorem frozen_L {τ : St} {v : Nat → Int32} {h : Int32} {ns : Nat} (hns : ns ≤ 3) (ev : v = τ.1 (0 + 1)) (e3 : v 3 = nI ns) : ∀ (m k n : Nat) (b : Bool), k + m = ns → m < n → it2 (f_X8_isFrozenHour_L4 τ 0 h) n b (nI k) = some (b || frz v h k m) := by
  have er : ∀ j, gI τ (0 + 1) j = v j := fun j => by rw [ev]; rfl
  intro m
  induction m with
  | zero =>
    intro k n b hkm hn
    obtain ⟨n, rfl⟩ : ∃ n', n = n' + 1 := ⟨n - 1, by omega⟩
    show f_X8_isFrozenHour_L4 τ 0 h (it2 (f_X8_isFrozenHour_L4 τ 0 h) n) b (nI k) = _
    unfold f_X8_isFrozenHour_L4
    rw [show (3 : Int32).toNatClampNeg = 3 from rfl, er, e3, if_pos ((le_nI (by omega) (by omega)).mpr (by omega))]
    simp [frz]
  | succ m ih =>
    intro k n b hkm hn
    obtain ⟨n, rfl⟩ : ∃ n', n = n' + 1 := ⟨n - 1, by omega⟩
    show f_X8_isFrozenHour_L4 τ 0 h (it2 (f_X8_isFrozenHour_L4 τ 0 h) n) b (nI k) = _
    have ih1 := ih (k + 1) n true (by omega) (by omega)
    have ih2 := ih (k + 1) n false (by omega) (by omega)
    generalize it2 (f_X8_isFrozenHour_L4 τ 0 h) n = g at ih1 ih2 ⊢
    unfold f_X8_isFrozenHour_L4
    rw [show (3 : Int32).toNatClampNeg = 3 from rfl, er, e3, if_neg (by rw [le_nI (by omega) (by omega)]; omega)]
    have i1 : (4 : Int32) + 2 * nI k = nI (4 + 2 * k) := by show nI 4 + nI 2 * nI k = _; rw [pk_mul, nI_add]
    have i2 : (4 : Int32) + 2 * nI k + 1 = nI (5 + 2 * k) := by rw [i1, nI_1]; congr 1; omega
    simp only [bnd_d, nI_1, i1, i2]
    rw [show 4 + 2 * k + 1 = 5 + 2 * k by omega, if_pos (inb_nI (by omega) (by omega)), if_pos (inb_nI (by omega) (by omega)), cl_nI (by omega), cl_nI (by omega), er, er, ih1, ih2]
    show _ = some (b || (f_X8_in h (v (4 + 2 * k)) (v (5 + 2 * k) - 1) || frz v h (k + 1) m))
    cases b
    · cases f_X8_in h (v (4 + 2 * k)) (v (5 + 2 * k) - 1) <;> simp
    · simp
theorem covers_eq {σ : St} {b : Nat} {v : Nat → Int32} (h : FR σ b v) (x : Int32) : f_X2_covers (b + 27) x σ = some (frz v x 0 (v 3).toNatClampNeg) := by
  obtain ⟨ns, n1, n2, n3, n4⟩ := h.2.1
  rw [n1, cl_nI (by omega)]
  obtain ⟨F, hFu, eF⟩ := fuel_ex
  unfold f_X2_covers
  rw [eF]
  exact covers_L (ns := ns) (by omega) (n3.trans n1) (fun k hk => n4 k hk) ns 0 F (by omega) (by omega)
theorem frozen_eq {τ : St} (h3 : ∃ ns, τ.1 (0 + 1) 3 = nI ns ∧ ns ≤ 3) (x : Int32) : f_X8_isFrozenHour 0 x τ = some (frz (τ.1 (0 + 1)) x 0 (τ.1 (0 + 1) 3).toNatClampNeg) := by
  obtain ⟨ns, n1, n2⟩ := h3
  rw [n1, cl_nI (by omega)]
  obtain ⟨F, hFu, eF⟩ := fuel_ex
  unfold f_X8_isFrozenHour
  rw [eF, show (0 : Int32) = nI 0 from rfl, frozen_L (ns := ns) (by omega) rfl n1 ns 0 F false (by omega) (by omega)]
  simp
theorem FR.ns {σ : St} {b : Nat} {v : Nat → Int32} (h : FR σ b v) : ∃ ns, v 3 = nI ns ∧ ns ≤ 3 := by
  obtain ⟨ns, n1, n2, n3, n4⟩ := h.2.1
  exact ⟨ns, n1, n2⟩
theorem op_isFrozen {σ τ : St} (hR : Rel σ τ) (x1 : Int32) : ∃ r, f_X7_isFrozen 0 x1 σ = some r ∧ f_X8_isFrozen 0 x1 τ = some r ∧ Rel σ τ := by
  unfold f_X7_isFrozen f_X8_isFrozen
  simp only [bnd_d, within_in]
  rw [covers_eq hR.1, frozen_eq hR.1.ns]
  by_cases h : f_X8_in x1 0 167 = true
  · simp only [h, if_true, obd_s]
    cases frz (τ.1 (0 + 1)) x1 0 (τ.1 (0 + 1) 3).toNatClampNeg
    · exact ⟨_, rfl, rfl, hR⟩
    · exact ⟨_, rfl, rfl, hR⟩
  · simp only [h]
    exact ⟨_, rfl, rfl, hR⟩
theorem op_freeze {σ τ : St} (hR : Rel σ τ) (x1 x2 : Int32) : ∃ r σ' τ', f_X7_freeze 0 x1 x2 σ = some (r, σ') ∧ f_X8_freeze 0 x1 x2 τ = some (r, τ') ∧ Rel σ' τ' := by
  unfold f_X7_freeze f_X8_freeze
  simp only [bnd_d, within_in]
  by_cases h : f_X8_in x1 0 167 = true
  · rw [if_pos h, if_pos h]
    by_cases g : f_X8_in x2 (x1 + 1) 168 = true
    · rw [if_pos g, if_pos g]
      obtain ⟨f, -, hf, rfl⟩ := in_lo 0 167 (by omega) (by omega) h
      rw [nI_1] at g
      obtain ⟨u, u1, u2, rfl⟩ := in_lo (f + 1) 168 (by omega) (by omega) g
      have hF := hR.1
      obtain ⟨ns, n1, n2, n3, n4⟩ := hF.2.1
      have er : ∀ j, gI τ (0 + 1) j = τ.1 (0 + 1) j := fun j => rfl
      unfold f_X2_put
      have n3' : gI σ (0 + 1 + 27) 2 = nI ns := n3.trans n1
      rw [n3', if_neg (nI_pos (by omega)), show (3 : Int32).toNatClampNeg = 3 from rfl, er, n1, show (3 : Int32) = nI 3 from rfl]
      by_cases hns : ns = 3
      · subst hns
        rw [if_neg (by rw [lt_nI (by omega) (by omega)]; omega), if_pos rfl, ob2_s, if_neg (by decide)]
        exact ⟨_, _, _, rfl, rfl, hR⟩
      · rw [if_pos ((lt_nI (by omega) (by omega)).mpr (by omega)), if_neg (by rw [eq_nI (by omega) (by omega)]; omega)]
        have i1 : (4 : Int32) + 2 * nI ns = nI (4 + 2 * ns) := by show nI 4 + nI 2 * nI ns = _; rw [pk_mul, nI_add]
        simp only [bnd_d]
        rw [i1, if_pos (inb_nI (by omega) (by omega)), if_pos (inb_nI (show 4 + 2 * ns < 257 by omega) (by omega)), cl_nI (show ns < 10000000 by omega), cl_nI (show 4 + 2 * ns < 10000000 by omega)]
        have e1 : gI (sI σ (0 + 1 + 27 + 1) ns (nI f)) (0 + 1 + 27) 2 = nI ns := by rw [gI_n (Or.inl (by omega))]; exact n3'
        have e2 : gI (sI τ (0 + 1) (4 + 2 * ns) (nI f)) (0 + 1) 3 = nI ns := by rw [gI_n (Or.inr (by omega))]; exact n1
        rw [e1, e2, i1, nI_1, if_pos (inb_nI (by omega) (by omega)), if_pos (inb_nI (show 4 + 2 * ns + 1 < 257 by omega) (by omega)), cl_nI (show ns < 10000000 by omega), cl_nI (show 4 + 2 * ns + 1 < 10000000 by omega), ob2_s, if_pos rfl]
        have e3 : gI (sI (sI σ (0 + 1 + 27 + 1) ns (nI f)) (0 + 1 + 27 + 2) ns (nI u)) (0 + 1 + 27) 2 = nI ns := by rw [gI_n (Or.inl (by omega))]; exact e1
        have e4 : gI (sI (sI τ (0 + 1) (4 + 2 * ns) (nI f)) (0 + 1) (4 + 2 * ns + 1) (nI u)) (0 + 1) 3 = nI ns := by rw [gI_n (Or.inr (by omega))]; exact e2
        rw [e3, e4, nI_1, gI_s, gI_s]
        refine ⟨_, _, _, rfl, rfl, ?_⟩
        refine hR.step ?_ (((frC.I (by omega)).tr (frC.I (by omega))).tr (frC.I (by omega))) ((frM.row.tr frM.row).tr frM.row) (hR.2.2.2.2.1.same rfl) rfl
        have ev : (sI (sI (sI τ (0 + 1) (4 + 2 * ns) (nI f)) (0 + 1) (4 + 2 * ns + 1) (nI u)) (0 + 1) 3 (nI (ns + 1))).1 (0 + 1) = upd (upd (upd (τ.1 (0 + 1)) (4 + 2 * ns) (nI f)) (4 + 2 * ns + 1) (nI u)) 3 (nI (ns + 1)) := by rw [rI_s, rI_s, rI_s]
        rw [ev]
        refine hF.mod (by rw [rI_n (by omega), rI_n (by omega), rI_n (by omega)]) ?_ ?_ ?_ ?_ ?_ ?_ ?_ ?_
        · rw [upd_n (by omega), upd_n (by omega), upd_n (by omega)]
        · rw [upd_n (by omega), upd_n (by omega), upd_n (by omega)]
        · rw [upd_n (by omega), upd_n (by omega), upd_n (by omega)]
        · rw [upd_n (by omega), upd_n (by omega), upd_n (by omega)]
        · refine ⟨ns + 1, upd_s _ _ _, by omega, ?_, fun k hk => ?_⟩
          · rw [rI_s, upd_s, upd_s]
          · rw [rI_n (by omega), rI_n (by omega), rI_s, rI_n (k := 0 + 1 + 27) (by omega), rI_s, rI_n (k := 0 + 1 + 27 + 1) (by omega), upd_n (k := 3) (by omega), upd_n (k := 3) (by omega)]
            by_cases hkn : k = ns
            · subst hkn
              refine ⟨?_, ?_, u, by omega, by omega, ?_⟩
              · rw [upd_s, upd_n (by omega), upd_s]
              · rw [upd_s, show 5 + 2 * k = 4 + 2 * k + 1 by omega, upd_s]
              · rw [show 5 + 2 * k = 4 + 2 * k + 1 by omega, upd_s]
            · obtain ⟨a1, a2, a3⟩ := n4 k (by omega)
              rw [upd_n hkn, upd_n hkn, upd_n (show 4 + 2 * k ≠ 4 + 2 * ns + 1 by omega), upd_n (show 4 + 2 * k ≠ 4 + 2 * ns by omega), upd_n (show 5 + 2 * k ≠ 4 + 2 * ns + 1 by omega), upd_n (show 5 + 2 * k ≠ 4 + 2 * ns by omega)]
              exact ⟨a1, a2, a3⟩
        · rw [rI_n (by omega), rI_n (by omega), rI_n (by omega), rI_n (by omega), rI_n (by omega), rI_n (by omega)]
          exact hF.2.2.1.congr (fun k h1 h2 => by rw [upd_n (by omega), upd_n (by omega), upd_n (by omega)])
        · intro sz z1 z2 i hi
          exact (hF.crs sz z1 z2 i hi).congr (fun q h1 h2 => ⟨by rw [rI_n (by omega), rI_n (by omega), rI_n (by omega)], rfl, rfl⟩) (fun k hk => by rw [upd_n (by omega), upd_n (by omega), upd_n (by omega)])
        · intro i hi
          rw [gI_n (Or.inl (by omega)), gI_n (Or.inl (by omega)), gI_n (Or.inl (by omega))]
    · rw [if_neg g, if_neg g]
      exact ⟨_, _, _, rfl, rfl, hR⟩
  · rw [if_neg h, if_neg h]
    exact ⟨_, _, _, rfl, rfl, hR⟩
theorem begin_L (x1 : Int32) : ∀ (m k n : Nat) (x2 x3 : Int32) (τ : St), k + m = 257 → m < n → ∃ τ', it4 (f_X8_begin_L30 0 x1) n x2 x3 (nI k) τ = some (x3, τ') ∧ frM τ τ' ∧ τ'.2.1 = τ.2.1 ∧ ∀ j, j < 257 → τ'.1 (0 + 1) j = if j = 0 then x1 else if j = 2 then x2 else if k ≤ j then 0 else τ.1 (0 + 1) j := by
  intro m
  induction m with
  | zero =>
    intro k n x2 x3 τ hkm hn
    obtain ⟨n, rfl⟩ : ∃ n', n = n' + 1 := ⟨n - 1, by omega⟩
    refine ⟨sI (sI τ (0 + 1) 0 x1) (0 + 1) 2 x2, ?_, frM.row.tr frM.row, rfl, fun j hj => ?_⟩
    · show f_X8_begin_L30 0 x1 (it4 (f_X8_begin_L30 0 x1) n) x2 x3 (nI k) τ = _
      unfold f_X8_begin_L30
      rw [show (257 : Int32) = nI 257 from rfl, if_pos ((le_nI (by omega) (by omega)).mpr (by omega))]
      rfl
    · rw [rI_s, rI_s]
      by_cases h2 : j = 2
      · subst h2; rw [upd_s]; rfl
      · rw [upd_n h2]
        by_cases h0 : j = 0
        · subst h0; rw [upd_s]; rfl
        · rw [upd_n h0, if_neg h0, if_neg h2, if_neg (by omega)]
  | succ m ih =>
    intro k n x2 x3 τ hkm hn
    obtain ⟨n, rfl⟩ : ∃ n', n = n' + 1 := ⟨n - 1, by omega⟩
    obtain ⟨τ', e1, e2, e3, e4⟩ := ih (k + 1) n x2 x3 (sI τ (0 + 1) k 0) (by omega) (by omega)
    refine ⟨τ', ?_, frM.row.tr e2, e3, fun j hj => ?_⟩
    · show f_X8_begin_L30 0 x1 (it4 (f_X8_begin_L30 0 x1) n) x2 x3 (nI k) τ = _
      generalize it4 (f_X8_begin_L30 0 x1) n = g at e1 ⊢
      unfold f_X8_begin_L30
      rw [show (257 : Int32) = nI 257 from rfl, if_neg (by rw [le_nI (by omega) (by omega)]; omega), if_pos (inb_nI (by omega) (by omega)), cl_nI (by omega)]
      simp only [bnd_d, nI_1]
      exact e1
    · rw [e4 j hj]
      by_cases h0 : j = 0
      · rw [if_pos h0, if_pos h0]
      · rw [if_neg h0, if_neg h0]
        by_cases h2 : j = 2
        · rw [if_pos h2, if_pos h2]
        · rw [if_neg h2, if_neg h2]
          by_cases hk : k + 1 ≤ j
          · rw [if_pos hk, if_pos (by omega)]
          · rw [if_neg hk, rI_s]
            by_cases hjk : j = k
            · subst hjk; rw [upd_s, if_pos (by omega)]
            · rw [upd_n hjk, if_neg (by omega)]
theorem begin_FR {σ : St} {v v' : Nat → Int32} {b c : Nat} (hF : FR σ b v) (c1 : 1 ≤ c) (c2 : c ≤ 8) (e4 : ∀ j, j < 257 → v' j = if j = 0 then nI c else if j = 2 then v 2 else 0) : FR (f_X1_beginAnew b (nI c) σ) b v' := by
  have v0 : v' 0 = nI c := by rw [e4 0 (by omega), if_pos rfl]
  have v1 : v' 1 = 0 := by rw [e4 1 (by omega), if_neg (by omega), if_neg (by omega)]
  have v2 : v' 2 = v 2 := by rw [e4 2 (by omega), if_neg (by omega), if_pos rfl]
  have v3 : v' 3 = 0 := by rw [e4 3 (by omega), if_neg (by omega), if_neg (by omega)]
  have v10 : v' 10 = 0 := by rw [e4 10 (by omega), if_neg (by omega), if_neg (by omega)]
  have v11 : v' 11 = 0 := by rw [e4 11 (by omega), if_neg (by omega), if_neg (by omega)]
  unfold f_X1_beginAnew f_X3_empty
  simp only [bnd_d]
  refine ⟨⟨⟨c, v0, c1, c2⟩, ?_, ?_, ?_, ?_, ?_⟩, ⟨0, v3, by omega, ?_, fun k hk => absurd hk (by omega)⟩, ⟨0, 0, v11, by omega, by omega, ?_, ?_, fun k hk => absurd hk (by omega)⟩, ⟨0, v10, by omega, fun i hi => absurd hi (by omega)⟩, fun i hi => ?_⟩
  · rw [v2]
    exact hF.1.2.1
  · rw [v0, gI_n (Or.inl (by omega)), gI_n (Or.inl (by omega)), gI_n (Or.inl (by omega)), gI_n (Or.inr (by omega)), gI_n (Or.inr (by omega)), gI_s]
  · rw [v1, gI_n (Or.inl (by omega)), gI_n (Or.inl (by omega)), gI_n (Or.inl (by omega)), gI_s]
  · rw [v2, gI_n (Or.inl (by omega)), gI_n (Or.inl (by omega)), gI_n (Or.inl (by omega)), gI_n (Or.inr (by omega)), gI_n (Or.inr (by omega)), gI_n (Or.inr (by omega))]
    exact hF.1.2.2.2.2.1
  · rw [v10, gI_n (Or.inl (by omega)), gI_n (Or.inl (by omega)), gI_n (Or.inl (by omega)), gI_n (Or.inr (by omega)), gI_s]
  · rw [v3, rI_n (by omega), rI_n (by omega), rI_s, upd_s]
  · rw [rI_s, upd_n (by omega), rI_s, upd_s]; rfl
  · rw [v11, rI_s, upd_s]
  · rw [gI_n (Or.inl (by omega)), gI_n (Or.inl (by omega)), gI_n (Or.inl (by omega)), gI_n (Or.inl (by omega)), gI_n (Or.inl (by omega)), gI_n (Or.inl (by omega))]
    exact hF.2.2.2.2 i hi
theorem begin_frC {σ : St} {b : Nat} {x : Int32} : frC σ (f_X1_beginAnew b x σ) b := by
  unfold f_X1_beginAnew f_X3_empty
  simp only [bnd_d]
  exact (((((frC.I (by omega)).tr (frC.I (by omega))).tr (frC.I (by omega))).tr (frC.I (by omega))).tr (frC.I (by omega))).tr (frC.I (by omega))
theorem begin_B {σ : St} {b : Nat} {x : Int32} : (f_X1_beginAnew b x σ).2.2 = σ.2.2 := rfl
theorem op_begin {σ τ : St} (hR : Rel σ τ) (x1 : Int32) : ∃ r σ' τ', f_X7_begin 0 x1 σ = (r, σ') ∧ f_X8_begin 0 x1 τ = some (r, τ') ∧ Rel σ' τ' := by
  obtain ⟨F, hFu, eF⟩ := fuel_ex
  unfold f_X7_begin f_X8_begin
  rw [eF]
  simp only [bnd_d, within_in]
  by_cases h : f_X8_in x1 1 8 = true
  · rw [if_pos h, if_pos h]
    obtain ⟨c, c1, c2, rfl⟩ := in_lo 1 8 (by omega) (by omega) h
    have hF := hR.1
    obtain ⟨τ', e1, e2, e3, e4⟩ := begin_L (nI c) 257 0 F (gI τ (0 + 1) 2) (gI τ (0 + 1) 0) τ (by omega) (by omega)
    have z0 : Int32.toNatClampNeg 0 = 0 := rfl
    have z2 : Int32.toNatClampNeg 2 = 2 := rfl
    rw [z0, z2]
    have e1' : it4 (f_X8_begin_L30 0 (nI c)) F (gI τ (0 + 1) 2) (gI τ (0 + 1) 0) 0 τ = some (gI σ (0 + 1) 5, τ') := by
      rw [hF.1.2.2.1]
      exact e1
    rw [e1']
    refine ⟨_, _, _, rfl, rfl, ?_⟩
    refine hR.step (begin_FR hF c1 c2 (fun j hj => ?_)) begin_frC e2 (hR.2.2.2.2.1.same (by rw [e3])) (by unfold gB; rw [begin_B])
    rw [e4 j hj]
    by_cases h0 : j = 0
    · rw [if_pos h0, if_pos h0]
    · rw [if_neg h0, if_neg h0]
      by_cases h2 : j = 2
      · rw [if_pos h2, if_pos h2]; rfl
      · rw [if_neg h2, if_neg h2, if_pos (by omega)]
  · rw [if_neg h, if_neg h]
    exact ⟨_, _, _, rfl, rfl, hR⟩
end
section
theorem FR.row {σ : St} {b : Nat} {v : Nat → Int32} (h : FR σ b v) {i sz : Nat} (e : v 10 = nI sz) (hi : i < sz) (hsz : sz ≤ 5) : CR σ (b + 1 + 1 + 5 * i) i v := h.crs sz e hsz i hi
theorem isChange_eq {τ : St} {x : Int32} : f_X8_isChange 0 x τ = f_X8_in x 0 (τ.1 (0 + 1) 10 - 1) := rfl
theorem find_or {σ : St} {b : Nat} {v : Nat → Int32} (h : FR σ b v) (x : Int32) : (∃ i sz, v 10 = nI sz ∧ sz ≤ 5 ∧ i < sz ∧ x = nI i ∧ f_X1_find b x σ = some (some (b + 1 + 1 + 5 * i)) ∧ f_X8_in x 0 (v 10 - 1) = true) ∨ (f_X1_find b x σ = some none ∧ f_X8_in x 0 (v 10 - 1) = false) := by
  obtain ⟨sz, z1, z2, z3, -⟩ := h.sz
  rw [z1]
  unfold f_X1_find
  rw [z2]
  rcases in_0 x (n := sz) (by omega) with ⟨h1, i, hi, rfl⟩ | ⟨h1, h2⟩
  · left
    refine ⟨i, sz, rfl, z3, hi, rfl, ?_, h1⟩
    rw [if_neg (nI_pos (by omega)), if_neg (by rw [le_nI (by omega) (by omega)]; omega), show (5 : Int32) = nI 5 from rfl, if_neg (by rw [le_nI (by omega) (by omega)]; omega), if_pos (inb_nI (by omega) (by omega)), cl_nI (by omega)]
  · right
    refine ⟨?_, h1⟩
    by_cases h0 : x < 0
    · rw [if_pos h0]
    · rw [if_neg h0, if_pos (h2.resolve_left h0)]
theorem shF : ∀ i, i < 5 → shC (0 + 1 + 1 + 1 + 5 * i) = 1 := by decide
theorem shT : ∀ i, i < 5 → shC (0 + 33 + 1 + 1 + 5 * i) = 1 := by decide
/-- a number of a stage -/
theorem number_nI {σ : St} {q pl k j : Nat} (e : gI σ q 1 = nI pl) (hpl : pl ≤ 6) (hk : k < pl) (hj : j < 3) : f_X4_number q (nI k) (nI j) σ = some (gI σ (q + 1) (3 * k + j)) := by
  unfold f_X4_number f_X4_number_B28
  have i1 : nI k * 3 + nI j = nI (3 * k + j) := by show nI k * nI 3 + nI j = _; rw [pk_mul, nI_add]; congr 1; omega
  simp only [bnd_d, within_in]
  have c1 : f_X8_in (nI k) 0 (gI σ q 1 - 1) = true := by
    rw [e]
    rcases in_0 (nI k) (n := pl) (by omega) with ⟨h, -⟩ | ⟨-, h⟩
    · exact h
    · rcases h with h | h
      · exact absurd h (nI_pos (by omega))
      · rw [le_nI (by omega) (by omega)] at h; omega
  have c2 : f_X8_in (nI j) 0 2 = true := (in_nI (a := 0) (b := 2) (by omega) (by omega) (by omega)).mpr ⟨by omega, by omega⟩
  rw [c1, c2]
  simp only [if_true, i1]
  rw [show (18 : Int32) = nI 18 from rfl, if_neg (by rw [le_nI (by omega) (by omega)]; omega), if_pos (inb_nI (by omega) (by omega)), cl_nI (by omega)]
theorem op_stage {σ τ : St} (hR : Rel σ τ) (x1 x2 x3 : Int32) : ∃ r, f_X7_stage 0 x1 x2 x3 σ = some r ∧ f_X8_stage 0 x1 x2 x3 τ = some r ∧ Rel σ τ := by
  unfold f_X7_stage f_X8_stage
  simp only [bnd_d, within_in, isChange_eq]
  have hF := hR.1
  rcases find_or hF x1 with ⟨i, sz, z1, z2, hi, rfl, ef, ei⟩ | ⟨ef, ei⟩
  · rw [ef, ei, obd_s, opt_s, if_pos (shF i (by omega)), if_pos rfl]
    obtain ⟨st, pl, bg, m, a, b, c, d, ⟨h1, h2, h3, h4, h5, h6, h7, h8, h9⟩, -, -, ⟨f1, f2, f3, f4⟩, k1, -⟩ := hF.row z1 hi z2
    have e2 : gI σ (0 + 1 + 1 + 1 + 5 * i + 1) 1 = nI pl := f4.trans h3
    rw [e2, show (2 : Int32) = nI 2 from rfl, at_nI, if_pos (inb_nI (by omega) (by omega)), cl_nI (by omega), show gI τ (0 + 1) (92 + 33 * i + 2) = nI pl from h3]
    rcases in_0 x2 (n := pl) (by omega) with ⟨g1, k, hk, rfl⟩ | ⟨g1, g2⟩
    · rw [g1, if_pos rfl, if_pos rfl]
      by_cases g : f_X8_in x3 0 (nI 2) = true
      · rw [if_pos g, if_pos g]
        obtain ⟨j, -, hj, rfl⟩ := in_lo 0 2 (by omega) (by omega) g
        rw [number_nI e2 h4 hk (by omega), sat_nI, if_pos (inb_nI (by omega) (by omega)), cl_nI (by omega), obd_s]
        obtain ⟨q1, q2, q3⟩ := k1 k hk
        have hj3 : j = 0 ∨ j = 1 ∨ j = 2 := by omega
        have er : gI σ (0 + 1 + 1 + 1 + 5 * i + 1 + 1) (3 * k + j) = gI τ (0 + 1) (92 + 33 * i + (9 + 4 * k + j)) := by
          rcases hj3 with rfl | rfl | rfl
          · exact q1
          · rw [show 92 + 33 * i + (9 + 4 * k + 1) = 92 + 33 * i + (10 + 4 * k) by omega]; exact q2
          · rw [show 92 + 33 * i + (9 + 4 * k + 2) = 92 + 33 * i + (11 + 4 * k) by omega]; exact q3
        rw [er]
        exact ⟨_, rfl, rfl, hR⟩
      · rw [if_neg g, if_neg g]
        exact ⟨_, rfl, rfl, hR⟩
    · rw [g1, if_neg (by decide), if_neg (by decide)]
      exact ⟨_, rfl, rfl, hR⟩
  · rw [ef, ei, obd_s, opt_n, if_neg (by decide)]
    exact ⟨_, rfl, rfl, hR⟩
theorem op_probes {σ τ : St} (hR : Rel σ τ) (x1 x2 : Int32) : ∃ r, f_X7_probes 0 x1 x2 σ = some r ∧ f_X8_probes 0 x1 x2 τ = some r ∧ Rel σ τ := by
  unfold f_X7_probes f_X8_probes
  simp only [bnd_d, isChange_eq]
  have hF := hR.1
  rcases find_or hF x1 with ⟨i, sz, z1, z2, hi, rfl, ef, ei⟩ | ⟨ef, ei⟩
  · rw [ef, ei, obd_s, opt_s, if_pos (shF i (by omega)), if_pos rfl]
    obtain ⟨st, pl, bg, m, a, b, c, d, -, -, -, -, -, -, m1, m2, m3, m4, -⟩ := hF.row z1 hi z2
    by_cases g : f_X8_in x2 0 3 = true
    · rw [if_pos g]
      obtain ⟨j, -, hj, rfl⟩ := in_lo 0 3 (by omega) (by omega) g
      have i1 : (5 : Int32) + nI j = nI (5 + j) := nI_add 5 j
      rw [i1, at_nI, if_pos (inb_nI (by omega) (by omega)), cl_nI (by omega)]
      have hj3 : j = 0 ∨ j = 1 ∨ j = 2 ∨ j = 3 := by omega
      rcases hj3 with rfl | rfl | rfl | rfl
      · rw [if_pos (by decide)]; exact ⟨_, rfl, congrArg some m1.symm, hR⟩
      · rw [if_neg (by decide), if_pos (by decide)]; exact ⟨_, rfl, congrArg some m2.symm, hR⟩
      · rw [if_neg (by decide), if_neg (by decide), if_pos (by decide)]; exact ⟨_, rfl, congrArg some m3.symm, hR⟩
      · rw [if_neg (by decide), if_neg (by decide), if_neg (by decide), if_pos (by decide)]; exact ⟨_, rfl, congrArg some m4.symm, hR⟩
    · rw [if_neg g]
      have n0 : ¬ x2 = 0 := fun z => g (by rw [z]; decide)
      have n1 : ¬ x2 = 1 := fun z => g (by rw [z]; decide)
      have n2 : ¬ x2 = 2 := fun z => g (by rw [z]; decide)
      have n3 : ¬ x2 = 3 := fun z => g (by rw [z]; decide)
      rw [if_neg n0, if_neg n1, if_neg n2, if_neg n3]
      exact ⟨_, rfl, rfl, hR⟩
  · rw [ef, ei, obd_s, opt_n, if_neg (by decide)]
    exact ⟨_, rfl, rfl, hR⟩
end
section
/-! what is read of a change, on both sides -/
def orf (g : Nat → Int32) : Nat → Nat → Int32 → Int32
  | _, 0, a => a
  | k, m + 1, a => orf g (k + 1) m (a ||| g k)
theorem orf_congr {g g' : Nat → Int32} : ∀ (m k : Nat) (a : Int32), (∀ j, k ≤ j → j < k + m → g j = g' j) → orf g k m a = orf g' k m a := by
  intro m
  induction m with
  | zero => intro k a _; rfl
  | succ m ih =>
    intro k a h
    show orf g (k + 1) m (a ||| g k) = orf g' (k + 1) m (a ||| g' k)
    rw [h k (by omega) (by omega), ih (k + 1) _ (fun j h1 h2 => h j (by omega) (by omega))]
theorem cellsC_L {σ : St} {q n pl : Nat} (hn : n ≤ 6) (hpl : pl ≤ 6) (e : gI σ q 1 = nI pl) (t : Nat) (ht : t = min n pl) : ∀ (m k F : Nat) (a : Int32), k + m = t → m < F → it2 (f_X4_cellsOfFirst_L4 σ q (nI n)) F a (nI k) = some (orf (fun k => gI σ (q + 1) (3 * k)) k m a) := by
  intro m
  induction m with
  | zero =>
    intro k F a hkm hF
    obtain ⟨F, rfl⟩ : ∃ n', F = n' + 1 := ⟨F - 1, by omega⟩
    show f_X4_cellsOfFirst_L4 σ q (nI n) (it2 (f_X4_cellsOfFirst_L4 σ q (nI n)) F) a (nI k) = _
    generalize it2 (f_X4_cellsOfFirst_L4 σ q (nI n)) F = g
    unfold f_X4_cellsOfFirst_L4
    rw [e]
    by_cases h : n ≤ k
    · rw [if_pos (leN h (by omega))]; rfl
    · rw [if_neg (nleN (by omega) (by omega)), if_pos (leN (by omega) (by omega))]; rfl
  | succ m ih =>
    intro k F a hkm hF
    obtain ⟨F, rfl⟩ : ∃ n', F = n' + 1 := ⟨F - 1, by omega⟩
    show f_X4_cellsOfFirst_L4 σ q (nI n) (it2 (f_X4_cellsOfFirst_L4 σ q (nI n)) F) a (nI k) = _
    have ih' := fun a => ih (k + 1) F a (by omega) (by omega)
    generalize it2 (f_X4_cellsOfFirst_L4 σ q (nI n)) F = g at ih' ⊢
    unfold f_X4_cellsOfFirst_L4
    have i1 : nI k * 3 + 0 = nI (3 * k) := by show nI k * nI 3 + nI 0 = _; rw [pk_mul, nI_add]; congr 1; omega
    rw [e, if_neg (nleN (by omega) (by omega)), if_neg (nleN (by omega) (by omega)), show (6 : Int32) = nI 6 from rfl, if_neg (nleN (by omega) (by omega))]
    simp only [bnd_d, nI_1, i1]
    rw [if_pos (inb_nI (by omega) (by omega)), cl_nI (by omega), ih']
    rfl
theorem cellsM_L {τ : St} {i n : Nat} (hi : i < 5) (hn : n ≤ 6) : ∀ (m k F : Nat) (a : Int32), k + m = n → m < F → it2 (f_X8_cellsOf_L5 τ 0 (nI i) (nI n)) F a (nI k) = some (orf (fun k => τ.1 (0 + 1) (92 + 33 * i + (9 + 4 * k))) k m a) := by
  intro m
  induction m with
  | zero =>
    intro k F a hkm hF
    obtain ⟨F, rfl⟩ : ∃ n', F = n' + 1 := ⟨F - 1, by omega⟩
    show f_X8_cellsOf_L5 τ 0 (nI i) (nI n) (it2 (f_X8_cellsOf_L5 τ 0 (nI i) (nI n)) F) a (nI k) = _
    generalize it2 (f_X8_cellsOf_L5 τ 0 (nI i) (nI n)) F = g
    unfold f_X8_cellsOf_L5
    rw [if_pos (leN (by omega) (by omega))]; rfl
  | succ m ih =>
    intro k F a hkm hF
    obtain ⟨F, rfl⟩ : ∃ n', F = n' + 1 := ⟨F - 1, by omega⟩
    show f_X8_cellsOf_L5 τ 0 (nI i) (nI n) (it2 (f_X8_cellsOf_L5 τ 0 (nI i) (nI n)) F) a (nI k) = _
    have ih' := fun a => ih (k + 1) F a (by omega) (by omega)
    generalize it2 (f_X8_cellsOf_L5 τ 0 (nI i) (nI n)) F = g at ih' ⊢
    unfold f_X8_cellsOf_L5
    rw [if_neg (nleN (by omega) (by omega))]
    simp only [bnd_d, nI_1]
    rw [show (0 : Int32) = nI 0 from rfl, sat_nI, if_pos (inb_nI (by omega) (by omega)), cl_nI (by omega), ih']
    rfl
/-- the cells of the first n stages -/
def ORv (v : Nat → Int32) (i n : Nat) : Int32 := orf (fun k => v (92 + 33 * i + (9 + 4 * k))) 0 n 0
theorem cellsC_eq {σ : St} {c i n pl : Nat} {v : Nat → Int32} (hn : n ≤ 6) (hpl : pl ≤ 6) (e : gI σ (c + 1) 1 = nI pl) (hk : ∀ k, k < pl → gI σ (c + 1 + 1) (3 * k) = v (92 + 33 * i + (9 + 4 * k))) : f_X4_cellsOfFirst (c + 1) (nI n) σ = some (ORv v i (min n pl)) := by
  obtain ⟨F, hFu, eF⟩ := fuel_ex
  unfold f_X4_cellsOfFirst
  rw [eF, show (0 : Int32) = nI 0 from rfl, cellsC_L hn hpl e (min n pl) rfl (min n pl) 0 F _ (by omega) (by omega)]
  unfold ORv
  congr 1
  exact orf_congr _ _ _ (fun j h1 h2 => hk j (by omega))
theorem cellsM_eq {τ : St} {i n : Nat} (hi : i < 5) (hn : n ≤ 6) : f_X8_cellsOf 0 (nI i) (nI n) τ = some (ORv (τ.1 (0 + 1)) i n) := by
  obtain ⟨F, hFu, eF⟩ := fuel_ex
  unfold f_X8_cellsOf
  rw [eF, show (0 : Int32) = nI 0 from rfl, cellsM_L hi hn n 0 F _ (by omega) (by omega)]
  rfl
/-- the facts of a change, named -/
theorem CR.use {σ : St} {c i : Nat} {v : Nat → Int32} (h : CR σ c i v) : ∃ st pl bg m a b c' d : Nat, (v (92 + 33 * i + 1) = nI st ∧ st ≤ 5 ∧ v (92 + 33 * i + 2) = nI pl ∧ pl ≤ 6 ∧ v (92 + 33 * i + 3) = nI bg ∧ bg ≤ pl ∧ (st = 0 → bg = 0) ∧ v (92 + 33 * i + 4) = nI m ∧ m < 2 ^ i) ∧ (v (92 + 33 * i + 5) = nI a ∧ v (92 + 33 * i + 6) = nI b ∧ v (92 + 33 * i + 7) = nI c' ∧ v (92 + 33 * i + 8) = nI d ∧ a + b ≤ 25 ∧ c' + d ≤ 25) ∧ v (92 + 33 * i) = bI (gB σ c 7) ∧
  (gI σ c 4 = nI m ∧ gI σ c 5 = nI st ∧ gI σ c 6 = nI bg ∧ gI σ (c + 1) 1 = nI pl) ∧ (∀ k, k < pl → gI σ (c + 1 + 1) (3 * k) = v (92 + 33 * i + (9 + 4 * k)) ∧ gI σ (c + 1 + 1) (3 * k + 1) = v (92 + 33 * i + (10 + 4 * k)) ∧ gI σ (c + 1 + 1) (3 * k + 2) = v (92 + 33 * i + (11 + 4 * k))) ∧ (∀ k, k < bg → gI σ (c + 4) k = v (92 + 33 * i + (12 + 4 * k))) ∧
  (gI σ (c + 3) 0 = nI a ∧ gI σ (c + 3) 1 = nI b ∧ gI σ (c + 3) 2 = nI c' ∧ gI σ (c + 3) 3 = nI d ∧ gL σ (c + 3) 4 = lN (chN a b c' d) ∧ gL σ (c + 3) 5 = lN (chD a b c' d)) := by
  obtain ⟨st, pl, bg, m, a, b, c', d, ⟨h1, h2, h3, h4, h5, h6, h7, h8, h9⟩, ⟨g1, g2, g3, g4, g5, g6⟩, e0, ⟨f1, f2, f3, f4⟩, k1, k2, m1, m2, m3, m4, m5, m6⟩ := h
  exact ⟨st, pl, bg, m, a, b, c', d, ⟨h1, h2, h3, h4, h5, h6, h7, h8, h9⟩, ⟨g1, g2, g3, g4, g5, g6⟩, e0, ⟨f1.trans h8, f2.trans h1, f3.trans h5, f4.trans h3⟩, k1, k2, m1.trans g1, m2.trans g2, m3.trans g3, m4.trans g4, m5, m6⟩
theorem reached_eq {τ : St} {i bg : Nat} (hi : i < 5) (hb : bg ≤ 6) (e : τ.1 (0 + 1) (92 + 33 * i + 3) = nI bg) : f_X8_reached 0 (nI i) τ = some (ORv (τ.1 (0 + 1)) i bg) := by
  unfold f_X8_reached
  simp only [bnd_d]
  rw [show (3 : Int32) = nI 3 from rfl, at_nI, if_pos (inb_nI (by omega) (by omega)), cl_nI (by omega), show gI τ (0 + 1) (92 + 33 * i + 3) = nI bg from e, cellsM_eq hi hb, obd_s]
theorem isAt_eq {σ : St} {c i bg pl : Nat} {v : Nat → Int32} {x : Int32} (hpl : pl ≤ 6) (hb : bg ≤ pl) (e1 : gI σ (c + 1) 1 = nI pl) (e6 : gI σ c 6 = nI bg) (hk : ∀ k, k < pl → gI σ (c + 1 + 1) (3 * k) = v (92 + 33 * i + (9 + 4 * k))) : f_X0_isAt c x σ = some (!decide ((ORv v i bg >>> (x &&& 31)) &&& 1 = 0)) := by
  unfold f_X0_isAt
  rw [e6, cellsC_eq (by omega) hpl e1 hk, obd_s, show min bg pl = bg by omega]
  by_cases h : (ORv v i bg >>> (x &&& 31)) &&& 1 = 0 <;> simp [h]
theorem bit01 (x s : Int32) : (x >>> s) &&& 1 = 0 ∨ (x >>> s) &&& 1 = 1 := by
  obtain ⟨j, hj, e⟩ := pk_andE (x >>> s) (m := 1) 1 (by decide)
  rw [e]
  have : j = 0 ∨ j = 1 := by omega
  rcases this with rfl | rfl
  · left; rfl
  · right; rfl
/-- which changes a cell has: changes k .. k + m - 1 -/
def hvf (v : Nat → Int32) (x : Int32) : Nat → Nat → Int32 → Int32
  | _, 0, a => a
  | k, m + 1, a => hvf v x (k + 1) m (a ||| (((ORv v k (v (92 + 33 * k + 3)).toNatClampNeg >>> (x &&& 31)) &&& 1) <<< (nI k &&& 31)))
theorem changesOf_L {σ : St} {b sz : Nat} {v : Nat → Int32} {x : Int32} (hsz : sz ≤ 5) (e4 : gI σ b 4 = nI sz) (hc : ∀ i, i < sz → CR σ (b + 1 + 1 + 5 * i) i v) : ∀ (m k F : Nat) (a : Int32), k + m = sz → m < F → it2 (f_X1_changesOf_L4 σ b x) F a (nI k) = some (hvf v x k m a) := by
  intro m
  induction m with
  | zero =>
    intro k F a hkm hF
    obtain ⟨F, rfl⟩ : ∃ n', F = n' + 1 := ⟨F - 1, by omega⟩
    show f_X1_changesOf_L4 σ b x (it2 (f_X1_changesOf_L4 σ b x) F) a (nI k) = _
    generalize it2 (f_X1_changesOf_L4 σ b x) F = g
    unfold f_X1_changesOf_L4
    rw [e4, if_pos (leN (by omega) (by omega))]; rfl
  | succ m ih =>
    intro k F a hkm hF
    obtain ⟨F, rfl⟩ : ∃ n', F = n' + 1 := ⟨F - 1, by omega⟩
    show f_X1_changesOf_L4 σ b x (it2 (f_X1_changesOf_L4 σ b x) F) a (nI k) = _
    have ih' := fun a => ih (k + 1) F a (by omega) (by omega)
    generalize it2 (f_X1_changesOf_L4 σ b x) F = g at ih' ⊢
    obtain ⟨st, pl, bg, m', a', b', c', d, ⟨h1, h2, h3, h4, h5, h6, h7, h8, h9⟩, -, -, ⟨f1, f2, f3, f4⟩, k1, -⟩ := (hc k (by omega)).use
    unfold f_X1_changesOf_L4
    rw [e4, if_neg (nleN (by omega) (by omega)), show (5 : Int32) = nI 5 from rfl, if_neg (nleN (by omega) (by omega)), if_pos (inb_nI (by omega) (by omega)), cl_nI (by omega), isAt_eq h4 h6 f4 f3 (fun k hk => (k1 k hk).1), obd_s]
    simp only [bnd_d, nI_1]
    rw [ih', ih']
    show _ = some (hvf v x (k + 1) m (a ||| (((ORv v k (v (92 + 33 * k + 3)).toNatClampNeg >>> (x &&& 31)) &&& 1) <<< (nI k &&& 31))))
    rw [h5, cl_nI (by omega)]
    rcases bit01 (ORv v k bg) (x &&& 31) with h | h
    · rw [h]
      simp
    · rw [h]
      simp
theorem having_L {τ : St} {sz : Nat} {v : Nat → Int32} {x : Int32} (ev : v = τ.1 (0 + 1)) (hsz : sz ≤ 5) (e4 : v 10 = nI sz) (hc : ∀ i, i < sz → ∃ bg, v (92 + 33 * i + 3) = nI bg ∧ bg ≤ 6) : ∀ (m k F : Nat) (a : Int32), k + m = sz → m < F → it2 (f_X8_having_L4 τ 0 x) F a (nI k) = some (hvf v x k m a) := by
  intro m
  induction m with
  | zero =>
    intro k F a hkm hF
    obtain ⟨F, rfl⟩ : ∃ n', F = n' + 1 := ⟨F - 1, by omega⟩
    show f_X8_having_L4 τ 0 x (it2 (f_X8_having_L4 τ 0 x) F) a (nI k) = _
    generalize it2 (f_X8_having_L4 τ 0 x) F = g
    unfold f_X8_having_L4
    rw [show (10 : Int32).toNatClampNeg = 10 from rfl, show gI τ (0 + 1) 10 = nI sz by rw [← e4, ev]; rfl, if_pos (leN (by omega) (by omega))]; rfl
  | succ m ih =>
    intro k F a hkm hF
    obtain ⟨F, rfl⟩ : ∃ n', F = n' + 1 := ⟨F - 1, by omega⟩
    show f_X8_having_L4 τ 0 x (it2 (f_X8_having_L4 τ 0 x) F) a (nI k) = _
    have ih' := fun a => ih (k + 1) F a (by omega) (by omega)
    generalize it2 (f_X8_having_L4 τ 0 x) F = g at ih' ⊢
    obtain ⟨bg, h5, h6⟩ := hc k (by omega)
    unfold f_X8_having_L4
    rw [show (10 : Int32).toNatClampNeg = 10 from rfl, show gI τ (0 + 1) 10 = nI sz by rw [← e4, ev]; rfl, if_neg (nleN (by omega) (by omega)), reached_eq (by omega) h6 (by rw [← ev]; exact h5), obd_s, ← ev]
    simp only [bnd_d, nI_1]
    rw [ih']
    show _ = some (hvf v x (k + 1) m (a ||| (((ORv v k (v (92 + 33 * k + 3)).toNatClampNeg >>> (x &&& 31)) &&& 1) <<< (nI k &&& 31))))
    rw [h5, cl_nI (by omega)]
end
section
theorem isCell_eq {σ : St} {b : Nat} {v : Nat → Int32} (h : FR σ b v) (x : Int32) : f_X1_isCell b x σ = f_X8_in x 0 (v 0 - 1) := by
  obtain ⟨n, n1, n2, n3⟩ := h.1.1
  unfold f_X1_isCell
  rw [h.1.2.2.1, n1]
  rcases in_0 x (n := n) (by omega) with ⟨h1, j, hj, rfl⟩ | ⟨h1, h2⟩
  · rw [h1, if_neg (nI_pos (by omega)), if_neg (nleN (by omega) (by omega))]
  · rw [h1]
    by_cases h0 : x < 0
    · rw [if_pos h0]
    · rw [if_neg h0, if_pos (h2.resolve_left h0)]
theorem changesOf_eq {σ : St} {b : Nat} {v : Nat → Int32} (h : FR σ b v) (x : Int32) : f_X1_changesOf b x σ = some (hvf v x 0 (v 10).toNatClampNeg 0) := by
  obtain ⟨sz, z1, z2, z3, z4⟩ := h.sz
  obtain ⟨F, hFu, eF⟩ := fuel_ex
  unfold f_X1_changesOf
  rw [eF, z1, cl_nI (by omega)]
  exact changesOf_L z3 z2 z4 sz 0 F 0 (by omega) (by omega)
theorem having_eq {σ τ : St} {b : Nat} (h : FR σ b (τ.1 (0 + 1))) (x : Int32) : f_X8_having 0 x τ = some (hvf (τ.1 (0 + 1)) x 0 (τ.1 (0 + 1) 10).toNatClampNeg 0) := by
  obtain ⟨sz, z1, z2, z3, z4⟩ := h.sz
  obtain ⟨F, hFu, eF⟩ := fuel_ex
  unfold f_X8_having
  rw [eF, z1, cl_nI (by omega)]
  refine having_L rfl z3 z1 (fun i hi => ?_) sz 0 F 0 (by omega) (by omega)
  obtain ⟨st, pl, bg, m', a', b', c', d, ⟨h1, h2, h3, h4, h5, h6, h7, h8, h9⟩, -⟩ := (z4 i hi).use
  exact ⟨bg, h5, by omega⟩
theorem op_has {σ τ : St} (hR : Rel σ τ) (x1 : Int32) : ∃ r, f_X7_has 0 x1 σ = some r ∧ f_X8_has 0 x1 τ = some r ∧ Rel σ τ := by
  unfold f_X7_has f_X8_has
  simp only [bnd_d]
  rw [isCell_eq hR.1, changesOf_eq hR.1, having_eq hR.1, show f_X8_isCell 0 x1 τ = f_X8_in x1 0 (τ.1 (0 + 1) 0 - 1) from rfl]
  by_cases h : f_X8_in x1 0 (τ.1 (0 + 1) 0 - 1) = true
  · simp only [if_pos h, obd_s]
    exact ⟨_, rfl, rfl, hR⟩
  · simp only [if_neg h]
    exact ⟨_, rfl, rfl, hR⟩
def anyb (p : Nat → Bool) : Nat → Nat → Bool
  | _, 0 => false
  | k, m + 1 => p k || anyb p (k + 1) m
theorem anyb_add (p : Nat → Bool) : ∀ (m m' k : Nat), anyb p k (m + m') = (anyb p k m || anyb p (k + m) m') := by
  intro m
  induction m with
  | zero => intro m' k; simp [anyb]
  | succ m ih =>
    intro m' k
    rw [show m + 1 + m' = (m + m') + 1 by omega]
    show (p k || anyb p (k + 1) (m + m')) = ((p k || anyb p (k + 1) m) || anyb p (k + (m + 1)) m')
    rw [ih, show k + 1 + m = k + (m + 1) by omega, Bool.or_assoc]
theorem anyb_f (p : Nat → Bool) : ∀ (m k : Nat), (∀ j, k ≤ j → j < k + m → p j = false) → anyb p k m = false := by
  intro m
  induction m with
  | zero => intro k _; rfl
  | succ m ih =>
    intro k h
    show (p k || anyb p (k + 1) m) = false
    rw [h k (by omega) (by omega), ih (k + 1) (fun j h1 h2 => h j (by omega) (by omega))]
    rfl
/-- one that has to be done first is not -/
def ndp (v : Nat → Int32) (x : Int32) (j : Nat) : Bool := !decide ((x >>> (nI j &&& 31)) &&& 1 = 0) && !decide (v (92 + 33 * j + 1) = 3)
theorem lacksDone_L {σ : St} {b sz : Nat} {v : Nat → Int32} {x : Int32} (hsz : sz ≤ 5) (e4 : gI σ b 4 = nI sz) (hc : ∀ i, i < sz → gI σ (b + 1 + 1 + 5 * i) 5 = v (92 + 33 * i + 1)) : ∀ (m k F : Nat), k + m = sz → m < F → it1 (f_X1_lacksDone_L2 σ b x) F (nI k) = some (anyb (ndp v x) k m) := by
  intro m
  induction m with
  | zero =>
    intro k F hkm hF
    obtain ⟨F, rfl⟩ : ∃ n', F = n' + 1 := ⟨F - 1, by omega⟩
    show f_X1_lacksDone_L2 σ b x (it1 (f_X1_lacksDone_L2 σ b x) F) (nI k) = _
    generalize it1 (f_X1_lacksDone_L2 σ b x) F = g
    unfold f_X1_lacksDone_L2
    rw [e4, if_pos (leN (by omega) (by omega))]; rfl
  | succ m ih =>
    intro k F hkm hF
    obtain ⟨F, rfl⟩ : ∃ n', F = n' + 1 := ⟨F - 1, by omega⟩
    show f_X1_lacksDone_L2 σ b x (it1 (f_X1_lacksDone_L2 σ b x) F) (nI k) = _
    have ih' := ih (k + 1) F (by omega) (by omega)
    generalize it1 (f_X1_lacksDone_L2 σ b x) F = g at ih' ⊢
    unfold f_X1_lacksDone_L2
    rw [e4, if_neg (nleN (by omega) (by omega)), show (5 : Int32) = nI 5 from rfl, if_neg (nleN (by omega) (by omega)), if_pos (inb_nI (by omega) (by omega)), cl_nI (by omega), hc k (by omega)]
    simp only [bnd_d, nI_1]
    rw [ih']
    show _ = some (ndp v x k || anyb (ndp v x) (k + 1) m)
    unfold ndp
    by_cases h1 : (x >>> (nI k &&& 31)) &&& 1 = 0
    · simp [h1]
    · by_cases h2 : v (92 + 33 * k + 1) = 3 <;> simp [h1, h2]
theorem allDone_L {τ : St} {v : Nat → Int32} {x : Int32} (ev : v = τ.1 (0 + 1)) : ∀ (m k F : Nat) (d : Bool), k + m = 5 → m < F → it2 (f_X8_areAllDone_L4 τ 0 x) F d (nI k) = some (d && !anyb (ndp v x) k m) := by
  intro m
  induction m with
  | zero =>
    intro k F d hkm hF
    obtain ⟨F, rfl⟩ : ∃ n', F = n' + 1 := ⟨F - 1, by omega⟩
    show f_X8_areAllDone_L4 τ 0 x (it2 (f_X8_areAllDone_L4 τ 0 x) F) d (nI k) = _
    generalize it2 (f_X8_areAllDone_L4 τ 0 x) F = g
    unfold f_X8_areAllDone_L4
    rw [show (5 : Int32) = nI 5 from rfl, if_pos (leN (by omega) (by omega))]
    simp [anyb]
  | succ m ih =>
    intro k F d hkm hF
    obtain ⟨F, rfl⟩ : ∃ n', F = n' + 1 := ⟨F - 1, by omega⟩
    show f_X8_areAllDone_L4 τ 0 x (it2 (f_X8_areAllDone_L4 τ 0 x) F) d (nI k) = _
    have ih1 := ih (k + 1) F true (by omega) (by omega)
    have ih2 := ih (k + 1) F false (by omega) (by omega)
    generalize it2 (f_X8_areAllDone_L4 τ 0 x) F = g at ih1 ih2 ⊢
    unfold f_X8_areAllDone_L4
    simp only [bnd_d, nI_1]
    rw [show (5 : Int32) = nI 5 from rfl, if_neg (nleN (by omega) (by omega)), show f_X8_at (nI k) 1 = nI (92 + 33 * k + 1) from at_nI k 1, if_pos (inb_nI (by omega) (by omega)), cl_nI (by omega), show gI τ (0 + 1) (92 + 33 * k + 1) = v (92 + 33 * k + 1) by rw [ev]; rfl, ih1, ih2]
    show _ = some (d && !(ndp v x k || anyb (ndp v x) (k + 1) m))
    unfold ndp
    cases d
    · simp
    · by_cases h1 : (x >>> (nI k &&& 31)) &&& 1 = 0
      · simp [h1]
      · by_cases h2 : v (92 + 33 * k + 1) = 3 <;> simp [h1, h2]
theorem smod5 : ∀ j, j < 5 → ((nI j &&& 31).toBitVec.smod 32).toNat = j := by decide +kernel
theorem bit_hi {m i j : Nat} (hm : m < 2 ^ i) (hij : i ≤ j) (hj : j < 5) : (nI m >>> (nI j &&& 31)) &&& 1 = 0 := by
  have h1 : 2 ^ i ≤ 2 ^ j := Nat.pow_le_pow_right (by omega) hij
  have h2 : 2 ^ j ≤ 2 ^ 5 := Nat.pow_le_pow_right (by omega) (by omega)
  rw [pk_shrN (by omega) _ j (smod5 j hj), Nat.div_eq_of_lt (by omega)]
  rfl
theorem done_eq {σ τ : St} {b sz i m : Nat} (hF : FR σ b (τ.1 (0 + 1))) (z1 : τ.1 (0 + 1) 10 = nI sz) (hsz : sz ≤ 5) (hi : i < sz) (hm : m < 2 ^ i) : ∃ d, f_X1_lacksDone b (nI m) σ = some d ∧ f_X8_areAllDone 0 (nI m) τ = some (!d) := by
  obtain ⟨sz', z1', z2, z3, z4⟩ := hF.sz
  have hs : sz' = sz := (eq_nI (by omega) (by omega)).mp (z1'.symm.trans z1)
  subst hs
  obtain ⟨F, hFu, eF⟩ := fuel_ex
  unfold f_X1_lacksDone f_X8_areAllDone
  rw [eF]
  refine ⟨anyb (ndp (τ.1 (0 + 1)) (nI m)) 0 sz', lacksDone_L z3 z2 (fun j hj => ?_) sz' 0 F (by omega) (by omega), ?_⟩
  · obtain ⟨st, pl, bg, m', a', b', c', d, ⟨h1, h2, h3, h4, h5, h6, h7, h8, h9⟩, -, -, ⟨f1, f2, f3, f4⟩, -⟩ := (z4 j hj).use
    exact f2.trans h1.symm
  · rw [show (0 : Int32) = nI 0 from rfl, allDone_L rfl 5 0 F true (by omega) (by omega)]
    rw [show (5 : Nat) = sz' + (5 - sz') by omega, anyb_add, anyb_f _ (5 - sz') (0 + sz') (fun j h1 h2 => ?_)]
    · simp
    · unfold ndp
      rw [bit_hi hm (by omega) (by omega)]
      simp
/-- another risky one is under way -/
def rkp (v : Nat → Int32) (i j : Nat) : Bool := !decide (j = i) && (decide (v (92 + 33 * j) = 1) && ((decide (v (92 + 33 * j + 1) = 1) || decide (v (92 + 33 * j + 1) = 2) || decide (v (92 + 33 * j + 1) = 4)) && !decide (v (92 + 33 * j + 3) ≤ 0)))
theorem under_eq {σ : St} {c : Nat} : f_X0_isUnderWay c σ = (decide (gI σ c 5 = 1) || decide (gI σ c 5 = 2) || decide (gI σ c 5 = 4)) := by
  unfold f_X0_isUnderWay f_X0_isWatched
  simp only [bnd_d]
  by_cases h1 : gI σ c 5 = 1
  · simp [h1]
  · by_cases h2 : gI σ c 5 = 2
    · simp [h2]
    · by_cases h4 : gI σ c 5 = 4 <;> simp [h1, h2, h4]
theorem meets_L {σ : St} {b sz i : Nat} {v : Nat → Int32} (hsz : sz ≤ 5) (e4 : gI σ b 4 = nI sz) (hc : ∀ j, j < sz → gI σ (b + 1 + 1 + 5 * j) 5 = v (92 + 33 * j + 1) ∧ gI σ (b + 1 + 1 + 5 * j) 6 = v (92 + 33 * j + 3) ∧ v (92 + 33 * j) = bI (gB σ (b + 1 + 1 + 5 * j) 7)) : ∀ (m k F : Nat), k + m = sz → m < F → it1 (f_X1_meetsOtherRisk_L2 σ b (b + 1 + 1 + 5 * i)) F (nI k) = some (anyb (rkp v i) k m) := by
  intro m
  induction m with
  | zero =>
    intro k F hkm hF
    obtain ⟨F, rfl⟩ : ∃ n', F = n' + 1 := ⟨F - 1, by omega⟩
    show f_X1_meetsOtherRisk_L2 σ b (b + 1 + 1 + 5 * i) (it1 (f_X1_meetsOtherRisk_L2 σ b (b + 1 + 1 + 5 * i)) F) (nI k) = _
    generalize it1 (f_X1_meetsOtherRisk_L2 σ b (b + 1 + 1 + 5 * i)) F = g
    unfold f_X1_meetsOtherRisk_L2
    rw [e4, if_pos (leN (by omega) (by omega))]; rfl
  | succ m ih =>
    intro k F hkm hF
    obtain ⟨F, rfl⟩ : ∃ n', F = n' + 1 := ⟨F - 1, by omega⟩
    show f_X1_meetsOtherRisk_L2 σ b (b + 1 + 1 + 5 * i) (it1 (f_X1_meetsOtherRisk_L2 σ b (b + 1 + 1 + 5 * i)) F) (nI k) = _
    have ih' := ih (k + 1) F (by omega) (by omega)
    generalize it1 (f_X1_meetsOtherRisk_L2 σ b (b + 1 + 1 + 5 * i)) F = g at ih' ⊢
    obtain ⟨a1, a2, a3⟩ := hc k (by omega)
    unfold f_X1_meetsOtherRisk_L2
    rw [e4, if_neg (nleN (by omega) (by omega)), show (5 : Int32) = nI 5 from rfl, if_neg (nleN (by omega) (by omega)), if_pos (inb_nI (by omega) (by omega)), cl_nI (by omega), under_eq, a1, a2]
    simp only [bnd_d, nI_1]
    rw [ih']
    show _ = some (rkp v i k || anyb (rkp v i) (k + 1) m)
    unfold rkp
    rw [a3]
    by_cases h0 : k = i
    · rw [if_pos (by rw [h0])]; simp [h0]
    · rw [if_neg (by omega)]
      by_cases h1 : gB σ (b + 1 + 1 + 5 * k) 7 = true
      · rw [if_pos h1, h1]
        by_cases h2 : (decide (v (92 + 33 * k + 1) = 1) || decide (v (92 + 33 * k + 1) = 2) || decide (v (92 + 33 * k + 1) = 4)) = true
        · rw [if_pos h2, h2]
          by_cases h3 : v (92 + 33 * k + 3) ≤ 0 <;> simp [h0, h3, bI]
        · rw [if_neg h2]
          simp only [Bool.not_eq_true] at h2
          rw [h2]
          simp
      · rw [if_neg h1]
        simp only [Bool.not_eq_true] at h1
        rw [h1]
        simp [bI]
theorem other_L {τ : St} {sz i : Nat} {v : Nat → Int32} (ev : v = τ.1 (0 + 1)) (hsz : sz ≤ 5) (hi : i < 5) (e4 : v 10 = nI sz) : ∀ (m k F : Nat) (d : Bool), k + m = sz → m < F → it2 (f_X8_isOtherRisk_L4 τ 0 (nI i)) F d (nI k) = some ((d || anyb (rkp v i) k m) && decide (v (92 + 33 * i) = 1)) := by
  have er : ∀ j, gI τ (0 + 1) j = v j := fun j => by rw [ev]; rfl
  intro m
  induction m with
  | zero =>
    intro k F d hkm hF
    obtain ⟨F, rfl⟩ : ∃ n', F = n' + 1 := ⟨F - 1, by omega⟩
    show f_X8_isOtherRisk_L4 τ 0 (nI i) (it2 (f_X8_isOtherRisk_L4 τ 0 (nI i)) F) d (nI k) = _
    generalize it2 (f_X8_isOtherRisk_L4 τ 0 (nI i)) F = g
    unfold f_X8_isOtherRisk_L4
    simp only [bnd_d]
    rw [show (10 : Int32).toNatClampNeg = 10 from rfl, er, e4, if_pos (leN (by omega) (by omega)), show f_X8_at (nI i) 0 = nI (92 + 33 * i + 0) from at_nI i 0, if_pos (inb_nI (by omega) (by omega)), cl_nI (by omega), er]
    cases d
    · simp [anyb]
    · by_cases h : v (92 + 33 * i) = 1 <;> simp [h]
  | succ m ih =>
    intro k F d hkm hF
    obtain ⟨F, rfl⟩ : ∃ n', F = n' + 1 := ⟨F - 1, by omega⟩
    show f_X8_isOtherRisk_L4 τ 0 (nI i) (it2 (f_X8_isOtherRisk_L4 τ 0 (nI i)) F) d (nI k) = _
    have ih1 := ih (k + 1) F true (by omega) (by omega)
    have ih2 := ih (k + 1) F false (by omega) (by omega)
    generalize it2 (f_X8_isOtherRisk_L4 τ 0 (nI i)) F = g at ih1 ih2 ⊢
    unfold f_X8_isOtherRisk_L4 f_X8_isOtherRisk_B48
    simp only [bnd_d, nI_1]
    rw [show (10 : Int32).toNatClampNeg = 10 from rfl, er, e4, if_neg (nleN (by omega) (by omega)), show f_X8_at (nI k) 0 = nI (92 + 33 * k + 0) from at_nI k 0, show f_X8_at (nI k) 1 = nI (92 + 33 * k + 1) from at_nI k 1, show f_X8_at (nI k) 3 = nI (92 + 33 * k + 3) from at_nI k 3, inb_nI (show 92 + 33 * k + 0 < 257 by omega) (by omega), inb_nI (show 92 + 33 * k + 1 < 257 by omega) (by omega), inb_nI (show 92 + 33 * k + 3 < 257 by omega) (by omega), cl_nI (show 92 + 33 * k + 0 < 10000000 by omega), cl_nI (show 92 + 33 * k + 1 < 10000000 by omega), cl_nI (show 92 + 33 * k + 3 < 10000000 by omega), er, er, er, ih1, ih2]
    simp only [if_true]
    show _ = some ((d || (rkp v i k || anyb (rkp v i) (k + 1) m)) && decide (v (92 + 33 * i) = 1))
    have hin : f_X8_in (v (92 + 33 * k + 1)) 1 2 = true ↔ (v (92 + 33 * k + 1) = 1 ∨ v (92 + 33 * k + 1) = 2) := by
      constructor
      · intro h
        obtain ⟨j, j1, j2, ej⟩ := in_lo 1 2 (by omega) (by omega) h
        have : j = 1 ∨ j = 2 := by omega
        rcases this with rfl | rfl
        · left; exact ej
        · right; exact ej
      · intro h
        rcases h with h | h <;> rw [h] <;> decide
    have hk : (nI k = nI i) ↔ k = i := eq_nI (by omega) (by omega)
    unfold rkp
    cases d
    · by_cases h0 : k = i
      · have h0' := hk.mpr h0
        by_cases c1 : f_X8_in (v (92 + 33 * k + 1)) 1 2 = true
        · simp [c1, h0]
        · by_cases c4 : v (92 + 33 * k + 1) = 4 <;> simp [c1, c4, h0]
      · have h0' : ¬ nI k = nI i := fun z => h0 (hk.mp z)
        by_cases h1 : v (92 + 33 * k) = 1
        · by_cases h3 : v (92 + 33 * k + 3) ≤ 0
          · by_cases c1 : f_X8_in (v (92 + 33 * k + 1)) 1 2 = true
            · simp [c1, h0, h0', h1, h3]
            · by_cases c4 : v (92 + 33 * k + 1) = 4 <;> simp [c1, c4, h0, h0', h1, h3]
          · by_cases c1 : f_X8_in (v (92 + 33 * k + 1)) 1 2 = true
            · rcases hin.mp c1 with c | c <;> simp [show f_X8_in 1 1 2 = true by decide, show f_X8_in 2 1 2 = true by decide, c, h0, h0', h1, h3]
            · have c2 : ¬ (v (92 + 33 * k + 1) = 1 ∨ v (92 + 33 * k + 1) = 2) := fun z => c1 (hin.mpr z)
              by_cases c4 : v (92 + 33 * k + 1) = 4
              · simp [c1, c4, h0, h0', h1, h3]
              · simp only [not_or] at c2
                simp [c1, c2.1, c2.2, c4, h0', h1]
        · by_cases c1 : f_X8_in (v (92 + 33 * k + 1)) 1 2 = true
          · simp [c1, h0', h1]
          · by_cases c4 : v (92 + 33 * k + 1) = 4 <;> simp [c1, c4, h0', h1]
    · by_cases c1 : f_X8_in (v (92 + 33 * k + 1)) 1 2 = true
      · simp [c1]
      · by_cases c4 : v (92 + 33 * k + 1) = 4 <;> simp [c1, c4]
theorem risk_eq {σ τ : St} {b sz i : Nat} (hF : FR σ b (τ.1 (0 + 1))) (z1 : τ.1 (0 + 1) 10 = nI sz) (hsz : sz ≤ 5) (hi : i < sz) : ∃ d, f_X1_meetsOtherRisk b (b + 1 + 1 + 5 * i) σ = some d ∧ f_X8_isOtherRisk 0 (nI i) τ = some (d && gB σ (b + 1 + 1 + 5 * i) 7) := by
  obtain ⟨sz', z1', z2, z3, z4⟩ := hF.sz
  have hs : sz' = sz := (eq_nI (by omega) (by omega)).mp (z1'.symm.trans z1)
  subst hs
  obtain ⟨F, hFu, eF⟩ := fuel_ex
  unfold f_X1_meetsOtherRisk f_X8_isOtherRisk
  rw [eF]
  refine ⟨anyb (rkp (τ.1 (0 + 1)) i) 0 sz', meets_L z3 z2 (fun j hj => ?_) sz' 0 F (by omega) (by omega), ?_⟩
  · obtain ⟨st, pl, bg, m', a', b', c', d, ⟨h1, h2, h3, h4, h5, h6, h7, h8, h9⟩, -, e0, ⟨f1, f2, f3, f4⟩, -⟩ := (z4 j hj).use
    exact ⟨f2.trans h1.symm, f3.trans h5.symm, e0⟩
  · rw [show (0 : Int32) = nI 0 from rfl, other_L rfl z3 (by omega) z1 sz' 0 F false (by omega) (by omega)]
    obtain ⟨st, pl, bg, m', a', b', c', d, -, -, e0, -⟩ := (z4 i hi).use
    rw [e0]
    cases gB σ (b + 1 + 1 + 5 * i) 7 <;> simp [bI]
theorem m1_nI {n : Nat} (h : 0 < n) : nI n - 1 = nI (n - 1) := pk_sub (a := n) (b := 1) (by omega)
theorem hoursC {σ : St} {c bg : Nat} {x : Int32} (e : gI σ c 6 = nI bg) (h0 : 0 < bg) (h6 : bg ≤ 6) : f_X0_hoursSinceLatest c x σ = some (x - gI σ (c + 4) (bg - 1)) := by
  unfold f_X0_hoursSinceLatest
  simp only [bnd_d]
  rw [e, m1_nI h0, if_neg (nI_pos (by omega)), show (6 : Int32) = nI 6 from rfl, if_neg (nleN (by omega) (by omega)), if_pos (inb_nI (by omega) (by omega)), cl_nI (by omega)]
theorem hoursC0 {σ : St} {c : Nat} {x : Int32} (e : gI σ c 6 = nI 0) : f_X0_hoursSinceLatest c x σ = some 0 := by
  unfold f_X0_hoursSinceLatest
  simp only [bnd_d]
  rw [e, if_pos (by decide)]
theorem hoursM {τ : St} {i bg : Nat} (hi : i < 5) (e : gI τ (0 + 1) (92 + 33 * i + 3) = nI bg) (h6 : bg ≤ 6) : f_X8_hoursSince 0 (nI i) τ = some (if bg = 0 then 0 else gI τ (0 + 1) 1 - gI τ (0 + 1) (92 + 33 * i + (12 + 4 * (bg - 1)))) := by
  unfold f_X8_hoursSince
  simp only [bnd_d]
  rw [show f_X8_at (nI i) 3 = nI (92 + 33 * i + 3) from at_nI i 3, if_pos (inb_nI (by omega) (by omega)), cl_nI (by omega), e]
  by_cases h0 : bg = 0
  · subst h0
    rw [if_pos (by decide), if_pos rfl]
  · rw [if_neg (show ¬ nI bg = 0 from fun z => h0 ((eq_nI (b := 0) (by omega) (by omega)).mp z)), if_neg h0, m1_nI (by omega), show f_X8_stageAt (nI i) (nI (bg - 1)) 3 = nI (92 + 33 * i + (9 + 4 * (bg - 1) + 3)) from sat_nI i (bg - 1) 3, if_pos (inb_nI (by omega) (by omega)), cl_nI (by omega), show 9 + 4 * (bg - 1) + 3 = 12 + 4 * (bg - 1) by omega]
    rfl
theorem lacksC {σ : St} {c bg pl i a b c' d : Nat} {x : Int32} {v : Nat → Int32} (hpl : pl ≤ 6) (hb : bg ≤ pl) (h0 : 0 < bg) (e1 : gI σ (c + 1) 1 = nI pl) (e6 : gI σ c 6 = nI bg) (hk : ∀ k, k < pl → gI σ (c + 1 + 1) (3 * k) = v (92 + 33 * i + (9 + 4 * k))) (t0 : gI σ (c + 3) 0 = nI a) (t1 : gI σ (c + 3) 1 = nI b) (t2 : gI σ (c + 3) 2 = nI c') (t3 : gI σ (c + 3) 3 = nI d) : f_X0_lacksSamples c x σ = some (decide (nI a + nI b < gI σ (c + 1 + 1) (3 * (bg - 1) + 2)) || (!decide (ORv v i bg = x) && !decide (gI σ (c + 1 + 1) (3 * (bg - 1) + 2) ≤ nI c' + nI d))) := by
  unfold f_X0_lacksSamples f_X0_lacksSamples_B44 f_X6_treated f_X6_control
  simp only [bnd_d]
  rw [e6, if_neg (fun z => by have := (eq_nI (b := 0) (by omega) (by omega)).mp z; omega), m1_nI h0, show (2 : Int32) = nI 2 from rfl, number_nI e1 hpl (by omega) (by omega), obd_s, cellsC_eq (by omega) hpl e1 hk, obd_s, t0, t1, t2, t3, show min bg pl = bg by omega]
  generalize gI σ (c + 1 + 1) (3 * (bg - 1) + 2) = sm
  by_cases h1 : ORv v i bg = x
  · by_cases h2 : nI a + nI b < sm
    · simp [h1, h2]
    · simp [h1, h2]
  · by_cases h2 : nI a + nI b < sm
    · simp [h1, h2]
    · by_cases h3 : sm ≤ nI c' + nI d <;> simp [h1, h2, h3]
theorem lacksM {τ : St} {i bg : Nat} (hi : i < 5) (e : gI τ (0 + 1) (92 + 33 * i + 3) = nI bg) (h0 : 0 < bg) (h6 : bg ≤ 6) : f_X8_lacks 0 (nI i) τ = some (!gB τ 0 6 && (decide (gI τ (0 + 1) (92 + 33 * i + 5) + gI τ (0 + 1) (92 + 33 * i + 6) < gI τ (0 + 1) (92 + 33 * i + (11 + 4 * (bg - 1)))) || (!decide (ORv (τ.1 (0 + 1)) i bg = (1 <<< ((gI τ (0 + 1) 0) &&& 31)) - 1) && !decide (gI τ (0 + 1) (92 + 33 * i + (11 + 4 * (bg - 1))) ≤ gI τ (0 + 1) (92 + 33 * i + 7) + gI τ (0 + 1) (92 + 33 * i + 8))))) := by
  unfold f_X8_lacks f_X8_lacks_B52
  simp only [bnd_d]
  rw [show f_X8_at (nI i) 3 = nI (92 + 33 * i + 3) from at_nI i 3, show f_X8_at (nI i) 5 = nI (92 + 33 * i + 5) from at_nI i 5, if_pos (inb_nI (by omega) (by omega)), cl_nI (by omega), e, m1_nI h0, show f_X8_stageAt (nI i) (nI (bg - 1)) 2 = nI (92 + 33 * i + (9 + 4 * (bg - 1) + 2)) from sat_nI i (bg - 1) 2, if_pos (inb_nI (by omega) (by omega)), cl_nI (show 92 + 33 * i + (9 + 4 * (bg - 1) + 2) < 10000000 by omega), show 9 + 4 * (bg - 1) + 2 = 11 + 4 * (bg - 1) by omega, reached_eq hi h6 e, obd_s, nI_1, show nI (92 + 33 * i + 5) + 2 = nI (92 + 33 * i + 5 + 2) from nI_add _ 2, show nI (92 + 33 * i + 5) + 3 = nI (92 + 33 * i + 5 + 3) from nI_add _ 3, inb_nI (show 92 + 33 * i + 5 < 257 by omega) (by omega), inb_nI (show 92 + 33 * i + 5 + 1 < 257 by omega) (by omega), inb_nI (show 92 + 33 * i + 5 + 2 < 257 by omega) (by omega), inb_nI (show 92 + 33 * i + 5 + 3 < 257 by omega) (by omega), cl_nI (show 92 + 33 * i + 5 < 10000000 by omega), cl_nI (show 92 + 33 * i + 5 + 1 < 10000000 by omega), cl_nI (show 92 + 33 * i + 5 + 2 < 10000000 by omega), cl_nI (show 92 + 33 * i + 5 + 3 < 10000000 by omega)]
  simp only [if_true, show (0 : Int32).toNatClampNeg = 0 from rfl, Nat.add_assoc, Nat.reduceAdd]
  generalize gI τ (0 + 1) (92 + (33 * i + (11 + 4 * (bg - 1)))) = sm
  generalize gI τ (0 + 1) (92 + (33 * i + 5)) + gI τ (0 + 1) (92 + (33 * i + 6)) = tr
  generalize gI τ (0 + 1) (92 + (33 * i + 7)) + gI τ (0 + 1) (92 + (33 * i + 8)) = ct
  cases gB τ 0 6
  · by_cases h1 : ORv (τ.1 1) i bg = (1 <<< (gI τ 1 0 &&& 31)) - 1
    · by_cases h2 : tr < sm <;> simp [h1, h2]
    · by_cases h2 : tr < sm
      · simp [h1, h2]
      · by_cases h3 : sm ≤ ct <;> simp [h1, h2, h3]
  · simp
end
section
/-! the reason, side by side -/
theorem tail_eq {σ τ : St} {b sz i bg : Nat} (hF : FR σ b (τ.1 (0 + 1))) (z1 : τ.1 (0 + 1) 10 = nI sz) (hsz : sz ≤ 5) (hi : i < sz) (hb5 : τ.1 (0 + 1) (92 + 33 * i + 3) = nI bg) (hb6 : bg ≤ 6) : ∃ r, f_X1_reasonOf_B62 σ b (b + 1 + 1 + 5 * i) = some r ∧ f_X8_reason_B91 τ 0 (nI i) (nI bg) = some r := by
  obtain ⟨st, pl, bg', m, a, b', c', d, ⟨h1, h2, h3, h4, h5, h6, h7, h8, h9⟩, -, e0, ⟨f1, f2, f3, f4⟩, -⟩ := (hF.row z1 hi hsz).use
  have hbb : bg' = bg := (eq_nI (by omega) (by omega)).mp (h5.symm.trans hb5)
  subst hbb
  obtain ⟨d1, d2, d3⟩ := done_eq hF z1 hsz hi h9
  obtain ⟨k1, k2, k3⟩ := risk_eq hF z1 hsz hi
  have et : gI σ b 6 = gI τ (0 + 1) 1 := hF.1.2.2.2.1
  unfold f_X1_reasonOf_B62 f_X1_reasonOf_B90 f_X1_reasonBeforeFirstStage f_X8_reason_B91 f_X8_reason_B125 f_X8_reason_B149 f_X0_hasFurtherStage
  simp only [bnd_d]
  rw [show f_X8_at (nI i) 2 = nI (92 + 33 * i + 2) from at_nI i 2, show f_X8_at (nI i) 4 = nI (92 + 33 * i + 4) from at_nI i 4, inb_nI (show 92 + 33 * i + 2 < 257 by omega) (by omega), inb_nI (show 92 + 33 * i + 4 < 257 by omega) (by omega), cl_nI (show 92 + 33 * i + 2 < 10000000 by omega), cl_nI (show 92 + 33 * i + 4 < 10000000 by omega), show gI τ (0 + 1) (92 + 33 * i + 2) = nI pl from h3, show gI τ (0 + 1) (92 + 33 * i + 4) = nI m from h8, f1, f3, f4, et, show (1 : Int32).toNatClampNeg = 1 from rfl, covers_eq hF, frozen_eq hF.ns, d2, d3, k2, k3]
  simp only [obd_s, if_true]
  generalize frz (τ.1 (0 + 1)) (irm (gI τ (0 + 1) 1) 168) 0 (τ.1 (0 + 1) 3).toNatClampNeg = fz
  generalize gB σ (b + 1 + 1 + 5 * i) 7 = rk
  by_cases hp : pl ≤ bg'
  · rw [if_pos (leN hp (by omega)), if_pos (leN hp (by omega)), if_neg (by decide)]
    by_cases h0 : bg' = 0
    · subst h0
      rw [if_pos (by decide), if_pos (show nI 0 = 0 from rfl), if_pos (show nI 0 = 0 from rfl)]
      cases d1 <;> cases rk <;> cases k1 <;> exact ⟨_, rfl, rfl⟩
    · rw [if_neg (show ¬ nI bg' ≤ 0 from nleN (b := 0) (by omega) (by omega)), if_neg (show ¬ nI bg' = 0 from neN (b := 0) h0 (by omega) (by omega)), if_neg (show ¬ nI bg' = 0 from neN (b := 0) h0 (by omega) (by omega))]
      exact ⟨_, rfl, rfl⟩
  · rw [if_neg (nleN (by omega) (by omega)), if_neg (nleN (by omega) (by omega)), if_pos rfl]
    by_cases h0 : bg' = 0
    · subst h0
      rw [if_pos (show nI 0 ≤ 0 by decide), if_pos (show nI 0 = 0 from rfl), if_pos (show nI 0 = 0 from rfl)]
      cases fz <;> cases d1 <;> cases rk <;> cases k1 <;> exact ⟨_, rfl, rfl⟩
    · rw [if_neg (show ¬ nI bg' ≤ 0 from nleN (b := 0) (by omega) (by omega)), if_neg (show ¬ nI bg' = 0 from neN (b := 0) h0 (by omega) (by omega)), if_neg (show ¬ nI bg' = 0 from neN (b := 0) h0 (by omega) (by omega))]
      cases fz <;> exact ⟨_, rfl, rfl⟩
theorem allCells_eq {σ : St} {b : Nat} {v : Nat → Int32} (h : FR σ b v) : f_X1_allCells b σ = (1 <<< (v 0 &&& 31)) - 1 := by
  unfold f_X1_allCells
  rw [h.1.2.2.1]
theorem reason_eq {σ τ : St} {b sz i : Nat} (hF : FR σ b (τ.1 (0 + 1))) (hz : gB σ b 3 = gB τ 0 6) (z1 : τ.1 (0 + 1) 10 = nI sz) (hsz : sz ≤ 5) (hi : i < sz) : ∃ r, f_X1_reasonOf b (b + 1 + 1 + 5 * i) σ = some r ∧ f_X8_reason 0 (nI i) τ = some r := by
  obtain ⟨st, pl, bg, m, a, b', c', d, ⟨h1, h2, h3, h4, h5, h6, h7, h8, h9⟩, ⟨g1, g2, g3, g4, g5, g6⟩, e0, ⟨f1, f2, f3, f4⟩, kk1, kk2, m1, m2, m3, m4, -, -⟩ := (hF.row z1 hi hsz).use
  obtain ⟨r, r1, r2⟩ := tail_eq hF z1 hsz hi h5 (by omega)
  have et : gI σ b 6 = gI τ (0 + 1) 1 := hF.1.2.2.2.1
  unfold f_X1_reasonOf f_X8_reason f_X8_reason_B77 f_X0_waitsAt
  simp only [bnd_d]
  rw [show f_X8_at (nI i) 1 = nI (92 + 33 * i + 1) from at_nI i 1, show f_X8_at (nI i) 3 = nI (92 + 33 * i + 3) from at_nI i 3, inb_nI (show 92 + 33 * i + 1 < 257 by omega) (by omega), inb_nI (show 92 + 33 * i + 3 < 257 by omega) (by omega), cl_nI (show 92 + 33 * i + 1 < 10000000 by omega), cl_nI (show 92 + 33 * i + 3 < 10000000 by omega), show gI τ (0 + 1) (92 + 33 * i + 1) = nI st from h1, show gI τ (0 + 1) (92 + 33 * i + 3) = nI bg from h5, under_eq, f2, f3, r1, r2]
  simp only [if_true]
  have hst : st = 0 ∨ st = 2 ∨ st = 3 ∨ st = 4 ∨ st = 5 ∨ st = 1 := by omega
  rcases hst with rfl | rfl | rfl | rfl | rfl | rfl
  · exact ⟨1, by simp [show ¬ nI 0 = 1 by decide, show ¬ nI 0 = 2 by decide, show ¬ nI 0 = 4 by decide], by simp [show ¬ nI 0 = 1 by decide, show ¬ nI 0 = 2 by decide, show ¬ nI 0 = 4 by decide]⟩
  · exact ⟨3, by simp [show ¬ nI 2 = 1 by decide, show nI 2 = 2 by decide, show ¬ nI 2 = 4 by decide], by simp [show ¬ nI 2 = 1 by decide, show nI 2 = 2 by decide, show ¬ nI 2 = 4 by decide]⟩
  · exact ⟨1, by simp [show ¬ nI 3 = 1 by decide, show ¬ nI 3 = 2 by decide, show ¬ nI 3 = 4 by decide], by simp [show ¬ nI 3 = 1 by decide, show ¬ nI 3 = 2 by decide, show ¬ nI 3 = 4 by decide]⟩
  · exact ⟨2, by simp [show nI 4 = 4 by decide], by simp [show nI 4 = 4 by decide]⟩
  · exact ⟨1, by simp [show ¬ nI 5 = 1 by decide, show ¬ nI 5 = 2 by decide, show ¬ nI 5 = 4 by decide], by simp [show ¬ nI 5 = 1 by decide, show ¬ nI 5 = 2 by decide, show ¬ nI 5 = 4 by decide]⟩
  · rw [if_pos (show (decide (nI 1 = 1) || decide (nI 1 = 2) || decide (nI 1 = 4)) = true by decide), if_neg (show ¬ nI 1 = 4 by decide), if_neg (show ¬ nI 1 = 2 by decide), if_neg (show ¬ nI 1 = 4 by decide), if_neg (show ¬ nI 1 = 2 by decide), if_pos (show nI 1 = 1 by decide)]
    by_cases h0 : bg = 0
    · subst h0
      rw [if_pos (show nI 0 ≤ 0 by decide), if_pos (show nI 0 ≤ 0 by decide)]
      have el : ∀ x, f_X0_lacksSamples (b + 1 + 1 + 5 * i) x σ = some false := by
        intro x
        unfold f_X0_lacksSamples
        rw [f3, if_pos (show nI 0 = 0 from rfl)]
      simp only [el, obd_s, Bool.false_eq_true, if_false]
      refine ⟨r, ?_, rfl⟩
      cases gB σ b 3 <;> rfl
    · have hk := kk1 (bg - 1) (by omega)
      rw [if_neg (show ¬ nI bg ≤ 0 from nleN (b := 0) (by omega) (by omega)), if_neg (show ¬ nI bg ≤ 0 from nleN (b := 0) (by omega) (by omega)), hoursC f3 (by omega) (by omega), hoursM (by omega) h5 (by omega), if_neg h0, obd_s, obd_s, m1_nI (by omega), show f_X4_number (b + 1 + 1 + 5 * i + 1) (nI (bg - 1)) 1 σ = _ from number_nI (j := 1) f4 h4 (by omega) (by omega), obd_s, hk.2.1, kk2 (bg - 1) (by omega), show f_X8_stageAt (nI i) (nI (bg - 1)) 1 = nI (92 + 33 * i + (9 + 4 * (bg - 1) + 1)) from sat_nI i (bg - 1) 1, if_pos (inb_nI (by omega) (by omega)), cl_nI (by omega), show 9 + 4 * (bg - 1) + 1 = 10 + 4 * (bg - 1) by omega, et]
      have el := lacksC (x := f_X1_allCells b σ) h4 h6 (show 0 < bg by omega) f4 f3 (fun k hk => (kk1 k hk).1) m1 m2 m3 m4
      have em := lacksM (τ := τ) (i := i) (by omega) h5 (by omega) (by omega)
      rw [el, em, obd_s, obd_s, hz]
      rw [show gI τ (0 + 1) (92 + 33 * i + 5) = nI a from g1, show gI τ (0 + 1) (92 + 33 * i + 6) = nI b' from g2, show gI τ (0 + 1) (92 + 33 * i + 7) = nI c' from g3, show gI τ (0 + 1) (92 + 33 * i + 8) = nI d from g4, hk.2.2, allCells_eq hF]
      by_cases hw : τ.1 (0 + 1) (92 + 33 * i + (10 + 4 * (bg - 1))) ≤ gI τ (0 + 1) 1 - τ.1 (0 + 1) (92 + 33 * i + (12 + 4 * (bg - 1)))
      · rw [if_pos hw, obd_s, if_neg (show ¬ false = true by decide), if_neg (show ¬ nI bg ≤ 0 from nleN (b := 0) (by omega) (by omega))]
        rw [if_pos (show gI τ (0 + 1) (92 + 33 * i + (10 + 4 * (bg - 1))) ≤ gI τ (0 + 1) 1 - gI τ (0 + 1) (92 + 33 * i + (12 + 4 * (bg - 1))) from hw)]
        cases gB τ 0 6
        · have e : ∀ j, gI τ (0 + 1) j = τ.1 (0 + 1) j := fun _ => rfl
          simp only [Bool.not_false, Bool.true_and, Bool.false_eq_true, if_false, e]
          split <;> exact ⟨_, rfl, rfl⟩
        · exact ⟨_, rfl, rfl⟩
      · rw [if_neg hw, obd_s, if_pos rfl]
        rw [if_neg (show ¬ gI τ (0 + 1) (92 + 33 * i + (10 + 4 * (bg - 1))) ≤ gI τ (0 + 1) 1 - gI τ (0 + 1) (92 + 33 * i + (12 + 4 * (bg - 1))) from hw)]
        exact ⟨_, rfl, rfl⟩
theorem op_change {σ τ : St} (hR : Rel σ τ) (x1 x2 : Int32) : ∃ r, f_X7_change 0 x1 x2 σ = some r ∧ f_X8_change 0 x1 x2 τ = some r ∧ Rel σ τ := by
  unfold f_X7_change f_X8_change f_X8_tells
  simp only [bnd_d, isChange_eq]
  have hF := hR.1
  rcases find_or hF x1 with ⟨i, sz, z1, z2, hi, rfl, ef, ei⟩ | ⟨ef, ei⟩
  · rw [ef, ei, obd_s, opt_s, if_pos (shF i (by omega)), if_pos rfl]
    obtain ⟨st, pl, bg, m, a, b', c', d, ⟨h1, h2, h3, h4, h5, h6, h7, h8, h9⟩, ⟨g1, g2, g3, g4, g5, g6⟩, e0, ⟨f1, f2, f3, f4⟩, kk1, kk2, -⟩ := (hF.row z1 hi z2).use
    by_cases g : f_X8_in x2 0 6 = true
    · rw [if_pos g]
      obtain ⟨j, -, hj, rfl⟩ := in_lo 0 6 (by omega) (by omega) g
      have hj3 : j = 0 ∨ j = 1 ∨ j = 2 ∨ j = 3 ∨ j = 4 ∨ j = 5 ∨ j = 6 := by omega
      rw [show f_X8_at (nI i) 0 = nI (92 + 33 * i + 0) from at_nI i 0, show f_X8_at (nI i) 1 = nI (92 + 33 * i + 1) from at_nI i 1, show f_X8_at (nI i) 2 = nI (92 + 33 * i + 2) from at_nI i 2, show f_X8_at (nI i) 3 = nI (92 + 33 * i + 3) from at_nI i 3, show f_X8_at (nI i) 4 = nI (92 + 33 * i + 4) from at_nI i 4, inb_nI (show 92 + 33 * i + 0 < 257 by omega) (by omega), inb_nI (show 92 + 33 * i + 1 < 257 by omega) (by omega), inb_nI (show 92 + 33 * i + 2 < 257 by omega) (by omega), inb_nI (show 92 + 33 * i + 3 < 257 by omega) (by omega), inb_nI (show 92 + 33 * i + 4 < 257 by omega) (by omega), cl_nI (show 92 + 33 * i + 0 < 10000000 by omega), cl_nI (show 92 + 33 * i + 1 < 10000000 by omega), cl_nI (show 92 + 33 * i + 2 < 10000000 by omega), cl_nI (show 92 + 33 * i + 3 < 10000000 by omega), cl_nI (show 92 + 33 * i + 4 < 10000000 by omega), show gI τ (0 + 1) (92 + 33 * i + 1) = nI st from h1, show gI τ (0 + 1) (92 + 33 * i + 2) = nI pl from h3, show gI τ (0 + 1) (92 + 33 * i + 3) = nI bg from h5, show gI τ (0 + 1) (92 + 33 * i + 4) = nI m from h8, show gI τ (0 + 1) (92 + 33 * i + 0) = _ from e0, f1, f2, f3, f4]
      simp only [if_true]
      rcases hj3 with rfl | rfl | rfl | rfl | rfl | rfl | rfl
      · rw [if_pos (by decide), if_pos (by decide)]; exact ⟨_, rfl, rfl, hR⟩
      · rw [if_neg (by decide), if_pos (by decide), if_neg (by decide), if_pos (by decide)]; exact ⟨_, rfl, rfl, hR⟩
      · rw [if_neg (by decide), if_neg (by decide), if_pos (by decide), if_neg (by decide), if_neg (by decide), if_pos (by decide)]; exact ⟨_, rfl, rfl, hR⟩
      · rw [if_neg (by decide), if_neg (by decide), if_neg (by decide), if_pos (by decide), if_neg (by decide), if_neg (by decide), if_neg (by decide), if_pos (by decide), hoursM (by omega) h5 (by omega)]
        by_cases h0 : bg = 0
        · subst h0
          rw [hoursC0 f3, if_pos rfl]
          exact ⟨_, rfl, rfl, hR⟩
        · rw [hoursC f3 (by omega) (by omega), if_neg h0, kk2 (bg - 1) (by omega), show gI σ (0 + 1) 6 = gI τ (0 + 1) 1 from hF.1.2.2.2.1]
          exact ⟨_, rfl, rfl, hR⟩
      · rw [if_neg (by decide), if_neg (by decide), if_neg (by decide), if_neg (by decide), if_pos (by decide), if_neg (by decide), if_neg (by decide), if_neg (by decide), if_neg (by decide), if_pos (by decide)]
        obtain ⟨r, r1, r2⟩ := reason_eq hF (hR.2.2.2.1.1.trans hR.2.2.2.2.2.symm) z1 z2 hi
        rw [r1, r2]
        exact ⟨_, rfl, rfl, hR⟩
      · rw [if_neg (by decide), if_neg (by decide), if_neg (by decide), if_neg (by decide), if_neg (by decide), if_pos (by decide), if_neg (by decide), if_neg (by decide), if_neg (by decide), if_neg (by decide), if_neg (by decide), if_pos (by decide)]
        exact ⟨_, rfl, rfl, hR⟩
      · rw [if_neg (by decide), if_neg (by decide), if_neg (by decide), if_neg (by decide), if_neg (by decide), if_neg (by decide), if_pos (by decide)]
        generalize gB σ (0 + 1 + 1 + 1 + 5 * i) 7 = rk
        cases rk <;> rw [if_neg (show ¬ nI 6 = 0 by decide), if_neg (show ¬ nI 6 = 1 by decide), if_neg (show ¬ nI 6 = 2 by decide), if_neg (show ¬ nI 6 = 3 by decide), if_neg (show ¬ nI 6 = 4 by decide), if_neg (show ¬ nI 6 = 5 by decide)] <;> exact ⟨_, rfl, rfl, hR⟩
    · rw [if_neg g]
      have n0 : ¬ x2 = 0 := fun z => g (by rw [z]; decide)
      have n1 : ¬ x2 = 1 := fun z => g (by rw [z]; decide)
      have n2 : ¬ x2 = 2 := fun z => g (by rw [z]; decide)
      have n3 : ¬ x2 = 3 := fun z => g (by rw [z]; decide)
      have n4 : ¬ x2 = 4 := fun z => g (by rw [z]; decide)
      have n5 : ¬ x2 = 5 := fun z => g (by rw [z]; decide)
      have n6 : ¬ x2 = 6 := fun z => g (by rw [z]; decide)
      rw [if_neg n0, if_neg n1, if_neg n2, if_neg n3, if_neg n4, if_neg n5, if_neg n6]
      exact ⟨_, rfl, rfl, hR⟩
  · rw [ef, ei, obd_s, opt_n, if_neg (by decide)]
    exact ⟨_, rfl, rfl, hR⟩
end
section
/-! the log, side by side -/
theorem irm_nI {a d : Nat} (ha : a < 10000000) (h0 : 0 < d) (hd : d < 10000000) : irm (nI a) (nI d) = nI (a % d) := pk_rem (by omega) h0 (by omega)
/-- one more entry in the row -/
def NT (v v' : Nat → Int32) (x0 x1 x2 x3 : Int32) : Prop :=
  ∃ n s : Nat, v 11 = nI (n + s) ∧ n ≤ 19 ∧ (s = 0 ∨ (s = 1 ∧ n = 19)) ∧ v' 11 = nI (n + 1) ∧ (∀ k, k < n → ∀ j, j < 4 → v' (12 + 4 * k + j) = v (12 + 4 * (k + s) + j)) ∧ (v' (12 + 4 * n) = x0 ∧ v' (12 + 4 * n + 1) = x1 ∧ v' (12 + 4 * n + 2) = x2 ∧ v' (12 + 4 * n + 3) = x3)
theorem put_B {σ : St} {q od n : Nat} {x1 x2 x3 x4 : Int32} (e1 : gI σ q 1 = nI od) (e2 : gI σ q 2 = nI n) (ho : od < 20) (hn : n ≤ 19) : f_X3_put_B28 q x1 x2 x3 x4 σ = some (sI (sI (sI (sI (sI (sI σ q 2 (nI (n + 1))) q 3 (gI σ q 3 + 1)) (q + 1) (4 * ((od + n) % 20)) x1) (q + 1) (4 * ((od + n) % 20) + 1) x2) (q + 1) (4 * ((od + n) % 20) + 2) x3) (q + 1) (4 * ((od + n) % 20) + 3) x4) := by
  unfold f_X3_put_B28 f_X3_placeOf
  simp only [bnd_d, within_in]
  have hm : (od + n) % 20 < 20 := Nat.mod_lt _ (by omega)
  have i1 : irm (gI σ q 1 + gI σ q 2) 20 * 4 + 0 = nI (4 * ((od + n) % 20)) := by
    rw [e1, e2, nI_add, show irm (nI (od + n)) 20 = nI ((od + n) % 20) from irm_nI (d := 20) (by omega) (by omega) (by omega)]
    show nI ((od + n) % 20) * nI 4 + nI 0 = _
    rw [pk_mul, nI_add]; congr 1; omega
  generalize (od + n) % 20 = p at hm i1 ⊢
  rw [i1, e2, nI_1]
  have i2 : f_X8_in (nI (4 * p)) 0 (80 - 4) = true := (in_nI (a := 0) (b := 76) (by omega) (by omega) (by omega)).mpr ⟨by omega, by omega⟩
  rw [i2, if_pos rfl, show nI (4 * p) + 0 = nI (4 * p) from nI_add _ 0, show nI (4 * p) + 2 = nI (4 * p + 2) from nI_add _ 2, show nI (4 * p) + 3 = nI (4 * p + 3) from nI_add _ 3, nI_1, if_pos (inb_nI (by omega) (by omega)), if_pos (inb_nI (by omega) (by omega)), if_pos (inb_nI (by omega) (by omega)), if_pos (inb_nI (by omega) (by omega)), cl_nI (by omega), cl_nI (by omega), cl_nI (by omega), cl_nI (by omega), gI_n (Or.inr (by omega))]
theorem put_g {g : Nat → Int32} {p k j : Nat} {x1 x2 x3 x4 : Int32} (hj : j < 4) (h : k ≠ p) : upd (upd (upd (upd g (4 * p) x1) (4 * p + 1) x2) (4 * p + 2) x3) (4 * p + 3) x4 (4 * k + j) = g (4 * k + j) := by
  rw [upd_n (by omega), upd_n (by omega), upd_n (by omega), upd_n (by omega)]
theorem put_eq0 {σ : St} {q od n lg : Nat} {v v' : Nat → Int32} {x0 x1 x2 x3 : Int32} (hlg : lg = n + 0) (n2 : n ≤ 19) (h1 : v 11 = nI lg) (h3 : od < 20) (h4 : σ.1 q 1 = nI od) (e1 : gI σ q 1 = nI od) (e2 : gI σ q 2 = nI lg) (h6 : ∀ k, k < lg → ∀ j, j < 4 → σ.1 (q + 1) (4 * ((od + k) % 20) + j) = v (12 + 4 * k + j)) (n4 : v' 11 = nI (n + 1)) (n5 : ∀ k, k < n → ∀ j, j < 4 → v' (12 + 4 * k + j) = v (12 + 4 * (k + 0) + j)) (m0 : v' (12 + 4 * n) = x0) (m1 : v' (12 + 4 * n + 1) = x1) (m2 : v' (12 + 4 * n + 2) = x2) (m3 : v' (12 + 4 * n + 3) = x3) : ∃ σ', f_X3_put q x0 x1 x2 x3 σ = some σ' ∧ (∀ k, k ≠ q → k ≠ q + 1 → σ'.1 k = σ.1 k) ∧ σ'.2 = σ.2 ∧ LgW (σ'.1 q) (σ'.1 (q + 1)) v' ∧ gI σ' q 3 = gI σ q 3 + 1 := by
  unfold f_X3_put
  rw [e2]
  rw [show (20 : Int32) = nI 20 from rfl, if_pos (ltN (by omega) (by omega)), put_B (n := n) e1 (by rw [e2, hlg, Nat.add_zero]) h3 n2]
  refine ⟨_, rfl, fun k k1 k2 => ?_, rfl, ?_, ?_⟩
  · rw [rI_n k2, rI_n k2, rI_n k2, rI_n k2, rI_n k1, rI_n k1]
  · rw [rI_n (by omega), rI_n (by omega), rI_n (by omega), rI_n (by omega), rI_s, rI_s, rI_s, rI_s, rI_s, rI_s, rI_n (by omega), rI_n (by omega)]
    refine ⟨n + 1, od, n4, by omega, h3, ?_, ?_, fun k hk j hj => ?_⟩
    · rw [upd_n (by omega), upd_n (by omega)]; exact h4
    · rw [upd_n (by omega), upd_s]; exact n4.symm
    · by_cases hkn : k = n
      · subst hkn
        have hj4 : j = 0 ∨ j = 1 ∨ j = 2 ∨ j = 3 := by omega
        rcases hj4 with rfl | rfl | rfl | rfl
        · rw [upd_n (by omega), upd_n (by omega), upd_n (by omega), Nat.add_zero (4 * ((od + k) % 20)), upd_s]; exact m0.symm
        · rw [upd_n (by omega), upd_n (by omega), upd_s]; exact m1.symm
        · rw [upd_n (by omega), upd_s]; exact m2.symm
        · rw [upd_s]; exact m3.symm
      · rw [put_g hj (by omega), n5 k (by omega) j hj]
        exact h6 k (by omega) j hj
  · rw [gI_n (Or.inl (by omega)), gI_n (Or.inl (by omega)), gI_n (Or.inl (by omega)), gI_n (Or.inl (by omega)), gI_s]
theorem irm20 {od : Nat} (h : od < 20) : irm (nI od + 1) 20 = nI ((od + 1) % 20) := by
  rw [nI_1]
  exact irm_nI (d := 20) (by omega) (by omega) (by omega)
theorem bnd_e {α ρ : Type} (a : α) (f : α → ρ) : bnd a f = f a := by
  cases Classical.em True <;> rfl
theorem put_full {σ : St} {q od o2 : Nat} {x0 x1 x2 x3 : Int32} (e1 : gI σ q 1 = nI od) (e2 : gI σ q 2 = nI 20) (h3 : irm (nI od + 1) 20 = nI o2) : f_X3_put q x0 x1 x2 x3 σ = f_X3_put_B28 q x0 x1 x2 x3 (sI (sI σ q 1 (nI o2)) q 2 (nI 19)) := by
  unfold f_X3_put
  rw [e2, if_neg (show ¬ nI 20 < 20 by decide)]
  rw [bnd_e, bnd_e, e1, h3, show (19 : Int32) = nI 19 from rfl]
theorem put_LgW {g v v' : Nat → Int32} {r : Nat → Int32} {o2 p : Nat} {x0 x1 x2 x3 : Int32} (ho : o2 < 20) (ep : p = (o2 + 19) % 20) (h6 : ∀ k, k < 19 → ∀ j, j < 4 → g (4 * ((o2 + k) % 20) + j) = v (12 + 4 * (k + 1) + j)) (n4 : v' 11 = nI 20) (r1 : r 1 = nI o2) (r2 : r 2 = nI 20) (n5 : ∀ k, k < 19 → ∀ j, j < 4 → v' (12 + 4 * k + j) = v (12 + 4 * (k + 1) + j)) (m0 : v' (12 + 4 * 19) = x0) (m1 : v' (12 + 4 * 19 + 1) = x1) (m2 : v' (12 + 4 * 19 + 2) = x2) (m3 : v' (12 + 4 * 19 + 3) = x3) : LgW r (upd (upd (upd (upd g (4 * p) x0) (4 * p + 1) x1) (4 * p + 2) x2) (4 * p + 3) x3) v' := by
  refine ⟨20, o2, n4, by omega, ho, r1, r2.trans n4.symm, fun k hk j hj => ?_⟩
  by_cases hkn : k = 19
  · subst hkn
    rw [← ep]
    have hj4 : j = 0 ∨ j = 1 ∨ j = 2 ∨ j = 3 := by omega
    rcases hj4 with rfl | rfl | rfl | rfl
    · rw [upd_n (by omega), upd_n (by omega), upd_n (by omega), Nat.add_zero (4 * p), upd_s]; exact m0.symm
    · rw [upd_n (by omega), upd_n (by omega), upd_s]; exact m1.symm
    · rw [upd_n (by omega), upd_s]; exact m2.symm
    · rw [upd_s]; exact m3.symm
  · rw [put_g hj (by omega), n5 k (by omega) j hj]
    exact h6 k (by omega) j hj
theorem put_eq1 {σ : St} {q od : Nat} {v v' : Nat → Int32} {x0 x1 x2 x3 : Int32} (h3 : od < 20) (e1 : gI σ q 1 = nI od) (e2 : gI σ q 2 = nI 20) (h6 : ∀ k, k < 20 → ∀ j, j < 4 → σ.1 (q + 1) (4 * ((od + k) % 20) + j) = v (12 + 4 * k + j)) (n4 : v' 11 = nI 20) (n5 : ∀ k, k < 19 → ∀ j, j < 4 → v' (12 + 4 * k + j) = v (12 + 4 * (k + 1) + j)) (m0 : v' (12 + 4 * 19) = x0) (m1 : v' (12 + 4 * 19 + 1) = x1) (m2 : v' (12 + 4 * 19 + 2) = x2) (m3 : v' (12 + 4 * 19 + 3) = x3) : ∃ σ', f_X3_put q x0 x1 x2 x3 σ = some σ' ∧ (∀ k, k ≠ q → k ≠ q + 1 → σ'.1 k = σ.1 k) ∧ σ'.2 = σ.2 ∧ LgW (σ'.1 q) (σ'.1 (q + 1)) v' ∧ gI σ' q 3 = gI σ q 3 + 1 := by
  have ho : (od + 1) % 20 < 20 := Nat.mod_lt _ (by omega)
  have i1 := irm20 h3
  have h7 : ∀ k, k < 19 → ∀ j, j < 4 → σ.1 (q + 1) (4 * (((od + 1) % 20 + k) % 20) + j) = v (12 + 4 * (k + 1) + j) := by
    intro k hk j hj
    rw [show ((od + 1) % 20 + k) % 20 = (od + (k + 1)) % 20 by omega]
    exact h6 (k + 1) (by omega) j hj
  generalize (od + 1) % 20 = o2 at ho i1 h7
  rw [put_full e1 e2 i1, put_B (od := o2) (n := 19) (by rw [gI_n (Or.inr (by omega)), gI_s]) (gI_s _ _ _ _) ho (by omega)]
  have ep : ∃ p, p = (o2 + 19) % 20 := ⟨_, rfl⟩
  obtain ⟨p, ep⟩ := ep
  rw [← ep]
  refine ⟨_, rfl, fun k k1 k2 => ?_, rfl, ?_, ?_⟩
  · rw [rI_n k2, rI_n k2, rI_n k2, rI_n k2, rI_n k1, rI_n k1, rI_n k1, rI_n k1]
  · rw [rI_n (by omega), rI_n (by omega), rI_n (by omega), rI_n (by omega), rI_s, rI_s, rI_s, rI_s, rI_s, rI_s, rI_s, rI_s, rI_n (by omega), rI_n (by omega), rI_n (by omega), rI_n (by omega)]
    refine put_LgW ho ep h7 n4 ?_ ?_ n5 m0 m1 m2 m3
    · rw [upd_n (by omega), upd_n (by omega), upd_n (by omega), upd_s]
    · rw [upd_n (by omega), upd_s]
  · rw [gI_n (Or.inl (by omega)), gI_n (Or.inl (by omega)), gI_n (Or.inl (by omega)), gI_n (Or.inl (by omega)), gI_s, gI_n (Or.inr (by omega)), gI_n (Or.inr (by omega))]
theorem put_eq {σ : St} {q : Nat} {v v' : Nat → Int32} {x0 x1 x2 x3 : Int32} (h : LgW (σ.1 q) (σ.1 (q + 1)) v) (hN : NT v v' x0 x1 x2 x3) : ∃ σ', f_X3_put q x0 x1 x2 x3 σ = some σ' ∧ (∀ k, k ≠ q → k ≠ q + 1 → σ'.1 k = σ.1 k) ∧ σ'.2 = σ.2 ∧ LgW (σ'.1 q) (σ'.1 (q + 1)) v' ∧ gI σ' q 3 = gI σ q 3 + 1 := by
  obtain ⟨lg, od, h1, h2, h3, h4, h5, h6⟩ := h
  obtain ⟨n, s, n1, n2, n3, n4, n5, m0, m1, m2, m3⟩ := hN
  have hlg : lg = n + s := (eq_nI (by omega) (by omega)).mp (h1.symm.trans n1)
  have e1 : gI σ q 1 = nI od := h4
  have e2 : gI σ q 2 = nI lg := h5.trans h1
  rcases n3 with rfl | ⟨rfl, rfl⟩
  · exact put_eq0 hlg n2 h1 h3 h4 e1 e2 h6 n4 n5 m0 m1 m2 m3
  · subst hlg
    exact put_eq1 h3 e1 e2 h6 n4 n5 m0 m1 m2 m3
theorem notes_B {τ : St} {n : Nat} {x1 x2 x3 : Int32} (e : gI τ (0 + 1) 11 = nI n) (hn : n ≤ 19) : f_X8_notes_B54 0 x1 x2 x3 τ = some (sI (sI (sI (sI (sI (sI τ (0 + 1) (12 + 4 * n) (gI τ (0 + 1) 1)) (0 + 1) (12 + 4 * n + 1) x1) (0 + 1) (12 + 4 * n + 2) x2) (0 + 1) (12 + 4 * n + 3) x3) (0 + 1) 11 (nI (n + 1))) 0 7 (gI τ 0 7 + 1)) := by
  unfold f_X8_notes_B54
  simp only [bnd_d]
  rw [show (11 : Int32).toNatClampNeg = 11 from rfl, show (1 : Int32).toNatClampNeg = 1 from rfl, e]
  have i1 : (12 : Int32) + 4 * nI n = nI (12 + 4 * n) := by show nI 12 + nI 4 * nI n = _; rw [pk_mul, nI_add]
  rw [i1, nI_1, show nI (12 + 4 * n) + 2 = nI (12 + 4 * n + 2) from nI_add _ 2, show nI (12 + 4 * n) + 3 = nI (12 + 4 * n + 3) from nI_add _ 3, if_pos (inb_nI (by omega) (by omega)), if_pos (inb_nI (by omega) (by omega)), if_pos (inb_nI (by omega) (by omega)), if_pos (inb_nI (by omega) (by omega)), cl_nI (by omega), cl_nI (by omega), cl_nI (by omega), cl_nI (by omega)]
  rw [gI_n (k' := 0 + 1) (Or.inr (by omega)), gI_n (k' := 0 + 1) (Or.inr (by omega)), gI_n (k' := 0 + 1) (Or.inr (by omega)), gI_n (k' := 0 + 1) (Or.inr (by omega)), e, nI_1, gI_n (k' := 0) (Or.inl (by omega)), gI_n (k' := 0) (Or.inl (by omega)), gI_n (k' := 0) (Or.inl (by omega)), gI_n (k' := 0) (Or.inl (by omega)), gI_n (k' := 0) (Or.inl (by omega))]
/-- the shift: what is at 12 .. 87 comes from four further on -/
theorem notes_L {x1 x2 x3 : Int32} : ∀ (m k F : Nat) (τ : St), k + m = 88 → 12 ≤ k → m < F → ∃ τ', it2 (f_X8_notes_L16 0 x1 x2 x3) F (nI k) τ = f_X8_notes_B54 0 x1 x2 x3 (sI τ' (0 + 1) 11 19) ∧ frM τ τ' ∧ τ'.2 = τ.2 ∧ gI τ' 0 7 = gI τ 0 7 ∧ ∀ j, τ'.1 (0 + 1) j = if k ≤ j ∧ j < 88 then τ.1 (0 + 1) (j + 4) else τ.1 (0 + 1) j := by
  intro m
  induction m with
  | zero =>
    intro k F τ hkm hk hF
    obtain ⟨F, rfl⟩ : ∃ n', F = n' + 1 := ⟨F - 1, by omega⟩
    refine ⟨τ, ?_, frM.rf, rfl, rfl, fun j => by rw [if_neg (by omega)]⟩
    show f_X8_notes_L16 0 x1 x2 x3 (it2 (f_X8_notes_L16 0 x1 x2 x3) F) (nI k) τ = _
    generalize it2 (f_X8_notes_L16 0 x1 x2 x3) F = g
    unfold f_X8_notes_L16
    rw [show (88 : Int32) = nI 88 from rfl, if_pos (leN (by omega) (by omega))]
    rfl
  | succ m ih =>
    intro k F τ hkm hk hF
    obtain ⟨F, rfl⟩ : ∃ n', F = n' + 1 := ⟨F - 1, by omega⟩
    obtain ⟨τ', t1, t2, t3, t4, t5⟩ := ih (k + 1) F (sI τ (0 + 1) k (gI τ (0 + 1) (k + 4))) (by omega) (by omega) (by omega)
    refine ⟨τ', ?_, frM.row.tr t2, t3, by rw [t4, gI_n (Or.inl (by omega))], fun j => ?_⟩
    · show f_X8_notes_L16 0 x1 x2 x3 (it2 (f_X8_notes_L16 0 x1 x2 x3) F) (nI k) τ = _
      generalize it2 (f_X8_notes_L16 0 x1 x2 x3) F = g at t1 ⊢
      unfold f_X8_notes_L16
      simp only [bnd_d]
      rw [show (88 : Int32) = nI 88 from rfl, if_neg (nleN (by omega) (by omega)), show nI k + 4 = nI (k + 4) from nI_add _ 4, if_pos (inb_nI (by omega) (by omega)), if_pos (inb_nI (by omega) (by omega)), cl_nI (by omega), cl_nI (by omega), nI_1, t1]
    · rw [t5, rI_s]
      by_cases hj : k ≤ j ∧ j < 88
      · rw [if_pos hj]
        by_cases hjk : j = k
        · subst hjk
          rw [if_neg (by omega), upd_s]
          rfl
        · rw [if_pos (by omega), upd_n (by omega)]
      · rw [if_neg hj, if_neg (by omega), upd_n (by omega)]
theorem notes_eq {τ : St} {lg : Nat} {x1 x2 x3 : Int32} (e : τ.1 (0 + 1) 11 = nI lg) (hl : lg ≤ 20) : ∃ τ', f_X8_notes 0 x1 x2 x3 τ = some τ' ∧ frM τ τ' ∧ τ'.2 = τ.2 ∧ gI τ' 0 7 = gI τ 0 7 + 1 ∧ NT (τ.1 (0 + 1)) (τ'.1 (0 + 1)) (τ.1 (0 + 1) 1) x1 x2 x3 ∧ ∀ k, (k < 11 ∨ 92 ≤ k) → τ'.1 (0 + 1) k = τ.1 (0 + 1) k := by
  obtain ⟨F, hFu, eF⟩ := fuel_ex
  unfold f_X8_notes
  rw [eF, show (11 : Int32).toNatClampNeg = 11 from rfl, show gI τ (0 + 1) 11 = nI lg from e]
  by_cases h20 : lg = 20
  · subst h20
    rw [if_pos (by decide)]
    obtain ⟨τ1, t1, t2, t3, t4, t5⟩ := notes_L (x1 := x1) (x2 := x2) (x3 := x3) 76 12 F τ (by omega) (by omega) (by omega)
    rw [show (12 : Int32) = nI 12 from rfl, t1, notes_B (n := 19) (show gI (sI τ1 (0 + 1) 11 19) (0 + 1) 11 = nI 19 from gI_s _ _ _ _) (by omega)]
    have e1 : gI (sI τ1 (0 + 1) 11 19) (0 + 1) 1 = τ.1 (0 + 1) 1 := by
      rw [gI_n (Or.inr (by omega))]
      show τ1.1 (0 + 1) 1 = _
      rw [t5, if_neg (by omega)]
    refine ⟨_, rfl, ?_, t3, ?_, ?_⟩
    · exact (((((((t2.tr frM.row).tr frM.row).tr frM.row).tr frM.row).tr frM.row).tr frM.row).tr frM.noted)
    · rw [gI_s, gI_n (Or.inl (by omega)), t4]
    · rw [rI_n (by omega), rI_s, rI_s, rI_s, rI_s, rI_s, rI_s, e1]
      refine ⟨⟨19, 1, e, by omega, Or.inr ⟨rfl, rfl⟩, upd_s _ _ _, fun k hk j hj => ?_, ?_, ?_, ?_, ?_⟩, fun k hk2 => ?_⟩
      · rw [upd_n (by omega), upd_n (by omega), upd_n (by omega), upd_n (by omega), upd_n (by omega), upd_n (by omega), t5, if_pos (by omega)]
        rw [show 12 + 4 * k + j + 4 = 12 + 4 * (k + 1) + j by omega]
      · rw [upd_n (by omega), upd_n (by omega), upd_n (by omega), upd_n (by omega), upd_s]
      · rw [upd_n (by omega), upd_n (by omega), upd_n (by omega), upd_s]
      · rw [upd_n (by omega), upd_n (by omega), upd_s]
      · rw [upd_n (by omega), upd_s]
      · rw [upd_n (by omega), upd_n (by omega), upd_n (by omega), upd_n (by omega), upd_n (by omega), upd_n (by omega), t5, if_neg (by omega)]
  · rw [if_neg (show ¬ nI lg = 20 from neN (b := 20) h20 (by omega) (by omega)), notes_B (n := lg) e (by omega)]
    refine ⟨_, rfl, ?_, rfl, ?_, ?_⟩
    · exact (((((frM.row.tr frM.row).tr frM.row).tr frM.row).tr frM.row).tr frM.noted)
    · rw [gI_s]
    · rw [rI_n (by omega), rI_s, rI_s, rI_s, rI_s, rI_s]
      refine ⟨⟨lg, 0, e, by omega, Or.inl rfl, upd_s _ _ _, fun k hk j hj => ?_, ?_, ?_, ?_, ?_⟩, fun k hk2 => ?_⟩
      · rw [upd_n (by omega), upd_n (by omega), upd_n (by omega), upd_n (by omega), upd_n (by omega)]
        congr 1
      · rw [upd_n (by omega), upd_n (by omega), upd_n (by omega), upd_n (by omega), upd_s]
        rfl
      · rw [upd_n (by omega), upd_n (by omega), upd_n (by omega), upd_s]
      · rw [upd_n (by omega), upd_n (by omega), upd_s]
      · rw [upd_n (by omega), upd_s]
      · rw [upd_n (by omega), upd_n (by omega), upd_n (by omega), upd_n (by omega), upd_n (by omega)]
theorem NT.congr {v v2 v' : Nat → Int32} {x0 x1 x2 x3 : Int32} (h : NT v v' x0 x1 x2 x3) (hv : ∀ k, 11 ≤ k → k < 92 → v2 k = v k) : NT v2 v' x0 x1 x2 x3 := by
  obtain ⟨n, s, n1, n2, n3, n4, n5, m⟩ := h
  refine ⟨n, s, (hv 11 (by omega) (by omega)).trans n1, n2, n3, n4, fun k hk j hj => ?_, m⟩
  rw [hv _ (by omega) (by omega)]
  exact n5 k hk j hj
theorem FR.lg {σ : St} {b : Nat} {v : Nat → Int32} (h : FR σ b v) : ∃ lg, v 11 = nI lg ∧ lg ≤ 20 := by
  obtain ⟨lg, od, h1, h2, -⟩ := h.2.2.1
  exact ⟨lg, h1, h2⟩
/-- one change and the log change, all else stays -/
theorem FR.chg {σ σ' : St} {b i : Nat} {v v' : Nat → Int32} (h : FR σ b v) (hi : i < 5) (he : ∀ q, b ≤ q → q < b + 30 → (q < b + 1 + 1 + 5 * i ∨ b + 1 + 1 + 5 * i + 5 ≤ q) → σ'.1 q = σ.1 q ∧ σ'.2.1 q = σ.2.1 q ∧ σ'.2.2 q = σ.2.2 q) (hv : ∀ k, k < 257 → (k < 11 ∨ (92 ≤ k ∧ (k < 92 + 33 * i ∨ 92 + 33 * i + 33 ≤ k))) → v' k = v k) (hl : LgW (σ'.1 (b + 30)) (σ'.1 (b + 30 + 1)) v') (hc : CR σ' (b + 1 + 1 + 5 * i) i v') (h0 : gI σ' (b + 1 + 1 + 5 * i) 0 = gI σ (b + 1 + 1 + 5 * i) 0) : FR σ' b v' := by
  refine h.mod (he b (by omega) (by omega) (by omega)).1 (hv 0 (by omega) (by omega)) (hv 1 (by omega) (by omega)) (hv 2 (by omega) (by omega)) (hv 10 (by omega) (by omega)) ?_ hl ?_ ?_
  · rw [(he (b + 27) (by omega) (by omega) (by omega)).1, (he (b + 27 + 1) (by omega) (by omega) (by omega)).1, (he (b + 27 + 2) (by omega) (by omega) (by omega)).1]
    exact h.2.1.congr (fun k h1 h2 => hv k (by omega) (by omega))
  · intro sz z1 z2 j hj
    by_cases hji : j = i
    · rw [hji]; exact hc
    · exact (h.crs sz z1 z2 j hj).congr (fun q h1 h2 => he q (by omega) (by omega) (by omega)) (fun k hk => hv _ (by omega) (by omega))
  · intro j hj
    by_cases hji : j = i
    · rw [hji]; exact h0
    · unfold gI
      rw [(he (b + 1 + 1 + 5 * j) (by omega) (by omega) (by omega)).1]
/-- a change from its facts -/
theorem CR.of {σ : St} {c i : Nat} {v : Nat → Int32} (st pl bg m a b c' d : Nat) (h1 : v (92 + 33 * i + 1) = nI st ∧ st ≤ 5 ∧ v (92 + 33 * i + 2) = nI pl ∧ pl ≤ 6 ∧ v (92 + 33 * i + 3) = nI bg ∧ bg ≤ pl ∧ (st = 0 → bg = 0) ∧ v (92 + 33 * i + 4) = nI m ∧ m < 2 ^ i) (h2 : v (92 + 33 * i + 5) = nI a ∧ v (92 + 33 * i + 6) = nI b ∧ v (92 + 33 * i + 7) = nI c' ∧ v (92 + 33 * i + 8) = nI d ∧ a + b ≤ 25 ∧ c' + d ≤ 25) (h3 : v (92 + 33 * i) = bI (gB σ c 7))
  (h4 : gI σ c 4 = nI m ∧ gI σ c 5 = nI st ∧ gI σ c 6 = nI bg ∧ gI σ (c + 1) 1 = nI pl) (h5 : ∀ k, k < pl → gI σ (c + 1 + 1) (3 * k) = v (92 + 33 * i + (9 + 4 * k)) ∧ gI σ (c + 1 + 1) (3 * k + 1) = v (92 + 33 * i + (10 + 4 * k)) ∧ gI σ (c + 1 + 1) (3 * k + 2) = v (92 + 33 * i + (11 + 4 * k))) (h6 : ∀ k, k < bg → gI σ (c + 4) k = v (92 + 33 * i + (12 + 4 * k)))
  (h7 : gI σ (c + 3) 0 = nI a ∧ gI σ (c + 3) 1 = nI b ∧ gI σ (c + 3) 2 = nI c' ∧ gI σ (c + 3) 3 = nI d ∧ gL σ (c + 3) 4 = lN (chN a b c' d) ∧ gL σ (c + 3) 5 = lN (chD a b c' d)) : CR σ c i v := by
  obtain ⟨f1, f2, f3, f4⟩ := h4
  obtain ⟨m1, m2, m3, m4, m5, m6⟩ := h7
  exact ⟨st, pl, bg, m, a, b, c', d, h1, h2, h3, ⟨f1.trans h1.2.2.2.2.2.2.2.1.symm, f2.trans h1.1.symm, f3.trans h1.2.2.2.2.1.symm, f4.trans h1.2.2.1.symm⟩, h5, h6, m1.trans h2.1.symm, m2.trans h2.2.1.symm, m3.trans h2.2.2.1.symm, m4.trans h2.2.2.2.1.symm, m5, m6⟩
/-- a step of the fleet at b and of the reference -/
def ST (b : Nat) (σ τ σ' τ' : St) : Prop := FR σ' b (τ'.1 (0 + 1)) ∧ frC σ σ' b ∧ frM τ τ' ∧ σ'.2.2 = σ.2.2 ∧ (SetsOK τ → SetsOK τ') ∧ (∃ n : Int32, gI σ' (b + 30) 3 = gI σ (b + 30) 3 + n ∧ gI τ' 0 7 = gI τ 0 7 + n) ∧ τ'.1 (0 + 1) 10 = τ.1 (0 + 1) 10
theorem ST.rf {b : Nat} {σ τ : St} (h : FR σ b (τ.1 (0 + 1))) : ST b σ τ σ τ := ⟨h, frC.rf, frM.rf, rfl, id, ⟨0, by simp, by simp⟩, rfl⟩
theorem ST.tr {b : Nat} {σ τ σ' τ' σ'' τ'' : St} (h : ST b σ τ σ' τ') (h' : ST b σ' τ' σ'' τ'') : ST b σ τ σ'' τ'' := by
  obtain ⟨-, a2, a3, a4, a5, ⟨n, a6, a7⟩, a8⟩ := h
  obtain ⟨b1, b2, b3, b4, b5, ⟨n', b6, b7⟩, b8⟩ := h'
  refine ⟨b1, a2.tr b2, a3.tr b3, b4.trans a4, b5 ∘ a5, ⟨n + n', ?_, ?_⟩, b8.trans a8⟩
  · rw [b6, a6, Int32.add_assoc]
  · rw [b7, a7, Int32.add_assoc]
theorem Rel.st {σ τ σ' τ' : St} (hR : Rel σ τ) (h : ST (0 + 1) σ τ σ' τ') : Rel σ' τ' := hR.step h.1 h.2.1 h.2.2.1 (h.2.2.2.2.1 hR.2.2.2.2.1) (by unfold gB; rw [h.2.2.2.1])
end
section
/-! a change becomes, and is noted -/
theorem become_eq {σ τ : St} {b sz i s2 : Nat} {x3 : Int32} (hF : FR σ b (τ.1 (0 + 1))) (z1 : τ.1 (0 + 1) 10 = nI sz) (hsz : sz ≤ 5) (hi : i < sz) (hs : s2 ≤ 5) (hs0 : s2 ≠ 0) : ∃ σ' τ', f_X1_become b (b + 1 + 1 + 5 * i) (nI s2) x3 σ = some σ' ∧ f_X8_becomes 0 (nI i) (nI s2) x3 τ = some (gI σ' (b + 1 + 1 + 5 * i) 6, τ') ∧ ST b σ τ σ' τ' := by
  obtain ⟨st, pl, bg, m, a, b', c', d, ⟨h1, h2, h3, h4, h5, h6, h7, h8, h9⟩, ⟨g1, g2, g3, g4, g5, g6⟩, e0, ⟨f1, f2, f3, f4⟩, k1, k2, m1, m2, m3, m4, m5, m6⟩ := (hF.row z1 hi hsz).use
  obtain ⟨lg, l1, l2⟩ := hF.lg
  have r1 : (sI τ (0 + 1) (92 + 33 * i + 1) (nI s2)).1 (0 + 1) = upd (τ.1 (0 + 1)) (92 + 33 * i + 1) (nI s2) := rI_s _ _ _ _
  obtain ⟨τ', t1, t2, t3, t4, t5, t6⟩ := notes_eq (τ := sI τ (0 + 1) (92 + 33 * i + 1) (nI s2)) (x1 := nI i) (x2 := x3) (x3 := -15) (lg := lg) (by rw [r1, upd_n (by omega)]; exact l1) l2
  rw [r1] at t5
  have t7 : ∀ k, (k < 11 ∨ 92 ≤ k) → τ'.1 (0 + 1) k = upd (τ.1 (0 + 1)) (92 + 33 * i + 1) (nI s2) k := fun k hk => by rw [t6 k hk, r1]
  obtain ⟨σ', s1, s2', s3, s4, s5⟩ := put_eq (σ := sI σ (b + 1 + 1 + 5 * i) 5 (nI s2)) (q := b + 30) (by rw [rI_n (by omega), rI_n (by omega)]; exact hF.2.2.1) (t5.congr (v2 := τ.1 (0 + 1)) (fun k k1 k2 => (upd_n (by omega)).symm))
  have er : ∀ q j, q ≠ b + 30 → q ≠ b + 30 + 1 → gI σ' q j = gI (sI σ (b + 1 + 1 + 5 * i) 5 (nI s2)) q j := fun q j q1 q2 => by unfold gI; rw [s2' q q1 q2]
  have eB : ∀ q j, gB σ' q j = gB σ q j := fun q j => by unfold gB; rw [s3]; rfl
  have eL : ∀ q j, gL σ' q j = gL σ q j := fun q j => by unfold gL; rw [s3]; rfl
  have ec : gI σ' (b + 1 + 1 + 5 * i) 6 = nI bg := by rw [er _ _ (by omega) (by omega), gI_n (Or.inr (by omega))]; exact f3
  refine ⟨σ', τ', ?_, ?_, ?_⟩
  · unfold f_X1_become
    rw [bnd_e, gI_n (k' := b) (Or.inl (by omega)), gI_n (Or.inr (by omega)), hF.2.2.2.2 i (by omega), show gI σ b 6 = τ.1 (0 + 1) 1 from hF.1.2.2.2.1]
    rw [show τ.1 (0 + 1) 1 = upd (τ.1 (0 + 1)) (92 + 33 * i + 1) (nI s2) 1 from (upd_n (by omega)).symm, s1, obd_s]
  · unfold f_X8_becomes
    rw [bnd_e, show f_X8_at (nI i) 1 = nI (92 + 33 * i + 1) from at_nI i 1, if_pos (inb_nI (by omega) (by omega)), cl_nI (by omega), bnd_e, t1, obd_s, bnd_e, show f_X8_at (nI i) 3 = nI (92 + 33 * i + 3) from at_nI i 3, if_pos (inb_nI (by omega) (by omega)), cl_nI (by omega), ec]
    have : gI τ' (0 + 1) (92 + 33 * i + 3) = nI bg := by
      show τ'.1 (0 + 1) (92 + 33 * i + 3) = _
      rw [t7 _ (by omega), upd_n (by omega)]; exact h5
    rw [this]
  · refine ⟨hF.chg (i := i) (by omega) ?_ ?_ s4 ?_ ?_, ?_, frM.row.tr t2, ?_, fun hS => hS.same (by rw [t3]; rfl), ⟨1, ?_, ?_⟩, ?_⟩
    · intro q q1 q2 q3
      exact ⟨by rw [s2' q (by omega) (by omega), rI_n (by omega)], by rw [s3]; rfl, by rw [s3]; rfl⟩
    · intro k q1 q2
      rw [t7 k (by omega), upd_n (by omega)]
    · refine CR.of s2 pl bg m a b' c' d ⟨?_, hs, ?_, h4, ?_, h6, fun z => absurd z hs0, ?_, h9⟩ ⟨?_, ?_, ?_, ?_, g5, g6⟩ ?_ ⟨?_, ?_, ec, ?_⟩ ?_ ?_ ⟨?_, ?_, ?_, ?_, ?_, ?_⟩
      · rw [t7 _ (by omega), upd_s]
      · rw [t7 _ (by omega), upd_n (by omega)]; exact h3
      · rw [t7 _ (by omega), upd_n (by omega)]; exact h5
      · rw [t7 _ (by omega), upd_n (by omega)]; exact h8
      · rw [t7 _ (by omega), upd_n (by omega)]; exact g1
      · rw [t7 _ (by omega), upd_n (by omega)]; exact g2
      · rw [t7 _ (by omega), upd_n (by omega)]; exact g3
      · rw [t7 _ (by omega), upd_n (by omega)]; exact g4
      · rw [t7 _ (by omega), upd_n (by omega), eB]; exact e0
      · rw [er _ _ (by omega) (by omega), gI_n (Or.inr (by omega))]; exact f1
      · rw [er _ _ (by omega) (by omega), gI_s]
      · rw [er _ _ (by omega) (by omega), gI_n (Or.inl (by omega))]; exact f4
      · intro k hk
        rw [er _ _ (by omega) (by omega), er _ _ (by omega) (by omega), er _ _ (by omega) (by omega), gI_n (Or.inl (by omega)), gI_n (Or.inl (by omega)), gI_n (Or.inl (by omega)), t7 _ (by omega), t7 _ (by omega), t7 _ (by omega), upd_n (by omega), upd_n (by omega), upd_n (by omega)]
        exact k1 k hk
      · intro k hk
        rw [er _ _ (by omega) (by omega), gI_n (Or.inl (by omega)), t7 _ (by omega), upd_n (by omega)]
        exact k2 k hk
      · rw [er _ _ (by omega) (by omega), gI_n (Or.inl (by omega))]; exact m1
      · rw [er _ _ (by omega) (by omega), gI_n (Or.inl (by omega))]; exact m2
      · rw [er _ _ (by omega) (by omega), gI_n (Or.inl (by omega))]; exact m3
      · rw [er _ _ (by omega) (by omega), gI_n (Or.inl (by omega))]; exact m4
      · rw [eL]; exact m5
      · rw [eL]; exact m6
    · rw [er _ _ (by omega) (by omega), gI_n (Or.inr (by omega))]
    · intro q hq
      exact ⟨by rw [s2' q (by omega) (by omega), rI_n (by omega)], by rw [s3]; rfl, by rw [s3]; rfl⟩
    · rw [s3]; rfl
    · rw [s5, gI_n (Or.inl (by omega))]
    · rw [t4, gI_n (Or.inl (by omega))]
    · rw [t7 _ (by omega), upd_n (by omega)]
theorem mask_b : ∀ st, st ≤ 5 → (((2 : Int32) >>> (nI st &&& 31)) &&& 1 = 0 ↔ st ≠ 1) ∧ (((4 : Int32) >>> (nI st &&& 31)) &&& 1 = 0 ↔ st ≠ 2) ∧ (((14 : Int32) >>> (nI st &&& 31)) &&& 1 = 0 ↔ ¬ (1 ≤ st ∧ st ≤ 3)) := by
  intro st h
  have : st = 0 ∨ st = 1 ∨ st = 2 ∨ st = 3 ∨ st = 4 ∨ st = 5 := by omega
  rcases this with rfl | rfl | rfl | rfl | rfl | rfl <;> decide
theorem op_hold {σ τ : St} (hR : Rel σ τ) (x1 : Int32) : ∃ r σ' τ', f_X7_hold 0 x1 σ = some (r, σ') ∧ f_X8_hold 0 x1 τ = some (r, τ') ∧ Rel σ' τ' := by
  unfold f_X7_hold f_X8_hold f_X7_move
  have hF := hR.1
  rw [bnd_e, isChange_eq]
  rcases find_or hF x1 with ⟨i, sz, z1, z2, hi, rfl, ef, ei⟩ | ⟨ef, ei⟩
  · obtain ⟨st, pl, bg, m, a, b, c, d, ⟨h1, h2, h3, h4, h5, h6, h7, h8, h9⟩, -, -, ⟨f1, f2, f3, f4⟩, -⟩ := (hF.row z1 hi z2).use
    rw [ef, ei, obd_s, opt_s, if_pos (shF i (by omega)), if_pos rfl, bnd_e, show f_X8_at (nI i) 1 = nI (92 + 33 * i + 1) from at_nI i 1, if_pos (inb_nI (by omega) (by omega)), cl_nI (by omega), show gI τ (0 + 1) (92 + 33 * i + 1) = nI st from h1, f2]
    have hm := (mask_b st h2).1
    by_cases hs : st = 1
    · obtain ⟨σ', τ', e1, e2, e3⟩ := become_eq (x3 := 6) (s2 := 2) hF z1 z2 hi (by omega) (by omega)
      rw [if_neg (fun z => (hm.mp z) hs), if_pos (show nI st = 1 by rw [hs]; rfl), show f_X1_become (0 + 1) (0 + 1 + 1 + 1 + 5 * i) 2 6 σ = _ from e1, show f_X8_becomes 0 (nI i) 2 6 τ = _ from e2]
      exact ⟨_, _, _, rfl, rfl, hR.st e3⟩
    · rw [if_pos (hm.mpr hs), if_neg (show ¬ nI st = 1 from neN (b := 1) hs (by omega) (by omega))]
      exact ⟨_, _, _, rfl, rfl, hR⟩
  · rw [ef, ei, obd_s, opt_n, if_neg (by decide)]
    exact ⟨_, _, _, rfl, rfl, hR⟩
theorem op_resume {σ τ : St} (hR : Rel σ τ) (x1 : Int32) : ∃ r σ' τ', f_X7_resume 0 x1 σ = some (r, σ') ∧ f_X8_resume 0 x1 τ = some (r, τ') ∧ Rel σ' τ' := by
  unfold f_X7_resume f_X8_resume f_X7_move
  have hF := hR.1
  rw [bnd_e, isChange_eq]
  rcases find_or hF x1 with ⟨i, sz, z1, z2, hi, rfl, ef, ei⟩ | ⟨ef, ei⟩
  · obtain ⟨st, pl, bg, m, a, b, c, d, ⟨h1, h2, h3, h4, h5, h6, h7, h8, h9⟩, -, -, ⟨f1, f2, f3, f4⟩, -⟩ := (hF.row z1 hi z2).use
    rw [ef, ei, obd_s, opt_s, if_pos (shF i (by omega)), if_pos rfl, bnd_e, show f_X8_at (nI i) 1 = nI (92 + 33 * i + 1) from at_nI i 1, if_pos (inb_nI (by omega) (by omega)), cl_nI (by omega), show gI τ (0 + 1) (92 + 33 * i + 1) = nI st from h1, f2]
    have hm := (mask_b st h2).2.1
    by_cases hs : st = 2
    · obtain ⟨σ', τ', e1, e2, e3⟩ := become_eq (x3 := 7) (s2 := 1) hF z1 z2 hi (by omega) (by omega)
      rw [if_neg (fun z => (hm.mp z) hs), if_pos (show nI st = 2 by rw [hs]; rfl), show f_X1_become (0 + 1) (0 + 1 + 1 + 1 + 5 * i) 1 7 σ = _ from e1, show f_X8_becomes 0 (nI i) 1 7 τ = _ from e2]
      exact ⟨_, _, _, rfl, rfl, hR.st e3⟩
    · rw [if_pos (hm.mpr hs), if_neg (show ¬ nI st = 2 from neN (b := 2) hs (by omega) (by omega))]
      exact ⟨_, _, _, rfl, rfl, hR⟩
  · rw [ef, ei, obd_s, opt_n, if_neg (by decide)]
    exact ⟨_, _, _, rfl, rfl, hR⟩
theorem op_turnBack {σ τ : St} (hR : Rel σ τ) (x1 : Int32) : ∃ r σ' τ', f_X7_turnBack 0 x1 σ = some (r, σ') ∧ f_X8_turnBack 0 x1 τ = some (r, τ') ∧ Rel σ' τ' := by
  unfold f_X7_turnBack f_X8_turnBack f_X7_move
  have hF := hR.1
  rw [bnd_e, isChange_eq]
  rcases find_or hF x1 with ⟨i, sz, z1, z2, hi, rfl, ef, ei⟩ | ⟨ef, ei⟩
  · obtain ⟨st, pl, bg, m, a, b, c, d, ⟨h1, h2, h3, h4, h5, h6, h7, h8, h9⟩, -, -, ⟨f1, f2, f3, f4⟩, -⟩ := (hF.row z1 hi z2).use
    rw [ef, ei, obd_s, opt_s, if_pos (shF i (by omega)), if_pos rfl, bnd_e, show f_X8_at (nI i) 1 = nI (92 + 33 * i + 1) from at_nI i 1, if_pos (inb_nI (by omega) (by omega)), cl_nI (by omega), bnd_e, show gI τ (0 + 1) (92 + 33 * i + 1) = nI st from h1, f2]
    have hm := (mask_b st h2).2.2
    have hn : f_X8_in (nI st) 1 3 = true ↔ 1 ≤ st ∧ st ≤ 3 := in_nI (a := 1) (b := 3) (by omega) (by omega) (by omega)
    by_cases hs : 1 ≤ st ∧ st ≤ 3
    · obtain ⟨σ', τ', e1, e2, e3⟩ := become_eq (x3 := 3) (s2 := 4) hF z1 z2 hi (by omega) (by omega)
      rw [if_neg (fun z => (hm.mp z) hs), if_pos (hn.mpr hs), show f_X1_become (0 + 1) (0 + 1 + 1 + 1 + 5 * i) 4 3 σ = _ from e1, show f_X8_becomes 0 (nI i) 4 3 τ = _ from e2]
      exact ⟨_, _, _, rfl, rfl, hR.st e3⟩
    · rw [if_pos (hm.mpr hs), if_neg (fun z => hs (hn.mp z))]
      exact ⟨_, _, _, rfl, rfl, hR⟩
  · rw [ef, ei, obd_s, opt_n, if_neg (by decide)]
    exact ⟨_, _, _, rfl, rfl, hR⟩
theorem op_start {σ τ : St} (hR : Rel σ τ) (x1 : Int32) : ∃ r σ' τ', f_X7_start 0 x1 σ = some (r, σ') ∧ f_X8_start 0 x1 τ = some (r, τ') ∧ Rel σ' τ' := by
  unfold f_X7_start f_X8_start
  have hF := hR.1
  simp only [bnd_d, isChange_eq]
  rcases find_or hF x1 with ⟨i, sz, z1, z2, hi, rfl, ef, ei⟩ | ⟨ef, ei⟩
  · obtain ⟨st, pl, bg, m, a, b, c, d, ⟨h1, h2, h3, h4, h5, h6, h7, h8, h9⟩, ⟨g1, g2, g3, g4, g5, g6⟩, e0, ⟨f1, f2, f3, f4⟩, k1, k2, m1, m2, m3, m4, m5, m6⟩ := (hF.row z1 hi z2).use
    rw [ef, ei, obd_s, opt_s, if_pos (shF i (by omega)), if_pos rfl, show f_X8_at (nI i) 1 = nI (92 + 33 * i + 1) from at_nI i 1, show f_X8_at (nI i) 2 = nI (92 + 33 * i + 2) from at_nI i 2, inb_nI (show 92 + 33 * i + 1 < 257 by omega) (by omega), inb_nI (show 92 + 33 * i + 2 < 257 by omega) (by omega), cl_nI (show 92 + 33 * i + 1 < 10000000 by omega), cl_nI (show 92 + 33 * i + 2 < 10000000 by omega), show gI τ (0 + 1) (92 + 33 * i + 1) = nI st from h1, show gI τ (0 + 1) (92 + 33 * i + 2) = nI pl from h3, f2, f4]
    simp only [if_true]
    by_cases hs : st = 0
    · rw [if_pos (show nI st = 0 by rw [hs]; rfl), if_pos (show nI st = 0 by rw [hs]; rfl)]
      by_cases hp : pl = 0
      · rw [if_pos (show nI pl = 0 by rw [hp]; rfl), if_pos (show nI pl = 0 by rw [hp]; rfl)]
        exact ⟨_, _, _, rfl, rfl, hR⟩
      · rw [if_neg (show ¬ nI pl = 0 from neN (b := 0) hp (by omega) (by omega)), if_neg (show ¬ nI pl = 0 from neN (b := 0) hp (by omega) (by omega)), gI_n (Or.inl (by omega)), gI_n (Or.inr (by omega)), f4, show gI τ (0 + 1) (92 + 33 * i + 2) = nI pl from h3]
        refine ⟨_, _, _, rfl, rfl, ?_⟩
        refine hR.step ?_ (frC.I (by omega)) frM.row (hR.2.2.2.2.1.same rfl) rfl
        rw [rI_s]
        refine hF.chg (i := i) (by omega) ?_ ?_ ?_ ?_ ?_
        · intro q q1 q2 q3
          exact ⟨rI_n (by omega), rfl, rfl⟩
        · intro k q1 q2
          rw [upd_n (by omega)]
        · rw [rI_n (by omega), rI_n (by omega)]
          exact hF.2.2.1.congr (fun k q1 q2 => upd_n (by omega))
        · refine CR.of 1 pl bg m a b c d ⟨upd_s _ _ _, by omega, ?_, h4, ?_, h6, fun z => absurd z (by omega), ?_, h9⟩ ⟨?_, ?_, ?_, ?_, g5, g6⟩ ?_ ⟨?_, ?_, ?_, ?_⟩ ?_ ?_ ⟨?_, ?_, ?_, ?_, m5, m6⟩
          · rw [upd_n (by omega)]; exact h3
          · rw [upd_n (by omega)]; exact h5
          · rw [upd_n (by omega)]; exact h8
          · rw [upd_n (by omega)]; exact g1
          · rw [upd_n (by omega)]; exact g2
          · rw [upd_n (by omega)]; exact g3
          · rw [upd_n (by omega)]; exact g4
          · rw [upd_n (by omega)]; exact e0
          · rw [gI_n (Or.inr (by omega))]; exact f1
          · exact gI_s _ _ _ _
          · rw [gI_n (Or.inr (by omega))]; exact f3
          · rw [gI_n (Or.inl (by omega))]; exact f4
          · intro k hk
            rw [gI_n (Or.inl (by omega)), gI_n (Or.inl (by omega)), gI_n (Or.inl (by omega)), upd_n (by omega), upd_n (by omega), upd_n (by omega)]
            exact k1 k hk
          · intro k hk
            rw [gI_n (Or.inl (by omega)), upd_n (by omega)]
            exact k2 k hk
          · rw [gI_n (Or.inl (by omega))]; exact m1
          · rw [gI_n (Or.inl (by omega))]; exact m2
          · rw [gI_n (Or.inl (by omega))]; exact m3
          · rw [gI_n (Or.inl (by omega))]; exact m4
        · rw [gI_n (Or.inr (by omega))]
    · rw [if_neg (show ¬ nI st = 0 from neN (b := 0) hs (by omega) (by omega)), if_neg (show ¬ nI st = 0 from neN (b := 0) hs (by omega) (by omega))]
      exact ⟨_, _, _, rfl, rfl, hR⟩
  · rw [ef, ei, obd_s, opt_n, if_neg (by decide)]
    exact ⟨_, _, _, rfl, rfl, hR⟩
/-- a number of an entry -/
theorem lgN_eq {σ : St} {q : Nat} {v : Nat → Int32} {lg k j : Nat} (h : LgW (σ.1 q) (σ.1 (q + 1)) v) (e : v 11 = nI lg) (hl : lg ≤ 20) (hk : k < lg) (hj : j < 4) : f_X3_number q (nI k) (nI j) σ = some (v (12 + 4 * k + j)) := by
  obtain ⟨lg', od, h1, h2, h3, h4, h5, h6⟩ := h
  have hll : lg' = lg := (eq_nI (by omega) (by omega)).mp (h1.symm.trans e)
  subst hll
  unfold f_X3_number f_X3_placeOf
  have hm : (od + k) % 20 < 20 := Nat.mod_lt _ (by omega)
  have h7 := h6 k hk j hj
  have i1 : irm (gI σ q 1 + nI k) 20 * 4 + nI j = nI (4 * ((od + k) % 20) + j) := by
    rw [show gI σ q 1 = nI od from h4, nI_add, show irm (nI (od + k)) 20 = nI ((od + k) % 20) from irm_nI (d := 20) (by omega) (by omega) (by omega)]
    show nI ((od + k) % 20) * nI 4 + nI j = _
    rw [pk_mul, nI_add]; congr 1; omega
  generalize (od + k) % 20 = p at hm i1 h7
  have i2 : f_X8_in (nI (4 * p + j)) 0 (80 - 1) = true := (in_nI (a := 0) (b := 79) (by omega) (by omega) (by omega)).mpr ⟨by omega, by omega⟩
  rw [i1, bnd_e, bnd_e, within_in, i2, if_pos rfl, if_pos (inb_nI (by omega) (by omega)), cl_nI (by omega)]
  exact congrArg some h7
theorem op_entry {σ τ : St} (hR : Rel σ τ) (x1 x2 : Int32) : ∃ r, f_X7_entry 0 x1 x2 σ = some r ∧ f_X8_entry 0 x1 x2 τ = some r ∧ Rel σ τ := by
  unfold f_X7_entry f_X8_entry
  simp only [bnd_e, within_in]
  have hF := hR.1
  obtain ⟨lg, l1, l2⟩ := hF.lg
  have e2 : gI σ (0 + 1 + 30) 2 = nI lg := by
    obtain ⟨lg', od, h1, h2, h3, h4, h5, h6⟩ := hF.2.2.1
    exact h5.trans l1
  rw [e2, show (11 : Int32).toNatClampNeg = 11 from rfl, show gI τ (0 + 1) 11 = nI lg from l1]
  rcases in_0 x1 (n := lg) (by omega) with ⟨g1, k, hk, rfl⟩ | ⟨g1, g2⟩
  · rw [g1, if_pos rfl, if_pos rfl]
    by_cases g : f_X8_in x2 0 3 = true
    · rw [if_pos g, if_pos g]
      obtain ⟨j, -, hj, rfl⟩ := in_lo 0 3 (by omega) (by omega) g
      rw [lgN_eq hF.2.2.1 l1 l2 hk (by omega), obd_s]
      have i1 : (12 : Int32) + 4 * nI k + nI j = nI (12 + 4 * k + j) := by show nI 12 + nI 4 * nI k + nI j = _; rw [pk_mul, nI_add, nI_add]
      rw [i1, if_pos (inb_nI (by omega) (by omega)), cl_nI (by omega)]
      exact ⟨_, rfl, rfl, hR⟩
    · rw [if_neg g, if_neg g]
      exact ⟨_, rfl, rfl, hR⟩
  · rw [g1, if_neg (by decide), if_neg (by decide)]
    exact ⟨_, rfl, rfl, hR⟩
/-- how many entries -/
def cnf (v : Nat → Int32) (x1 x2 : Int32) : Nat → Nat → Int32 → Int32
  | _, 0, a => a
  | k, m + 1, a => cnf v x1 x2 (k + 1) m (if v (12 + 4 * k + 2) = x1 ∧ (x2 = -1 ∨ v (12 + 4 * k + 1) = x2) then a + 1 else a)
theorem countC_L {σ : St} {q lg : Nat} {v : Nat → Int32} {x1 x2 : Int32} (h : LgW (σ.1 q) (σ.1 (q + 1)) v) (e : v 11 = nI lg) (e2 : gI σ q 2 = nI lg) (hl : lg ≤ 20) : ∀ (m k F : Nat) (a : Int32), k + m = lg → m < F → it2 (f_X3_countOf_L5 σ q x1 x2) F a (nI k) = some (cnf v x1 x2 k m a) := by
  intro m
  induction m with
  | zero =>
    intro k F a hkm hF
    obtain ⟨F, rfl⟩ : ∃ n', F = n' + 1 := ⟨F - 1, by omega⟩
    show f_X3_countOf_L5 σ q x1 x2 (it2 (f_X3_countOf_L5 σ q x1 x2) F) a (nI k) = _
    generalize it2 (f_X3_countOf_L5 σ q x1 x2) F = g
    unfold f_X3_countOf_L5
    rw [e2, if_pos (leN (by omega) (by omega))]; rfl
  | succ m ih =>
    intro k F a hkm hF
    obtain ⟨F, rfl⟩ : ∃ n', F = n' + 1 := ⟨F - 1, by omega⟩
    show f_X3_countOf_L5 σ q x1 x2 (it2 (f_X3_countOf_L5 σ q x1 x2) F) a (nI k) = _
    have ih' := fun a => ih (k + 1) F a (by omega) (by omega)
    generalize it2 (f_X3_countOf_L5 σ q x1 x2) F = g at ih' ⊢
    unfold f_X3_countOf_L5 f_X3_countOf_B42
    rw [e2, if_neg (nleN (by omega) (by omega)), show (20 : Int32) = nI 20 from rfl, if_neg (nleN (by omega) (by omega)), show f_X3_number q (nI k) 1 σ = some (v (12 + 4 * k + 1)) from lgN_eq (j := 1) h e hl (by omega) (by omega), show f_X3_number q (nI k) 2 σ = some (v (12 + 4 * k + 2)) from lgN_eq (j := 2) h e hl (by omega) (by omega)]
    simp only [bnd_e, obd_s, nI_1, ih']
    show _ = some (cnf v x1 x2 (k + 1) m (if v (12 + 4 * k + 2) = x1 ∧ (x2 = -1 ∨ v (12 + 4 * k + 1) = x2) then a + 1 else a))
    by_cases c1 : v (12 + 4 * k + 2) = x1
    · by_cases c2 : x2 = -1
      · simp [c1, c2]
      · by_cases c3 : v (12 + 4 * k + 1) = x2 <;> simp [c1, c2, c3]
    · by_cases c2 : x2 = -1
      · simp [c1, c2]
      · by_cases c3 : v (12 + 4 * k + 1) = x2 <;> simp [c1, c2, c3]
theorem countM_L {τ : St} {lg : Nat} {v : Nat → Int32} {x1 x2 : Int32} (ev : v = τ.1 (0 + 1)) (e : v 11 = nI lg) (hl : lg ≤ 20) : ∀ (m k F : Nat) (a : Int32), k + m = lg → m < F → it2 (f_X8_count_L35 τ 0 x1 x2) F a (nI (12 + 4 * k)) = some (cnf v x1 x2 k m a) := by
  have er : ∀ j, gI τ (0 + 1) j = v j := fun j => by rw [ev]; rfl
  have i0 : (12 : Int32) + 4 * nI lg = nI (12 + 4 * lg) := by show nI 12 + nI 4 * nI lg = _; rw [pk_mul, nI_add]
  intro m
  induction m with
  | zero =>
    intro k F a hkm hF
    obtain ⟨F, rfl⟩ : ∃ n', F = n' + 1 := ⟨F - 1, by omega⟩
    show f_X8_count_L35 τ 0 x1 x2 (it2 (f_X8_count_L35 τ 0 x1 x2) F) a (nI (12 + 4 * k)) = _
    generalize it2 (f_X8_count_L35 τ 0 x1 x2) F = g
    unfold f_X8_count_L35
    rw [show (11 : Int32).toNatClampNeg = 11 from rfl, er, e, i0, if_pos (leN (by omega) (by omega))]; rfl
  | succ m ih =>
    intro k F a hkm hF
    obtain ⟨F, rfl⟩ : ∃ n', F = n' + 1 := ⟨F - 1, by omega⟩
    show f_X8_count_L35 τ 0 x1 x2 (it2 (f_X8_count_L35 τ 0 x1 x2) F) a (nI (12 + 4 * k)) = _
    have ih' := fun a => ih (k + 1) F a (by omega) (by omega)
    generalize it2 (f_X8_count_L35 τ 0 x1 x2) F = g at ih' ⊢
    unfold f_X8_count_L35
    rw [show (11 : Int32).toNatClampNeg = 11 from rfl, er, e, i0, if_neg (nleN (by omega) (by omega))]
    simp only [bnd_e]
    rw [show nI (12 + 4 * k) + 2 = nI (12 + 4 * k + 2) from nI_add _ 2, show nI (12 + 4 * k) + 4 = nI (12 + 4 * (k + 1)) from nI_add _ 4, nI_1, if_pos (inb_nI (by omega) (by omega)), if_pos (inb_nI (by omega) (by omega)), cl_nI (by omega), cl_nI (by omega), er, er, ih', ih']
    show _ = some (cnf v x1 x2 (k + 1) m (if v (12 + 4 * k + 2) = x1 ∧ (x2 = -1 ∨ v (12 + 4 * k + 1) = x2) then a + 1 else a))
    by_cases c1 : v (12 + 4 * k + 2) = x1
    · by_cases c2 : x2 = -1
      · simp [c1, c2]
      · by_cases c3 : v (12 + 4 * k + 1) = x2 <;> simp [c1, c2, c3]
    · simp [c1]
theorem in_m1 (x : Int32) {n : Nat} (hn : n < 10000) : f_X8_in x (-1) (nI n - 1) = (decide (x = -1) || f_X8_in x 0 (nI n - 1)) := by
  unfold f_X8_in
  have h3 : (nI n - 1).toInt = (n : Int) - 1 := pk_sub_toInt (a := n) (b := 1) (by omega) (by omega)
  have h4 : (-1 : Int32).toInt = -1 := by decide
  have h5 : (0 : Int32).toInt = 0 := by decide
  by_cases h : x = -1
  · subst h
    rw [if_neg (by decide), if_neg]
    · simp
    · rw [Int32.lt_iff_toInt_lt, h3, h4]; omega
  · have h6 : x.toInt ≠ -1 := fun z => h (Int32.toInt_inj.mp (z.trans h4.symm))
    by_cases h1 : x < 0
    · have h7 : x < -1 := by rw [Int32.lt_iff_toInt_lt] at h1 ⊢; rw [h5] at h1; rw [h4]; omega
      rw [if_pos h7, if_pos h1]; simp [h]
    · have h7 : ¬ x < -1 := by rw [Int32.lt_iff_toInt_lt] at h1 ⊢; rw [h5] at h1; rw [h4]; omega
      rw [if_neg h7, if_neg h1]; simp [h]
theorem op_count {σ τ : St} (hR : Rel σ τ) (x1 x2 : Int32) : ∃ r, f_X7_count 0 x1 x2 σ = some r ∧ f_X8_count 0 x1 x2 τ = some r ∧ Rel σ τ := by
  obtain ⟨F, hFu, eF⟩ := fuel_ex
  unfold f_X7_count f_X8_count f_X3_countOf
  rw [eF]
  have hF := hR.1
  obtain ⟨lg, l1, l2⟩ := hF.lg
  have e2 : gI σ (0 + 1 + 30) 2 = nI lg := by
    obtain ⟨lg', od, h1, h2, h3, h4, h5, h6⟩ := hF.2.2.1
    exact h5.trans l1
  obtain ⟨sz, z1, z2, z3, -⟩ := hF.sz
  rw [show (0 : Int32) = nI 0 from rfl, countC_L hF.2.2.1 l1 e2 l2 lg 0 F (nI 0) (by omega) (by omega), show (12 : Int32) = nI (12 + 4 * 0) from rfl, countM_L rfl l1 l2 lg 0 F (nI 0) (by omega) (by omega)]
  simp only [bnd_e, within_in, isChange_eq]
  by_cases h : f_X8_in x1 1 7 = true
  · rw [if_pos h, if_pos h, z2, z1, in_m1 x2 (by omega)]
    by_cases h1 : x2 = -1
    · rw [if_pos h1, if_pos (by simp [h1])]
      exact ⟨_, rfl, rfl, hR⟩
    · rw [if_neg h1]
      by_cases h2 : f_X8_in x2 0 (nI sz - 1) = true
      · rw [if_pos h2, if_pos (by simp [h2])]
        exact ⟨_, rfl, rfl, hR⟩
      · rw [if_neg h2, if_neg (by simp [h1, h2])]
        exact ⟨_, rfl, rfl, hR⟩
  · rw [if_neg h, if_neg h]
    exact ⟨_, rfl, rfl, hR⟩
end
section
/-! changes, stages and order -/
theorem addC_L {b1 : Bool} {sz : Nat} (hs : sz < 5) : ∀ (m k F : Nat) (τ : St), k + m = 33 → m < F → ∃ τ', it3 (f_X8_addChange_L24 0 b1) F (nI sz) (nI k) τ = some (nI sz, τ') ∧ frM τ τ' ∧ τ'.2 = τ.2 ∧ ∀ j, τ'.1 (0 + 1) j = if j = 10 then τ.1 (0 + 1) 10 + 1 else if j = 92 + 33 * sz then bI b1 else if 92 + 33 * sz + k ≤ j ∧ j < 92 + 33 * sz + 33 then 0 else τ.1 (0 + 1) j := by
  intro m
  induction m with
  | zero =>
    intro k F τ hkm hF
    obtain ⟨F, rfl⟩ : ∃ n', F = n' + 1 := ⟨F - 1, by omega⟩
    refine ⟨sI (sI τ (0 + 1) (92 + 33 * sz) (bI b1)) (0 + 1) 10 (τ.1 (0 + 1) 10 + 1), ?_, frM.row.tr frM.row, rfl, fun j => ?_⟩
    · show f_X8_addChange_L24 0 b1 (it3 (f_X8_addChange_L24 0 b1) F) (nI sz) (nI k) τ = _
      generalize it3 (f_X8_addChange_L24 0 b1) F = g
      unfold f_X8_addChange_L24 f_X8_addChange_B65
      simp only [bnd_e]
      rw [show (33 : Int32) = nI 33 from rfl, if_pos (leN (by omega) (by omega)), show f_X8_at (nI sz) 0 = nI (92 + 33 * sz + 0) from at_nI sz 0, if_pos (inb_nI (by omega) (by omega)), if_pos (inb_nI (by omega) (by omega)), cl_nI (by omega), show (10 : Int32).toNatClampNeg = 10 from rfl, gI_n (Or.inr (by omega)), gI_n (Or.inr (by omega))]
      cases b1 <;> rfl
    · rw [rI_s, rI_s]
      by_cases h1 : j = 10
      · rw [if_pos h1, h1, upd_s]
      · rw [if_neg h1, upd_n h1]
        by_cases h2 : j = 92 + 33 * sz
        · rw [if_pos h2, h2, upd_s]
        · rw [if_neg h2, upd_n h2, if_neg (by omega)]
  | succ m ih =>
    intro k F τ hkm hF
    obtain ⟨F, rfl⟩ : ∃ n', F = n' + 1 := ⟨F - 1, by omega⟩
    obtain ⟨τ', t1, t2, t3, t4⟩ := ih (k + 1) F (sI τ (0 + 1) (92 + 33 * sz + k) 0) (by omega) (by omega)
    refine ⟨τ', ?_, frM.row.tr t2, t3, fun j => ?_⟩
    · show f_X8_addChange_L24 0 b1 (it3 (f_X8_addChange_L24 0 b1) F) (nI sz) (nI k) τ = _
      generalize it3 (f_X8_addChange_L24 0 b1) F = g at t1 ⊢
      unfold f_X8_addChange_L24
      simp only [bnd_e]
      rw [show (33 : Int32) = nI 33 from rfl, if_neg (nleN (by omega) (by omega)), at_nI, if_pos (inb_nI (by omega) (by omega)), cl_nI (by omega), nI_1, t1]
    · rw [t4, rI_s]
      by_cases h1 : j = 10
      · rw [if_pos h1, if_pos h1, upd_n (by omega)]
      · rw [if_neg h1, if_neg h1]
        by_cases h2 : j = 92 + 33 * sz
        · rw [if_pos h2, if_pos h2]
        · rw [if_neg h2, if_neg h2]
          by_cases h3 : 92 + 33 * sz + k ≤ j ∧ j < 92 + 33 * sz + 33
          · rw [if_pos h3]
            by_cases h4 : j = 92 + 33 * sz + k
            · rw [if_neg (by omega), h4, upd_s]
            · rw [if_pos (by omega)]
          · rw [if_neg h3, if_neg (by omega), upd_n (by omega)]
theorem chN0 : chN 0 0 0 0 = 1 := by decide
theorem chD0 : chD 0 0 0 0 = 1 := by decide
theorem empty_I {σ : St} {q q' j : Nat} : gI (f_X6_empty q σ) q' j = if q' = q ∧ j < 4 then 0 else gI σ q' j := by
  unfold f_X6_empty
  simp only [bnd_e, gI_sL, gI_sI]
  by_cases h : q' = q
  · by_cases h3 : j = 3
    · simp [h, h3]
    · by_cases h2 : j = 2
      · simp [h, h2]
      · by_cases h1 : j = 1
        · simp [h, h1]
        · by_cases h0 : j = 0
          · simp [h, h0]
          · have : ¬ j < 4 := by omega
            simp [h, h0, h1, h2, h3, this]
  · simp [h]
theorem empty_L {σ : St} {q q' j : Nat} : gL (f_X6_empty q σ) q' j = if q' = q ∧ (j = 4 ∨ j = 5) then 1 else gL σ q' j := by
  unfold f_X6_empty
  simp only [bnd_e, gL_sL, gL_sI]
  by_cases h : q' = q
  · by_cases h5 : j = 5
    · simp [h, h5]
    · by_cases h4 : j = 4 <;> simp [h, h4, h5]
  · simp [h]
theorem empty_rows {σ : St} {q q' : Nat} (h : q' ≠ q) : (f_X6_empty q σ).1 q' = σ.1 q' ∧ (f_X6_empty q σ).2.1 q' = σ.2.1 q' := by
  unfold f_X6_empty
  simp only [bnd_e]
  constructor
  · show (sI (sI (sI (sI σ q 0 0) q 1 0) q 2 0) q 3 0).1 q' = _
    rw [rI_n h, rI_n h, rI_n h, rI_n h]
  · rw [rL_n h, rL_n h]; rfl
theorem empty_B {σ : St} {q : Nat} : (f_X6_empty q σ).2.2 = σ.2.2 := rfl
theorem op_addChange {σ τ : St} (hR : Rel σ τ) (x1 : Bool) : ∃ r σ' τ', f_X7_addChange 0 x1 σ = some (r, σ') ∧ f_X8_addChange 0 x1 τ = some (r, τ') ∧ Rel σ' τ' := by
  obtain ⟨F, hFu, eF⟩ := fuel_ex
  unfold f_X7_addChange f_X8_addChange f_X1_putChange
  rw [eF]
  have hF := hR.1
  obtain ⟨sz, z1, z2, z3, z4⟩ := hF.sz
  rw [show (10 : Int32).toNatClampNeg = 10 from rfl, show gI τ (0 + 1) 10 = nI sz from z1, z2]
  by_cases hs : sz = 5
  · subst hs
    rw [if_neg (by decide), if_pos (by decide), ob2_s, if_neg (by decide)]
    exact ⟨_, _, _, rfl, rfl, hR⟩
  · obtain ⟨τ', t1, t2, t3, t4⟩ := addC_L (b1 := x1) (sz := sz) (by omega) 33 0 F τ (by omega) (by omega)
    rw [if_pos (show nI sz < 5 from ltN (b := 5) (by omega) (by omega)), if_neg (show ¬ nI sz = 5 from neN (b := 5) hs (by omega) (by omega))]
    simp only [bnd_e]
    rw [show (0 : Int32) = nI 0 from rfl, t1, if_pos (inb_nI (by omega) (by omega)), cl_nI (by omega), ob2_s, if_pos rfl]
    unfold f_X0_makeNew
    simp only [bnd_e]
    have e1 : ∀ σ2 : St, gI σ2 (0 + 1) 4 = nI sz → (gI (sI σ2 (0 + 1) 4 (gI σ2 (0 + 1) 4 + 1)) (0 + 1) 4) - 1 = nI sz := by
      intro σ2 e
      rw [gI_s, e, nI_1, m1_nI (by omega)]
      rfl
    have e2 : gI (f_X6_empty (0 + 1 + 1 + 1 + 5 * sz + 3) (sI (sI (sI (sI (sB σ (0 + 1 + 1 + 1 + 5 * sz) 7 x1) (0 + 1 + 1 + 1 + 5 * sz) 4 0) (0 + 1 + 1 + 1 + 5 * sz) 5 0) (0 + 1 + 1 + 1 + 5 * sz) 6 0) (0 + 1 + 1 + 1 + 5 * sz + 1) 1 0)) (0 + 1) 4 = nI sz := by
      rw [empty_I, if_neg (by omega), gI_n (Or.inl (by omega)), gI_n (Or.inl (by omega)), gI_n (Or.inl (by omega)), gI_n (Or.inl (by omega)), gI_sB]
      exact z2
    rw [e1 _ e2, e2, nI_1]
    refine ⟨_, _, _, rfl, rfl, ?_⟩
    have eq : ∀ q, q ≠ 0 + 1 + 1 + 1 + 5 * sz → q ≠ 0 + 1 + 1 + 1 + 5 * sz + 1 → q ≠ 0 + 1 + 1 + 1 + 5 * sz + 3 → q ≠ 0 + 1 → (sI (f_X6_empty (0 + 1 + 1 + 1 + 5 * sz + 3) (sI (sI (sI (sI (sB σ (0 + 1 + 1 + 1 + 5 * sz) 7 x1) (0 + 1 + 1 + 1 + 5 * sz) 4 0) (0 + 1 + 1 + 1 + 5 * sz) 5 0) (0 + 1 + 1 + 1 + 5 * sz) 6 0) (0 + 1 + 1 + 1 + 5 * sz + 1) 1 0)) (0 + 1) 4 (nI (sz + 1))).1 q = σ.1 q ∧ (sI (f_X6_empty (0 + 1 + 1 + 1 + 5 * sz + 3) (sI (sI (sI (sI (sB σ (0 + 1 + 1 + 1 + 5 * sz) 7 x1) (0 + 1 + 1 + 1 + 5 * sz) 4 0) (0 + 1 + 1 + 1 + 5 * sz) 5 0) (0 + 1 + 1 + 1 + 5 * sz) 6 0) (0 + 1 + 1 + 1 + 5 * sz + 1) 1 0)) (0 + 1) 4 (nI (sz + 1))).2.1 q = σ.2.1 q ∧ (sI (f_X6_empty (0 + 1 + 1 + 1 + 5 * sz + 3) (sI (sI (sI (sI (sB σ (0 + 1 + 1 + 1 + 5 * sz) 7 x1) (0 + 1 + 1 + 1 + 5 * sz) 4 0) (0 + 1 + 1 + 1 + 5 * sz) 5 0) (0 + 1 + 1 + 1 + 5 * sz) 6 0) (0 + 1 + 1 + 1 + 5 * sz + 1) 1 0)) (0 + 1) 4 (nI (sz + 1))).2.2 q = σ.2.2 q := by
      intro q q1 q2 q3 q4
      refine ⟨?_, ?_, ?_⟩
      · rw [rI_n q4, (empty_rows q3).1, rI_n q2, rI_n q1, rI_n q1, rI_n q1]; rfl
      · exact (empty_rows q3).2
      · exact rB_n q1
    refine hR.step ?_ ?_ t2 (hR.2.2.2.2.1.same (by rw [t3])) ?_
    · generalize hσ' : sI (f_X6_empty (0 + 1 + 1 + 1 + 5 * sz + 3) (sI (sI (sI (sI (sB σ (0 + 1 + 1 + 1 + 5 * sz) 7 x1) (0 + 1 + 1 + 1 + 5 * sz) 4 0) (0 + 1 + 1 + 1 + 5 * sz) 5 0) (0 + 1 + 1 + 1 + 5 * sz) 6 0) (0 + 1 + 1 + 1 + 5 * sz + 1) 1 0)) (0 + 1) 4 (nI (sz + 1)) = σ' at eq ⊢
      obtain ⟨⟨a0, a2, a3, a4, a5, a6⟩, hsp, hl, -, hn⟩ := hF
      have eh : ∀ j, j ≠ 4 → gI σ' (0 + 1) j = gI σ (0 + 1) j := by
        intro j hj
        rw [← hσ', gI_n (Or.inr hj), empty_I, if_neg (by omega), gI_n (Or.inl (by omega)), gI_n (Or.inl (by omega)), gI_n (Or.inl (by omega)), gI_n (Or.inl (by omega)), gI_sB]
      have v0 : ∀ j, j ≠ 10 → j < 92 + 33 * sz → τ'.1 (0 + 1) j = τ.1 (0 + 1) j := by
        intro j h1 h2
        rw [t4, if_neg h1, if_neg (by omega), if_neg (by omega)]
      have v10 : τ'.1 (0 + 1) 10 = nI (sz + 1) := by rw [t4, if_pos rfl, z1, nI_1]
      have vz : ∀ k, 1 ≤ k → k < 33 → τ'.1 (0 + 1) (92 + 33 * sz + k) = nI 0 := by
        intro k h1 h2
        rw [t4, if_neg (by omega), if_neg (by omega), if_pos (by omega)]
        rfl
      have vb : τ'.1 (0 + 1) (92 + 33 * sz) = bI x1 := by rw [t4, if_neg (by omega), if_pos rfl]
      refine ⟨⟨?_, ?_, ?_, ?_, ?_, ?_⟩, ?_, ?_, ⟨sz + 1, v10, by omega, fun i hi => ?_⟩, fun i hi => ?_⟩
      · rw [v0 0 (by omega) (by omega)]; exact a0
      · rw [v0 2 (by omega) (by omega)]; exact a2
      · rw [eh _ (by omega), v0 0 (by omega) (by omega)]; exact a3
      · rw [eh _ (by omega), v0 1 (by omega) (by omega)]; exact a4
      · rw [eh _ (by omega), v0 2 (by omega) (by omega)]; exact a5
      · rw [v10, ← hσ', gI_s]
      · rw [(eq _ (by omega) (by omega) (by omega) (by omega)).1, (eq _ (by omega) (by omega) (by omega) (by omega)).1, (eq _ (by omega) (by omega) (by omega) (by omega)).1]
        exact hsp.congr (fun k h1 h2 => v0 k (by omega) (by omega))
      · rw [(eq _ (by omega) (by omega) (by omega) (by omega)).1, (eq _ (by omega) (by omega) (by omega) (by omega)).1]
        exact hl.congr (fun k h1 h2 => v0 k (by omega) (by omega))
      · by_cases hi2 : i = sz
        · subst hi2
          refine CR.of 0 0 0 0 0 0 0 0 ⟨vz 1 (by omega) (by omega), by omega, vz 2 (by omega) (by omega), by omega, vz 3 (by omega) (by omega), by omega, fun _ => rfl, vz 4 (by omega) (by omega), Nat.two_pow_pos _⟩ ⟨vz 5 (by omega) (by omega), vz 6 (by omega) (by omega), vz 7 (by omega) (by omega), vz 8 (by omega) (by omega), by omega, by omega⟩ ?_ ⟨?_, ?_, ?_, ?_⟩ (fun k hk => absurd hk (by omega)) (fun k hk => absurd hk (by omega)) ⟨?_, ?_, ?_, ?_, ?_, ?_⟩
          · rw [vb, ← hσ', gB_sI]
            unfold gB
            rw [empty_B]
            show bI x1 = bI ((sB σ (0 + 1 + 1 + 1 + 5 * i) 7 x1).2.2 (0 + 1 + 1 + 1 + 5 * i) 7)
            rw [rB_s]; rfl
          · rw [← hσ', gI_n (Or.inl (by omega)), empty_I, if_neg (by omega), gI_n (Or.inl (by omega)), gI_n (Or.inr (by omega)), gI_n (Or.inr (by omega)), gI_s]; rfl
          · rw [← hσ', gI_n (Or.inl (by omega)), empty_I, if_neg (by omega), gI_n (Or.inl (by omega)), gI_n (Or.inr (by omega)), gI_s]; rfl
          · rw [← hσ', gI_n (Or.inl (by omega)), empty_I, if_neg (by omega), gI_n (Or.inl (by omega)), gI_s]; rfl
          · rw [← hσ', gI_n (Or.inl (by omega)), empty_I, if_neg (by omega), gI_s]; rfl
          · rw [← hσ', gI_n (Or.inl (by omega)), empty_I, if_pos (by omega)]; rfl
          · rw [← hσ', gI_n (Or.inl (by omega)), empty_I, if_pos (by omega)]; rfl
          · rw [← hσ', gI_n (Or.inl (by omega)), empty_I, if_pos (by omega)]; rfl
          · rw [← hσ', gI_n (Or.inl (by omega)), empty_I, if_pos (by omega)]; rfl
          · rw [← hσ', gL_sI, empty_L, if_pos (by omega), chN0]; rfl
          · rw [← hσ', gL_sI, empty_L, if_pos (by omega), chD0]; rfl
        · exact (z4 i (by omega)).congr (fun q h1 h2 => eq q (by omega) (by omega) (by omega) (by omega)) (fun k hk => v0 _ (by omega) (by omega))
      · by_cases hi2 : i = sz
        · subst hi2
          rw [← hσ', gI_n (Or.inl (by omega)), empty_I, if_neg (by omega), gI_n (Or.inl (by omega)), gI_n (Or.inr (by omega)), gI_n (Or.inr (by omega)), gI_n (Or.inr (by omega)), gI_sB]
          exact hn i hi
        · unfold gI
          rw [(eq _ (by omega) (by omega) (by omega) (by omega)).1]
          exact hn i hi
    · intro q hq
      exact eq q (by omega) (by omega) (by omega) (by omega)
    · exact congrFun (rB_n (by omega)) 3
theorem adds_eq {τ : St} {i pl : Nat} {x2 x3 x4 : Int32} (hi : i < 5) (hp : pl < 6) (e : gI τ (0 + 1) (92 + 33 * i + 2) = nI pl) : f_X8_adds 0 (nI i) x2 x3 x4 τ = some (sI (sI (sI (sI (sI τ (0 + 1) (92 + 33 * i + (9 + 4 * pl)) x2) (0 + 1) (92 + 33 * i + (9 + 4 * pl + 1)) x3) (0 + 1) (92 + 33 * i + (9 + 4 * pl + 2)) x4) (0 + 1) (92 + 33 * i + (9 + 4 * pl + 3)) 0) (0 + 1) (92 + 33 * i + 2) (nI (pl + 1))) := by
  unfold f_X8_adds
  simp only [bnd_e]
  rw [show f_X8_at (nI i) 2 = nI (92 + 33 * i + 2) from at_nI i 2, if_pos (inb_nI (by omega) (by omega)), cl_nI (show 92 + 33 * i + 2 < 10000000 by omega), e]
  rw [show f_X8_stageAt (nI i) (nI pl) 0 = nI (92 + 33 * i + (9 + 4 * pl)) from sat_nI i pl 0, show f_X8_stageAt (nI i) (nI pl) 1 = nI (92 + 33 * i + (9 + 4 * pl + 1)) from sat_nI i pl 1, show f_X8_stageAt (nI i) (nI pl) 2 = nI (92 + 33 * i + (9 + 4 * pl + 2)) from sat_nI i pl 2, show f_X8_stageAt (nI i) (nI pl) 3 = nI (92 + 33 * i + (9 + 4 * pl + 3)) from sat_nI i pl 3, if_pos (inb_nI (by omega) (by omega)), if_pos (inb_nI (by omega) (by omega)), if_pos (inb_nI (by omega) (by omega)), if_pos (inb_nI (by omega) (by omega)), if_pos (inb_nI (by omega) (by omega)), if_pos (inb_nI (by omega) (by omega)), cl_nI (show 92 + 33 * i + (9 + 4 * pl) < 10000000 by omega), cl_nI (show 92 + 33 * i + (9 + 4 * pl + 1) < 10000000 by omega), cl_nI (show 92 + 33 * i + (9 + 4 * pl + 2) < 10000000 by omega), cl_nI (show 92 + 33 * i + (9 + 4 * pl + 3) < 10000000 by omega), gI_n (Or.inr (by omega)), gI_n (Or.inr (by omega)), gI_n (Or.inr (by omega)), gI_n (Or.inr (by omega)), e, nI_1]
theorem put4_eq {σ : St} {q pl : Nat} {x1 x2 x3 : Int32} (hp : pl < 6) (e : gI σ q 1 = nI pl) : f_X4_put q x1 x2 x3 σ = some (true, sI (sI (sI (sI σ (q + 1) (3 * pl) x1) (q + 1) (3 * pl + 1) x2) (q + 1) (3 * pl + 2) x3) q 1 (nI (pl + 1))) := by
  unfold f_X4_put
  have i1 : nI pl * 3 + 0 = nI (3 * pl) := by show nI pl * nI 3 + nI 0 = _; rw [pk_mul, nI_add]; congr 1; omega
  have i2 : nI pl * 3 + 1 = nI (3 * pl + 1) := by show nI pl * nI 3 + nI 1 = _; rw [pk_mul, nI_add]; congr 1; omega
  have i3 : nI pl * 3 + 2 = nI (3 * pl + 2) := by show nI pl * nI 3 + nI 2 = _; rw [pk_mul, nI_add]; congr 1; omega
  rw [e, if_neg (nI_pos (by omega)), if_pos (show nI pl < 6 from ltN (b := 6) (by omega) (by omega))]
  simp only [bnd_e]
  rw [i1, i2, i3, if_pos (inb_nI (by omega) (by omega)), if_pos (inb_nI (by omega) (by omega)), if_pos (inb_nI (by omega) (by omega)), cl_nI (show 3 * pl < 10000000 by omega), cl_nI (show 3 * pl + 1 < 10000000 by omega), cl_nI (show 3 * pl + 2 < 10000000 by omega), gI_n (Or.inl (by omega)), gI_n (Or.inl (by omega)), gI_n (Or.inl (by omega)), e, nI_1]
theorem op_addStage {σ τ : St} (hR : Rel σ τ) (x1 x2 x3 x4 : Int32) : ∃ r σ' τ', f_X7_addStage 0 x1 x2 x3 x4 σ = some (r, σ') ∧ f_X8_addStage 0 x1 x2 x3 x4 τ = some (r, τ') ∧ Rel σ' τ' := by
  unfold f_X7_addStage f_X8_addStage
  have hF := hR.1
  simp only [bnd_e, within_in, isChange_eq]
  rw [allCells_eq hF, show (0 : Int32).toNatClampNeg = 0 from rfl, show gI τ (0 + 1) 0 = τ.1 (0 + 1) 0 from rfl]
  rcases find_or hF x1 with ⟨i, sz, z1, z2, hi, rfl, ef, ei⟩ | ⟨ef, ei⟩
  · obtain ⟨st, pl, bg, m, a, b, c, d, ⟨h1, h2, h3, h4, h5, h6, h7, h8, h9⟩, ⟨g1, g2, g3, g4, g5, g6⟩, e0, ⟨f1, f2, f3, f4⟩, k1, k2, m1, m2, m3, m4, m5, m6⟩ := (hF.row z1 hi z2).use
    rw [ef, ei, obd_s, opt_s, if_pos (shF i (by omega)), if_pos rfl]
    by_cases c1 : f_X8_in x2 1 ((1 <<< (τ.1 (0 + 1) 0 &&& 31)) - 1) = true
    · rw [if_pos c1, if_pos c1]
      by_cases c2 : f_X8_in x3 0 48 = true
      · rw [if_pos c2, if_pos c2]
        by_cases c3 : f_X8_in x4 0 25 = true
        · rw [if_pos c3, if_pos c3, show f_X8_at (nI i) 1 = nI (92 + 33 * i + 1) from at_nI i 1, show f_X8_at (nI i) 2 = nI (92 + 33 * i + 2) from at_nI i 2, if_pos (inb_nI (by omega) (by omega)), if_pos (inb_nI (by omega) (by omega)), cl_nI (show 92 + 33 * i + 1 < 10000000 by omega), cl_nI (show 92 + 33 * i + 2 < 10000000 by omega), show gI τ (0 + 1) (92 + 33 * i + 1) = nI st from h1, show gI τ (0 + 1) (92 + 33 * i + 2) = nI pl from h3, f2]
          by_cases hs : st = 0
          · rw [if_pos (show nI st = 0 by rw [hs]; rfl), if_pos (show nI st = 0 by rw [hs]; rfl), show f_X4_cellsOfFirst (0 + 1 + 1 + 1 + 5 * i + 1) 6 σ = _ from cellsC_eq (n := 6) (by omega) h4 f4 (fun k hk => (k1 k hk).1), obd_s, show min 6 pl = pl by omega, cellsM_eq (by omega) h4, obd_s]
            by_cases c4 : ORv (τ.1 (0 + 1)) i pl &&& x2 = 0
            · rw [if_pos c4, if_pos c4]
              by_cases hp : pl = 6
              · rw [if_pos (show nI pl = 6 by rw [hp]; rfl)]
                unfold f_X4_put
                rw [f4, if_neg (nI_pos (by omega)), if_neg (show ¬ nI pl < 6 from nltN (b := 6) (by omega) (by omega)), ob2_s, if_neg (by decide)]
                exact ⟨_, _, _, rfl, rfl, hR⟩
              · rw [if_neg (show ¬ nI pl = 6 from neN (b := 6) hp (by omega) (by omega)), put4_eq (by omega) f4, ob2_s, if_pos rfl, gI_s, adds_eq (by omega) (by omega) h3, obd_s, nI_1]
                refine ⟨_, _, _, rfl, rfl, ?_⟩
                refine hR.step ?_ ((((frC.I (by omega)).tr (frC.I (by omega))).tr (frC.I (by omega))).tr (frC.I (by omega))) ((((frM.row.tr frM.row).tr frM.row).tr frM.row).tr frM.row) (hR.2.2.2.2.1.same rfl) rfl
                have ev : (sI (sI (sI (sI (sI τ (0 + 1) (92 + 33 * i + (9 + 4 * pl)) x2) (0 + 1) (92 + 33 * i + (9 + 4 * pl + 1)) x3) (0 + 1) (92 + 33 * i + (9 + 4 * pl + 2)) x4) (0 + 1) (92 + 33 * i + (9 + 4 * pl + 3)) 0) (0 + 1) (92 + 33 * i + 2) (nI (pl + 1))).1 (0 + 1) = upd (upd (upd (upd (upd (τ.1 (0 + 1)) (92 + 33 * i + (9 + 4 * pl)) x2) (92 + 33 * i + (9 + 4 * pl + 1)) x3) (92 + 33 * i + (9 + 4 * pl + 2)) x4) (92 + 33 * i + (9 + 4 * pl + 3)) 0) (92 + 33 * i + 2) (nI (pl + 1)) := by rw [rI_s, rI_s, rI_s, rI_s, rI_s]
                rw [ev]
                have v0 : ∀ k, k ≠ 92 + 33 * i + 2 → (k < 92 + 33 * i + (9 + 4 * pl) ∨ 92 + 33 * i + (9 + 4 * pl + 3) < k) → upd (upd (upd (upd (upd (τ.1 (0 + 1)) (92 + 33 * i + (9 + 4 * pl)) x2) (92 + 33 * i + (9 + 4 * pl + 1)) x3) (92 + 33 * i + (9 + 4 * pl + 2)) x4) (92 + 33 * i + (9 + 4 * pl + 3)) 0) (92 + 33 * i + 2) (nI (pl + 1)) k = τ.1 (0 + 1) k := by
                  intro k q1 q2
                  rw [upd_n q1, upd_n (by omega), upd_n (by omega), upd_n (by omega), upd_n (by omega)]
                refine hF.chg (i := i) (by omega) ?_ ?_ ?_ ?_ ?_
                · intro q q1 q2 q3
                  exact ⟨by rw [rI_n (by omega), rI_n (by omega), rI_n (by omega), rI_n (by omega)], rfl, rfl⟩
                · intro k q1 q2
                  exact v0 k (by omega) (by omega)
                · rw [rI_n (by omega), rI_n (by omega), rI_n (by omega), rI_n (by omega), rI_n (by omega), rI_n (by omega), rI_n (by omega), rI_n (by omega)]
                  exact hF.2.2.1.congr (fun k q1 q2 => v0 k (by omega) (by omega))
                · refine CR.of st (pl + 1) bg m a b c d ⟨?_, h2, upd_s _ _ _, by omega, ?_, by omega, h7, ?_, h9⟩ ⟨?_, ?_, ?_, ?_, g5, g6⟩ ?_ ⟨?_, ?_, ?_, ?_⟩ ?_ ?_ ⟨?_, ?_, ?_, ?_, m5, m6⟩
                  · rw [v0 _ (by omega) (by omega)]; exact h1
                  · rw [v0 _ (by omega) (by omega)]; exact h5
                  · rw [v0 _ (by omega) (by omega)]; exact h8
                  · rw [v0 _ (by omega) (by omega)]; exact g1
                  · rw [v0 _ (by omega) (by omega)]; exact g2
                  · rw [v0 _ (by omega) (by omega)]; exact g3
                  · rw [v0 _ (by omega) (by omega)]; exact g4
                  · rw [v0 _ (by omega) (by omega)]; exact e0
                  · rw [gI_n (Or.inl (by omega)), gI_n (Or.inl (by omega)), gI_n (Or.inl (by omega)), gI_n (Or.inl (by omega))]; exact f1
                  · rw [gI_n (Or.inl (by omega)), gI_n (Or.inl (by omega)), gI_n (Or.inl (by omega)), gI_n (Or.inl (by omega))]; exact f2
                  · rw [gI_n (Or.inl (by omega)), gI_n (Or.inl (by omega)), gI_n (Or.inl (by omega)), gI_n (Or.inl (by omega))]; exact f3
                  · exact gI_s _ _ _ _
                  · intro k hk
                    have gq : ∀ j, gI (sI (sI (sI (sI σ (0 + 1 + 1 + 1 + 5 * i + 1 + 1) (3 * pl) x2) (0 + 1 + 1 + 1 + 5 * i + 1 + 1) (3 * pl + 1) x3) (0 + 1 + 1 + 1 + 5 * i + 1 + 1) (3 * pl + 2) x4) (0 + 1 + 1 + 1 + 5 * i + 1) 1 (nI (pl + 1))) (0 + 1 + 1 + 1 + 5 * i + 1 + 1) j = upd (upd (upd (σ.1 (0 + 1 + 1 + 1 + 5 * i + 1 + 1)) (3 * pl) x2) (3 * pl + 1) x3) (3 * pl + 2) x4 j := by
                      intro j
                      rw [gI_n (Or.inl (by omega))]
                      unfold gI
                      rw [rI_s, rI_s, rI_s]
                    rw [gq, gq, gq]
                    by_cases hkp : k = pl
                    · subst hkp
                      refine ⟨?_, ?_, ?_⟩
                      · rw [upd_n (by omega), upd_n (by omega), upd_s, upd_n (by omega), upd_n (by omega), upd_n (by omega), upd_n (by omega), upd_s]
                      · rw [upd_n (by omega), upd_s, show 92 + 33 * i + (10 + 4 * k) = 92 + 33 * i + (9 + 4 * k + 1) by omega, upd_n (by omega), upd_n (by omega), upd_n (by omega), upd_s]
                      · rw [upd_s, show 92 + 33 * i + (11 + 4 * k) = 92 + 33 * i + (9 + 4 * k + 2) by omega, upd_n (by omega), upd_n (by omega), upd_s]
                    · rw [v0 _ (by omega) (by omega), v0 _ (by omega) (by omega), v0 _ (by omega) (by omega)]
                      refine ⟨?_, ?_, ?_⟩
                      · rw [upd_n (by omega), upd_n (by omega), upd_n (by omega)]; exact (k1 k (by omega)).1
                      · rw [upd_n (by omega), upd_n (by omega), upd_n (by omega)]; exact (k1 k (by omega)).2.1
                      · rw [upd_n (by omega), upd_n (by omega), upd_n (by omega)]; exact (k1 k (by omega)).2.2
                  · intro k hk
                    have := h7 hs
                    omega
                  · rw [gI_n (Or.inl (by omega)), gI_n (Or.inl (by omega)), gI_n (Or.inl (by omega)), gI_n (Or.inl (by omega))]; exact m1
                  · rw [gI_n (Or.inl (by omega)), gI_n (Or.inl (by omega)), gI_n (Or.inl (by omega)), gI_n (Or.inl (by omega))]; exact m2
                  · rw [gI_n (Or.inl (by omega)), gI_n (Or.inl (by omega)), gI_n (Or.inl (by omega)), gI_n (Or.inl (by omega))]; exact m3
                  · rw [gI_n (Or.inl (by omega)), gI_n (Or.inl (by omega)), gI_n (Or.inl (by omega)), gI_n (Or.inl (by omega))]; exact m4
                · rw [gI_n (Or.inl (by omega)), gI_n (Or.inl (by omega)), gI_n (Or.inl (by omega)), gI_n (Or.inl (by omega))]
            · rw [if_neg c4, if_neg c4]
              exact ⟨_, _, _, rfl, rfl, hR⟩
          · rw [if_neg (show ¬ nI st = 0 from neN (b := 0) hs (by omega) (by omega)), if_neg (show ¬ nI st = 0 from neN (b := 0) hs (by omega) (by omega))]
            exact ⟨_, _, _, rfl, rfl, hR⟩
        · rw [if_neg c3, if_neg c3]
          exact ⟨_, _, _, rfl, rfl, hR⟩
      · rw [if_neg c2, if_neg c2]
        exact ⟨_, _, _, rfl, rfl, hR⟩
    · rw [if_neg c1, if_neg c1]
      exact ⟨_, _, _, rfl, rfl, hR⟩
  · rw [ef, ei, obd_s, opt_n, if_neg (by decide)]
    exact ⟨_, _, _, rfl, rfl, hR⟩
/-- the number of ones -/
def pc (m : Nat) : Nat := m % 2 + m / 2 % 2 + m / 4 % 2 + m / 8 % 2 + m / 16 % 2
theorem pc_c : ∀ m, m < 32 → f_J6_bitCount_0f7a4 (nI m) = nI (pc m) := by decide +kernel
theorem pc_m : ∀ m, m < 32 → m ≠ 0 → nI m &&& (nI m - 1) = nI (m &&& (m - 1)) ∧ m &&& (m - 1) < 32 ∧ pc m = pc (m &&& (m - 1)) + 1 := by decide +kernel
theorem or_c : ∀ m, m < 32 → ∀ j, j < 5 → nI m ||| (1 <<< (nI j &&& 31)) = nI (m ||| 2 ^ j) := by decide +kernel
theorem size_L {x : Int32} : ∀ (t F m a : Nat), m < 32 → pc m = t → t < F → it2 (f_X8_size_L4 x) F (nI a) (nI m) = some (nI (a + t)) := by
  intro t
  induction t with
  | zero =>
    intro F m a hm hp hF
    obtain ⟨F, rfl⟩ : ∃ n', F = n' + 1 := ⟨F - 1, by omega⟩
    show f_X8_size_L4 x (it2 (f_X8_size_L4 x) F) (nI a) (nI m) = _
    generalize it2 (f_X8_size_L4 x) F = g
    unfold f_X8_size_L4
    have : m = 0 := by
      by_cases h0 : m = 0
      · exact h0
      · have := (pc_m m hm h0).2.2
        omega
    rw [if_pos (show nI m = 0 by rw [this]; rfl), Nat.add_zero]
  | succ t ih =>
    intro F m a hm hp hF
    obtain ⟨F, rfl⟩ : ∃ n', F = n' + 1 := ⟨F - 1, by omega⟩
    show f_X8_size_L4 x (it2 (f_X8_size_L4 x) F) (nI a) (nI m) = _
    have h0 : m ≠ 0 := by
      intro z
      rw [z, show pc 0 = 0 from rfl] at hp
      omega
    obtain ⟨p1, p2, p3⟩ := pc_m m hm h0
    have ih' := ih F (m &&& (m - 1)) (a + 1) p2 (by omega) (by omega)
    generalize it2 (f_X8_size_L4 x) F = g at ih' ⊢
    unfold f_X8_size_L4
    rw [if_neg (show ¬ nI m = 0 from neN (b := 0) h0 (by omega) (by omega)), bnd_e, bnd_e, p1, nI_1, ih', show a + 1 + t = a + (t + 1) by omega]
theorem op_putAfter {σ τ : St} (hR : Rel σ τ) (x1 x2 : Int32) : ∃ r σ' τ', f_X7_putAfter 0 x1 x2 σ = some (r, σ') ∧ f_X8_putAfter 0 x1 x2 τ = some (r, τ') ∧ Rel σ' τ' := by
  obtain ⟨F, hFu, eF⟩ := fuel_ex
  unfold f_X7_putAfter f_X8_putAfter f_X8_size
  rw [eF]
  have hF := hR.1
  simp only [bnd_e, within_in, isChange_eq]
  rcases find_or hF x1 with ⟨i, sz, z1, z2, hi, rfl, ef, ei⟩ | ⟨ef, ei⟩
  · obtain ⟨st, pl, bg, m, a, b, c, d, ⟨h1, h2, h3, h4, h5, h6, h7, h8, h9⟩, ⟨g1, g2, g3, g4, g5, g6⟩, e0, ⟨f1, f2, f3, f4⟩, k1, k2, m1, m2, m3, m4, m5, m6⟩ := (hF.row z1 hi z2).use
    rw [ef, ei, obd_s, opt_s, if_pos (shF i (by omega)), if_pos rfl]
    rcases in_0 x2 (n := i) (by omega) with ⟨c1, j, hj, rfl⟩ | ⟨c1, -⟩
    · rw [c1, if_pos rfl, if_pos rfl, show f_X8_at (nI i) 1 = nI (92 + 33 * i + 1) from at_nI i 1, show f_X8_at (nI i) 4 = nI (92 + 33 * i + 4) from at_nI i 4, if_pos (inb_nI (by omega) (by omega)), if_pos (inb_nI (by omega) (by omega)), if_pos (inb_nI (by omega) (by omega)), if_pos (inb_nI (by omega) (by omega)), cl_nI (show 92 + 33 * i + 1 < 10000000 by omega), cl_nI (show 92 + 33 * i + 4 < 10000000 by omega), show gI τ (0 + 1) (92 + 33 * i + 1) = nI st from h1, show gI τ (0 + 1) (92 + 33 * i + 4) = nI m from h8, f2, f1, gI_s, gI_s]
      by_cases hs : st = 0
      · have hm5 : m < 32 := Nat.lt_of_lt_of_le h9 (show 2 ^ i ≤ 2 ^ 5 from Nat.pow_le_pow_right (by omega) (by omega))
        have ho : m ||| 2 ^ j < 2 ^ i := Nat.or_lt_two_pow h9 (Nat.pow_lt_pow_right (by omega) hj)
        have ho5 : m ||| 2 ^ j < 32 := Nat.lt_of_lt_of_le ho (show 2 ^ i ≤ 2 ^ 5 from Nat.pow_le_pow_right (by omega) (by omega))
        rw [if_pos (show nI st = 0 by rw [hs]; rfl), if_pos (show nI st = 0 by rw [hs]; rfl), or_c m hm5 j (by omega), pc_c _ ho5]
        generalize m ||| 2 ^ j = m' at ho ho5 ⊢
        have hpc : pc m' ≤ 5 := by unfold pc; omega
        rw [show (0 : Int32) = nI 0 from rfl, size_L (pc m') F m' 0 ho5 rfl (by omega), obd_s, Nat.zero_add (pc m')]
        refine ⟨_, _, _, rfl, rfl, ?_⟩
        refine hR.step ?_ (frC.I (by omega)) frM.row (hR.2.2.2.2.1.same rfl) rfl
        rw [rI_s]
        refine hF.chg (i := i) (by omega) ?_ ?_ ?_ ?_ ?_
        · intro q q1 q2 q3
          exact ⟨rI_n (by omega), rfl, rfl⟩
        · intro k q1 q2
          rw [upd_n (by omega)]
        · rw [rI_n (by omega), rI_n (by omega)]
          exact hF.2.2.1.congr (fun k q1 q2 => upd_n (by omega))
        · refine CR.of st pl bg m' a b c d ⟨?_, h2, ?_, h4, ?_, h6, h7, upd_s _ _ _, ho⟩ ⟨?_, ?_, ?_, ?_, g5, g6⟩ ?_ ⟨?_, ?_, ?_, ?_⟩ ?_ ?_ ⟨?_, ?_, ?_, ?_, m5, m6⟩
          · rw [upd_n (by omega)]; exact h1
          · rw [upd_n (by omega)]; exact h3
          · rw [upd_n (by omega)]; exact h5
          · rw [upd_n (by omega)]; exact g1
          · rw [upd_n (by omega)]; exact g2
          · rw [upd_n (by omega)]; exact g3
          · rw [upd_n (by omega)]; exact g4
          · rw [upd_n (by omega)]; exact e0
          · exact gI_s _ _ _ _
          · rw [gI_n (Or.inr (by omega))]; exact f2
          · rw [gI_n (Or.inr (by omega))]; exact f3
          · rw [gI_n (Or.inl (by omega))]; exact f4
          · intro k hk
            rw [gI_n (Or.inl (by omega)), gI_n (Or.inl (by omega)), gI_n (Or.inl (by omega)), upd_n (by omega), upd_n (by omega), upd_n (by omega)]
            exact k1 k hk
          · intro k hk
            rw [gI_n (Or.inl (by omega)), upd_n (by omega)]
            exact k2 k hk
          · rw [gI_n (Or.inl (by omega))]; exact m1
          · rw [gI_n (Or.inl (by omega))]; exact m2
          · rw [gI_n (Or.inl (by omega))]; exact m3
          · rw [gI_n (Or.inl (by omega))]; exact m4
        · rw [gI_n (Or.inr (by omega))]
      · rw [if_neg (show ¬ nI st = 0 from neN (b := 0) hs (by omega) (by omega)), if_neg (show ¬ nI st = 0 from neN (b := 0) hs (by omega) (by omega))]
        exact ⟨_, _, _, rfl, rfl, hR⟩
    · rw [c1, if_neg (by decide), if_neg (by decide)]
      exact ⟨_, _, _, rfl, rfl, hR⟩
  · rw [ef, ei, obd_s, opt_n, if_neg (by decide)]
    exact ⟨_, _, _, rfl, rfl, hR⟩
end
