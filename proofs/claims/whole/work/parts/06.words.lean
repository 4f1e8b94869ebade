def sr_G : List Cond := lw_tbl.filter goodWord
theorem sr_in {w : Cond} (h : w ∈ lw_tbl) (hg : goodWord w = true) : w ∈ sr_G := List.mem_filter.mpr ⟨h, hg⟩
theorem sr_in_all {ws : List Cond} (h : ∀ w ∈ ws, w ∈ lw_tbl) (hg : ws.all goodWord = true) : ∀ w ∈ ws, w ∈ sr_G := fun w hw => sr_in (h w hw) (List.all_eq_true.mp hg w hw)
theorem sr_good {ws : List Cond} (h : ∀ w ∈ ws, w ∈ sr_G) : GoodIn sr_G ws := fun w hw => ⟨h w hw, good_of_word (List.mem_filter.mp (h w hw)).2⟩
theorem lk_0 : Cond.initialized RL ∈ sr_G := sr_in (List.mem_of_getElem? (i := 48) (by decide +kernel)) rfl
theorem lk_1 : Cond.initialized RX7 ∈ sr_G := sr_in (List.mem_of_getElem? (i := 49) (by decide +kernel)) rfl
theorem lk_2 : Cond.initialized RX1 ∈ sr_G := sr_in (List.mem_of_getElem? (i := 50) (by decide +kernel)) rfl
theorem lk_3 : Cond.initialized RX0 ∈ sr_G := sr_in (List.mem_of_getElem? (i := 51) (by decide +kernel)) rfl
theorem lk_4 : Cond.initialized RX4 ∈ sr_G := sr_in (List.mem_of_getElem? (i := 52) (by decide +kernel)) rfl
theorem lk_5 : Cond.initialized RX6 ∈ sr_G := sr_in (List.mem_of_getElem? (i := 53) (by decide +kernel)) rfl
theorem lk_6 : Cond.initialized RX2 ∈ sr_G := sr_in (List.mem_of_getElem? (i := 54) (by decide +kernel)) rfl
theorem lk_7 : Cond.initialized RX3 ∈ sr_G := sr_in (List.mem_of_getElem? (i := 55) (by decide +kernel)) rfl
theorem lk_8 : Cond.initialized RX5 ∈ sr_G := sr_in (List.mem_of_getElem? (i := 56) (by decide +kernel)) rfl
theorem lk_9 : Cond.initialized RX8 ∈ sr_G := sr_in (List.mem_of_getElem? (i := 57) (by decide +kernel)) rfl
theorem lk_10 : Cond.initialized RJ6 ∈ sr_G := sr_in (List.mem_of_getElem? (i := 58) (by decide +kernel)) rfl
theorem lk_11 : Cond.initialized RJ10 ∈ sr_G := sr_in (List.mem_of_getElem? (i := 59) (by decide +kernel)) rfl
theorem lk_12 : Cond.initialized RJ9 ∈ sr_G := sr_in (List.mem_of_getElem? (i := 60) (by decide +kernel)) rfl
theorem lk_13 : Cond.classLink RL 7 RX7 ∈ sr_G := sr_in (List.mem_of_getElem? (i := 61) (by decide +kernel)) rfl
theorem lk_14 : Cond.instantiable RX7 5 ∈ sr_G := sr_in (List.mem_of_getElem? (i := 62) (by decide +kernel)) rfl
theorem lk_15 : Cond.methodLink RL 9 yX7_init ∈ sr_G := sr_in (List.mem_of_getElem? (i := 63) (by decide +kernel)) rfl
theorem lk_16 : Cond.instanceMethod yX7_init ∈ sr_G := sr_in (List.mem_of_getElem? (i := 64) (by decide +kernel)) rfl
theorem lk_17 : Cond.code yX7_init cX7_init 2 (Option.none : Option FieldType) ∈ sr_G := sr_in (List.mem_of_getElem? (i := 65) (by decide +kernel)) rfl
theorem lk_18 : Cond.methodLink RX7 1 objectInit ∈ sr_G := sr_in (List.mem_of_getElem? (i := 66) (by decide +kernel)) rfl
theorem lk_19 : Cond.instanceMethod objectInit ∈ sr_G := sr_in (List.mem_of_getElem? (i := 67) (by decide +kernel)) rfl
theorem lk_20 : Cond.code objectInit object_method_1_code 1 (Option.none : Option FieldType) ∈ sr_G := sr_in (List.mem_of_getElem? (i := 68) (by decide +kernel)) rfl
theorem lk_21 : Cond.classLink RX7 7 RX1 ∈ sr_G := sr_in (List.mem_of_getElem? (i := 69) (by decide +kernel)) rfl
theorem lk_22 : Cond.instantiable RX1 8 ∈ sr_G := sr_in (List.mem_of_getElem? (i := 70) (by decide +kernel)) rfl
theorem lk_23 : Cond.methodLink RX7 9 yX1_init ∈ sr_G := sr_in (List.mem_of_getElem? (i := 71) (by decide +kernel)) rfl
theorem lk_24 : Cond.instanceMethod yX1_init ∈ sr_G := sr_in (List.mem_of_getElem? (i := 72) (by decide +kernel)) rfl
theorem lk_25 : Cond.code yX1_init cX1_init 3 (Option.none : Option FieldType) ∈ sr_G := sr_in (List.mem_of_getElem? (i := 73) (by decide +kernel)) rfl
theorem lk_26 : Cond.methodLink RX1 3 objectInit ∈ sr_G := sr_in (List.mem_of_getElem? (i := 74) (by decide +kernel)) rfl
theorem lk_27 : Cond.classLink RX1 15 RX0 ∈ sr_G := sr_in (List.mem_of_getElem? (i := 75) (by decide +kernel)) rfl
theorem lk_28 : Cond.arrayOver (FieldType.object "StagedRollout$Change") ∈ lw_tbl := List.mem_of_getElem? (i := 76) (by decide +kernel)
theorem lk_29 : Cond.instantiable RX0 8 ∈ sr_G := sr_in (List.mem_of_getElem? (i := 77) (by decide +kernel)) rfl
theorem lk_30 : Cond.methodLink RX1 21 yX0_init ∈ sr_G := sr_in (List.mem_of_getElem? (i := 78) (by decide +kernel)) rfl
theorem lk_31 : Cond.instanceMethod yX0_init ∈ sr_G := sr_in (List.mem_of_getElem? (i := 79) (by decide +kernel)) rfl
theorem lk_32 : Cond.code yX0_init cX0_init 2 (Option.none : Option FieldType) ∈ sr_G := sr_in (List.mem_of_getElem? (i := 80) (by decide +kernel)) rfl
theorem lk_33 : Cond.methodLink RX0 3 objectInit ∈ sr_G := sr_in (List.mem_of_getElem? (i := 81) (by decide +kernel)) rfl
theorem lk_34 : Cond.classLink RX0 15 RX4 ∈ sr_G := sr_in (List.mem_of_getElem? (i := 82) (by decide +kernel)) rfl
theorem lk_35 : Cond.instantiable RX4 2 ∈ sr_G := sr_in (List.mem_of_getElem? (i := 83) (by decide +kernel)) rfl
theorem lk_36 : Cond.methodLink RX0 17 yX4_init ∈ sr_G := sr_in (List.mem_of_getElem? (i := 84) (by decide +kernel)) rfl
theorem lk_37 : Cond.instanceMethod yX4_init ∈ sr_G := sr_in (List.mem_of_getElem? (i := 85) (by decide +kernel)) rfl
theorem lk_38 : Cond.code yX4_init cX4_init 1 (Option.none : Option FieldType) ∈ sr_G := sr_in (List.mem_of_getElem? (i := 86) (by decide +kernel)) rfl
theorem lk_39 : Cond.methodLink RX4 3 objectInit ∈ sr_G := sr_in (List.mem_of_getElem? (i := 87) (by decide +kernel)) rfl
theorem lk_40 : Cond.fieldLink RX4 9 "StagedRollout$Plan" "numbers" "[I" ∈ sr_G := sr_in (List.mem_of_getElem? (i := 88) (by decide +kernel)) rfl
theorem lk_41 : Cond.fieldLink RX4 15 "StagedRollout$Plan" "size" "I" ∈ sr_G := sr_in (List.mem_of_getElem? (i := 89) (by decide +kernel)) rfl
theorem lk_42 : Cond.fieldLink RX0 46 "StagedRollout$Plan" "size" "I" ∈ sr_G := sr_in (List.mem_of_getElem? (i := 90) (by decide +kernel)) rfl
theorem lk_43 : Cond.fieldLink RX5 29 "StagedRollout$Plan" "size" "I" ∈ sr_G := sr_in (List.mem_of_getElem? (i := 91) (by decide +kernel)) rfl
theorem lk_44 : Cond.fieldLink RX7 94 "StagedRollout$Plan" "size" "I" ∈ sr_G := sr_in (List.mem_of_getElem? (i := 92) (by decide +kernel)) rfl
theorem lk_50 : Cond.arrayClass (FieldType.int) ∈ sr_G := sr_in (List.mem_of_getElem? (i := 98) (by decide +kernel)) rfl
theorem lk_51 : Cond.classLink RX0 22 RX6 ∈ sr_G := sr_in (List.mem_of_getElem? (i := 99) (by decide +kernel)) rfl
theorem lk_52 : Cond.instantiable RX6 6 ∈ sr_G := sr_in (List.mem_of_getElem? (i := 100) (by decide +kernel)) rfl
theorem lk_53 : Cond.methodLink RX0 24 yX6_init ∈ sr_G := sr_in (List.mem_of_getElem? (i := 101) (by decide +kernel)) rfl
theorem lk_54 : Cond.instanceMethod yX6_init ∈ sr_G := sr_in (List.mem_of_getElem? (i := 102) (by decide +kernel)) rfl
theorem lk_55 : Cond.code yX6_init cX6_init 1 (Option.none : Option FieldType) ∈ sr_G := sr_in (List.mem_of_getElem? (i := 103) (by decide +kernel)) rfl
theorem lk_56 : Cond.methodLink RX6 3 objectInit ∈ sr_G := sr_in (List.mem_of_getElem? (i := 104) (by decide +kernel)) rfl
theorem lk_57 : Cond.fieldLink RX6 18 "StagedRollout$Tally" "badTreated" "I" ∈ sr_G := sr_in (List.mem_of_getElem? (i := 105) (by decide +kernel)) rfl
theorem lk_58 : Cond.fieldLink RX7 172 "StagedRollout$Tally" "badTreated" "I" ∈ sr_G := sr_in (List.mem_of_getElem? (i := 106) (by decide +kernel)) rfl
theorem lk_59 : Cond.fieldLink RX6 22 "StagedRollout$Tally" "goodTreated" "I" ∈ sr_G := sr_in (List.mem_of_getElem? (i := 107) (by decide +kernel)) rfl
theorem lk_60 : Cond.fieldLink RX7 177 "StagedRollout$Tally" "goodTreated" "I" ∈ sr_G := sr_in (List.mem_of_getElem? (i := 108) (by decide +kernel)) rfl
theorem lk_61 : Cond.fieldLink RX6 25 "StagedRollout$Tally" "badControl" "I" ∈ sr_G := sr_in (List.mem_of_getElem? (i := 109) (by decide +kernel)) rfl
theorem lk_62 : Cond.fieldLink RX7 180 "StagedRollout$Tally" "badControl" "I" ∈ sr_G := sr_in (List.mem_of_getElem? (i := 110) (by decide +kernel)) rfl
theorem lk_63 : Cond.fieldLink RX6 28 "StagedRollout$Tally" "goodControl" "I" ∈ sr_G := sr_in (List.mem_of_getElem? (i := 111) (by decide +kernel)) rfl
theorem lk_64 : Cond.fieldLink RX7 183 "StagedRollout$Tally" "goodControl" "I" ∈ sr_G := sr_in (List.mem_of_getElem? (i := 112) (by decide +kernel)) rfl
theorem lk_65 : Cond.fieldLink RX6 9 "StagedRollout$Tally" "numerator" "J" ∈ sr_G := sr_in (List.mem_of_getElem? (i := 113) (by decide +kernel)) rfl
theorem lk_66 : Cond.fieldLink RX7 192 "StagedRollout$Tally" "numerator" "J" ∈ sr_G := sr_in (List.mem_of_getElem? (i := 114) (by decide +kernel)) rfl
theorem lk_67 : Cond.fieldLink RX6 15 "StagedRollout$Tally" "denominator" "J" ∈ sr_G := sr_in (List.mem_of_getElem? (i := 115) (by decide +kernel)) rfl
theorem lk_68 : Cond.fieldLink RX7 188 "StagedRollout$Tally" "denominator" "J" ∈ sr_G := sr_in (List.mem_of_getElem? (i := 116) (by decide +kernel)) rfl
theorem lk_82 : Cond.fieldLink RX0 9 "StagedRollout$Change" "number" "I" ∈ sr_G := sr_in (List.mem_of_getElem? (i := 130) (by decide +kernel)) rfl
theorem lk_83 : Cond.fieldLink RX1 124 "StagedRollout$Change" "number" "I" ∈ sr_G := sr_in (List.mem_of_getElem? (i := 131) (by decide +kernel)) rfl
theorem lk_84 : Cond.fieldLink RX0 18 "StagedRollout$Change" "plan" "LStagedRollout$Plan;" ∈ sr_G := sr_in (List.mem_of_getElem? (i := 132) (by decide +kernel)) rfl
theorem lk_85 : Cond.fieldLink RX7 82 "StagedRollout$Change" "plan" "LStagedRollout$Plan;" ∈ sr_G := sr_in (List.mem_of_getElem? (i := 133) (by decide +kernel)) rfl
theorem lk_86 : Cond.fieldLink RX0 25 "StagedRollout$Change" "tally" "LStagedRollout$Tally;" ∈ sr_G := sr_in (List.mem_of_getElem? (i := 134) (by decide +kernel)) rfl
theorem lk_87 : Cond.fieldLink RX1 153 "StagedRollout$Change" "tally" "LStagedRollout$Tally;" ∈ sr_G := sr_in (List.mem_of_getElem? (i := 135) (by decide +kernel)) rfl
theorem lk_88 : Cond.fieldLink RX7 168 "StagedRollout$Change" "tally" "LStagedRollout$Tally;" ∈ sr_G := sr_in (List.mem_of_getElem? (i := 136) (by decide +kernel)) rfl
theorem lk_89 : Cond.fieldLink RX0 29 "StagedRollout$Change" "begunAt" "[I" ∈ sr_G := sr_in (List.mem_of_getElem? (i := 137) (by decide +kernel)) rfl
theorem lk_90 : Cond.fieldLink RX0 37 "StagedRollout$Change" "doneFirst" "I" ∈ sr_G := sr_in (List.mem_of_getElem? (i := 138) (by decide +kernel)) rfl
theorem lk_91 : Cond.fieldLink RX7 95 "StagedRollout$Change" "doneFirst" "I" ∈ sr_G := sr_in (List.mem_of_getElem? (i := 139) (by decide +kernel)) rfl
theorem lk_92 : Cond.fieldLink RX1 111 "StagedRollout$Change" "doneFirst" "I" ∈ sr_G := sr_in (List.mem_of_getElem? (i := 140) (by decide +kernel)) rfl
theorem lk_93 : Cond.fieldLink RX0 40 "StagedRollout$Change" "state" "I" ∈ sr_G := sr_in (List.mem_of_getElem? (i := 141) (by decide +kernel)) rfl
theorem lk_94 : Cond.fieldLink RX7 77 "StagedRollout$Change" "state" "I" ∈ sr_G := sr_in (List.mem_of_getElem? (i := 142) (by decide +kernel)) rfl
theorem lk_95 : Cond.fieldLink RX1 77 "StagedRollout$Change" "state" "I" ∈ sr_G := sr_in (List.mem_of_getElem? (i := 143) (by decide +kernel)) rfl
theorem lk_96 : Cond.fieldLink RX0 43 "StagedRollout$Change" "begun" "I" ∈ sr_G := sr_in (List.mem_of_getElem? (i := 144) (by decide +kernel)) rfl
theorem lk_97 : Cond.fieldLink RX1 104 "StagedRollout$Change" "begun" "I" ∈ sr_G := sr_in (List.mem_of_getElem? (i := 145) (by decide +kernel)) rfl
theorem lk_98 : Cond.fieldLink RX7 132 "StagedRollout$Change" "begun" "I" ∈ sr_G := sr_in (List.mem_of_getElem? (i := 146) (by decide +kernel)) rfl
theorem lk_99 : Cond.fieldLink RX0 33 "StagedRollout$Change" "isRisky" "Z" ∈ sr_G := sr_in (List.mem_of_getElem? (i := 147) (by decide +kernel)) rfl
theorem lk_100 : Cond.fieldLink RX1 117 "StagedRollout$Change" "isRisky" "Z" ∈ sr_G := sr_in (List.mem_of_getElem? (i := 148) (by decide +kernel)) rfl
theorem lk_101 : Cond.fieldLink RX7 164 "StagedRollout$Change" "isRisky" "Z" ∈ sr_G := sr_in (List.mem_of_getElem? (i := 149) (by decide +kernel)) rfl
theorem lk_119 : Cond.classLink RX1 24 RX2 ∈ sr_G := sr_in (List.mem_of_getElem? (i := 167) (by decide +kernel)) rfl
theorem lk_120 : Cond.instantiable RX2 3 ∈ sr_G := sr_in (List.mem_of_getElem? (i := 168) (by decide +kernel)) rfl
theorem lk_121 : Cond.methodLink RX1 26 yX2_init ∈ sr_G := sr_in (List.mem_of_getElem? (i := 169) (by decide +kernel)) rfl
theorem lk_122 : Cond.instanceMethod yX2_init ∈ sr_G := sr_in (List.mem_of_getElem? (i := 170) (by decide +kernel)) rfl
theorem lk_123 : Cond.code yX2_init cX2_init 1 (Option.none : Option FieldType) ∈ sr_G := sr_in (List.mem_of_getElem? (i := 171) (by decide +kernel)) rfl
theorem lk_124 : Cond.methodLink RX2 3 objectInit ∈ sr_G := sr_in (List.mem_of_getElem? (i := 172) (by decide +kernel)) rfl
theorem lk_125 : Cond.fieldLink RX2 9 "StagedRollout$FrozenHours" "from" "[I" ∈ sr_G := sr_in (List.mem_of_getElem? (i := 173) (by decide +kernel)) rfl
theorem lk_126 : Cond.fieldLink RX2 15 "StagedRollout$FrozenHours" "to" "[I" ∈ sr_G := sr_in (List.mem_of_getElem? (i := 174) (by decide +kernel)) rfl
theorem lk_127 : Cond.fieldLink RX2 18 "StagedRollout$FrozenHours" "size" "I" ∈ sr_G := sr_in (List.mem_of_getElem? (i := 175) (by decide +kernel)) rfl
theorem lk_128 : Cond.fieldLink RX1 51 "StagedRollout$FrozenHours" "size" "I" ∈ sr_G := sr_in (List.mem_of_getElem? (i := 176) (by decide +kernel)) rfl
theorem lk_129 : Cond.fieldLink RX7 61 "StagedRollout$FrozenHours" "size" "I" ∈ sr_G := sr_in (List.mem_of_getElem? (i := 177) (by decide +kernel)) rfl
theorem lk_137 : Cond.classLink RX1 31 RX3 ∈ sr_G := sr_in (List.mem_of_getElem? (i := 185) (by decide +kernel)) rfl
theorem lk_138 : Cond.instantiable RX3 4 ∈ sr_G := sr_in (List.mem_of_getElem? (i := 186) (by decide +kernel)) rfl
theorem lk_139 : Cond.methodLink RX1 33 yX3_init ∈ sr_G := sr_in (List.mem_of_getElem? (i := 187) (by decide +kernel)) rfl
theorem lk_140 : Cond.instanceMethod yX3_init ∈ sr_G := sr_in (List.mem_of_getElem? (i := 188) (by decide +kernel)) rfl
theorem lk_141 : Cond.code yX3_init cX3_init 1 (Option.none : Option FieldType) ∈ sr_G := sr_in (List.mem_of_getElem? (i := 189) (by decide +kernel)) rfl
theorem lk_142 : Cond.methodLink RX3 3 objectInit ∈ sr_G := sr_in (List.mem_of_getElem? (i := 190) (by decide +kernel)) rfl
theorem lk_143 : Cond.fieldLink RX3 9 "StagedRollout$Log" "numbers" "[I" ∈ sr_G := sr_in (List.mem_of_getElem? (i := 191) (by decide +kernel)) rfl
theorem lk_144 : Cond.fieldLink RX3 15 "StagedRollout$Log" "oldest" "I" ∈ sr_G := sr_in (List.mem_of_getElem? (i := 192) (by decide +kernel)) rfl
theorem lk_145 : Cond.fieldLink RX3 19 "StagedRollout$Log" "size" "I" ∈ sr_G := sr_in (List.mem_of_getElem? (i := 193) (by decide +kernel)) rfl
theorem lk_146 : Cond.fieldLink RX7 207 "StagedRollout$Log" "size" "I" ∈ sr_G := sr_in (List.mem_of_getElem? (i := 194) (by decide +kernel)) rfl
theorem lk_147 : Cond.fieldLink RX3 26 "StagedRollout$Log" "received" "I" ∈ sr_G := sr_in (List.mem_of_getElem? (i := 195) (by decide +kernel)) rfl
theorem lk_148 : Cond.fieldLink RX7 146 "StagedRollout$Log" "received" "I" ∈ sr_G := sr_in (List.mem_of_getElem? (i := 196) (by decide +kernel)) rfl
theorem lk_158 : Cond.fieldLink RX1 17 "StagedRollout$Fleet" "list" "[LStagedRollout$Change;" ∈ sr_G := sr_in (List.mem_of_getElem? (i := 206) (by decide +kernel)) rfl
theorem lk_159 : Cond.fieldLink RX1 27 "StagedRollout$Fleet" "frozen" "LStagedRollout$FrozenHours;" ∈ sr_G := sr_in (List.mem_of_getElem? (i := 207) (by decide +kernel)) rfl
theorem lk_160 : Cond.fieldLink RX7 51 "StagedRollout$Fleet" "frozen" "LStagedRollout$FrozenHours;" ∈ sr_G := sr_in (List.mem_of_getElem? (i := 208) (by decide +kernel)) rfl
theorem lk_161 : Cond.fieldLink RX1 34 "StagedRollout$Fleet" "log" "LStagedRollout$Log;" ∈ sr_G := sr_in (List.mem_of_getElem? (i := 209) (by decide +kernel)) rfl
theorem lk_162 : Cond.fieldLink RX7 142 "StagedRollout$Fleet" "log" "LStagedRollout$Log;" ∈ sr_G := sr_in (List.mem_of_getElem? (i := 210) (by decide +kernel)) rfl
theorem lk_163 : Cond.fieldLink RX1 9 "StagedRollout$Fleet" "ignoresProbes" "Z" ∈ sr_G := sr_in (List.mem_of_getElem? (i := 211) (by decide +kernel)) rfl
theorem lk_164 : Cond.fieldLink RX1 45 "StagedRollout$Fleet" "size" "I" ∈ sr_G := sr_in (List.mem_of_getElem? (i := 212) (by decide +kernel)) rfl
theorem lk_165 : Cond.fieldLink RX7 68 "StagedRollout$Fleet" "size" "I" ∈ sr_G := sr_in (List.mem_of_getElem? (i := 213) (by decide +kernel)) rfl
theorem lk_166 : Cond.fieldLink RX1 38 "StagedRollout$Fleet" "cells" "I" ∈ sr_G := sr_in (List.mem_of_getElem? (i := 214) (by decide +kernel)) rfl
theorem lk_167 : Cond.fieldLink RX7 40 "StagedRollout$Fleet" "cells" "I" ∈ sr_G := sr_in (List.mem_of_getElem? (i := 215) (by decide +kernel)) rfl
theorem lk_168 : Cond.fieldLink RX1 48 "StagedRollout$Fleet" "hour" "I" ∈ sr_G := sr_in (List.mem_of_getElem? (i := 216) (by decide +kernel)) rfl
theorem lk_169 : Cond.fieldLink RX7 154 "StagedRollout$Fleet" "hour" "I" ∈ sr_G := sr_in (List.mem_of_getElem? (i := 217) (by decide +kernel)) rfl
theorem lk_170 : Cond.fieldLink RX1 42 "StagedRollout$Fleet" "limit" "I" ∈ sr_G := sr_in (List.mem_of_getElem? (i := 218) (by decide +kernel)) rfl
theorem lk_171 : Cond.fieldLink RX7 48 "StagedRollout$Fleet" "limit" "I" ∈ sr_G := sr_in (List.mem_of_getElem? (i := 219) (by decide +kernel)) rfl
theorem lk_189 : Cond.arrayOver (FieldType.object "StagedRollout$Fleet") ∈ lw_tbl := List.mem_of_getElem? (i := 237) (by decide +kernel)
theorem lk_190 : Cond.classLink RX7 29 RX5 ∈ sr_G := sr_in (List.mem_of_getElem? (i := 238) (by decide +kernel)) rfl
theorem lk_191 : Cond.instantiable RX5 4 ∈ sr_G := sr_in (List.mem_of_getElem? (i := 239) (by decide +kernel)) rfl
theorem lk_192 : Cond.methodLink RX7 31 yX5_init ∈ sr_G := sr_in (List.mem_of_getElem? (i := 240) (by decide +kernel)) rfl
theorem lk_193 : Cond.instanceMethod yX5_init ∈ sr_G := sr_in (List.mem_of_getElem? (i := 241) (by decide +kernel)) rfl
theorem lk_194 : Cond.code yX5_init cX5_init 1 (Option.none : Option FieldType) ∈ sr_G := sr_in (List.mem_of_getElem? (i := 242) (by decide +kernel)) rfl
theorem lk_195 : Cond.methodLink RX5 3 objectInit ∈ sr_G := sr_in (List.mem_of_getElem? (i := 243) (by decide +kernel)) rfl
theorem lk_196 : Cond.classLink RX5 15 RX4 ∈ sr_G := sr_in (List.mem_of_getElem? (i := 244) (by decide +kernel)) rfl
theorem lk_197 : Cond.methodLink RX5 17 yX4_init ∈ sr_G := sr_in (List.mem_of_getElem? (i := 245) (by decide +kernel)) rfl
theorem lk_198 : Cond.fieldLink RX5 9 "StagedRollout$PlanText" "letters" "[B" ∈ sr_G := sr_in (List.mem_of_getElem? (i := 246) (by decide +kernel)) rfl
theorem lk_199 : Cond.fieldLink RX5 18 "StagedRollout$PlanText" "plan" "LStagedRollout$Plan;" ∈ sr_G := sr_in (List.mem_of_getElem? (i := 247) (by decide +kernel)) rfl
theorem lk_200 : Cond.fieldLink RX7 119 "StagedRollout$PlanText" "plan" "LStagedRollout$Plan;" ∈ sr_G := sr_in (List.mem_of_getElem? (i := 248) (by decide +kernel)) rfl
theorem lk_201 : Cond.fieldLink RX5 22 "StagedRollout$PlanText" "length" "I" ∈ sr_G := sr_in (List.mem_of_getElem? (i := 249) (by decide +kernel)) rfl
theorem lk_202 : Cond.fieldLink RX7 110 "StagedRollout$PlanText" "length" "I" ∈ sr_G := sr_in (List.mem_of_getElem? (i := 250) (by decide +kernel)) rfl
theorem lk_203 : Cond.fieldLink RX5 26 "StagedRollout$PlanText" "at" "I" ∈ sr_G := sr_in (List.mem_of_getElem? (i := 251) (by decide +kernel)) rfl
theorem lk_204 : Cond.fieldLink RX7 116 "StagedRollout$PlanText" "at" "I" ∈ sr_G := sr_in (List.mem_of_getElem? (i := 252) (by decide +kernel)) rfl
theorem lk_214 : Cond.arrayClass (FieldType.boolean) ∈ sr_G := sr_in (List.mem_of_getElem? (i := 262) (by decide +kernel)) rfl
theorem lk_215 : Cond.arrayClass (FieldType.byte) ∈ sr_G := sr_in (List.mem_of_getElem? (i := 263) (by decide +kernel)) rfl
theorem lk_216 : Cond.fieldLink RX7 12 "StagedRollout" "fleet" "LStagedRollout$Fleet;" ∈ sr_G := sr_in (List.mem_of_getElem? (i := 264) (by decide +kernel)) rfl
theorem lk_217 : Cond.fieldLink RX7 18 "StagedRollout" "trial" "LStagedRollout$Fleet;" ∈ sr_G := sr_in (List.mem_of_getElem? (i := 265) (by decide +kernel)) rfl
theorem lk_218 : Cond.fieldLink RX7 21 "StagedRollout" "slots" "[LStagedRollout$Fleet;" ∈ sr_G := sr_in (List.mem_of_getElem? (i := 266) (by decide +kernel)) rfl
theorem lk_219 : Cond.fieldLink RX7 25 "StagedRollout" "isKept" "[Z" ∈ sr_G := sr_in (List.mem_of_getElem? (i := 267) (by decide +kernel)) rfl
theorem lk_220 : Cond.fieldLink RX7 32 "StagedRollout" "text" "LStagedRollout$PlanText;" ∈ sr_G := sr_in (List.mem_of_getElem? (i := 268) (by decide +kernel)) rfl
theorem lk_232 : Cond.methodLink RL 13 yX7_begin ∈ sr_G := sr_in (List.mem_of_getElem? (i := 280) (by decide +kernel)) rfl
theorem lk_233 : Cond.instanceMethod yX7_begin ∈ sr_G := sr_in (List.mem_of_getElem? (i := 281) (by decide +kernel)) rfl
theorem lk_234 : Cond.selects RX7 yX7_begin yX7_begin ∈ sr_G := sr_in (List.mem_of_getElem? (i := 282) (by decide +kernel)) rfl
theorem lk_235 : Cond.code yX7_begin cX7_begin 3 (Option.some FieldType.int) ∈ sr_G := sr_in (List.mem_of_getElem? (i := 283) (by decide +kernel)) rfl
theorem lk_236 : Cond.methodLink RX7 36 yX7_isWithin ∈ sr_G := sr_in (List.mem_of_getElem? (i := 284) (by decide +kernel)) rfl
theorem lk_237 : Cond.static yX7_isWithin ∈ sr_G := sr_in (List.mem_of_getElem? (i := 285) (by decide +kernel)) rfl
theorem lk_238 : Cond.code yX7_isWithin cX7_isWithin 3 (Option.some FieldType.boolean) ∈ sr_G := sr_in (List.mem_of_getElem? (i := 286) (by decide +kernel)) rfl
theorem lk_239 : Cond.methodLink RX7 44 yX1_beginAnew ∈ sr_G := sr_in (List.mem_of_getElem? (i := 287) (by decide +kernel)) rfl
theorem lk_240 : Cond.instanceMethod yX1_beginAnew ∈ sr_G := sr_in (List.mem_of_getElem? (i := 288) (by decide +kernel)) rfl
theorem lk_241 : Cond.selects RX1 yX1_beginAnew yX1_beginAnew ∈ sr_G := sr_in (List.mem_of_getElem? (i := 289) (by decide +kernel)) rfl
theorem lk_242 : Cond.code yX1_beginAnew cX1_beginAnew 2 (Option.none : Option FieldType) ∈ sr_G := sr_in (List.mem_of_getElem? (i := 290) (by decide +kernel)) rfl
theorem lk_243 : Cond.methodLink RX1 52 yX3_empty ∈ sr_G := sr_in (List.mem_of_getElem? (i := 291) (by decide +kernel)) rfl
theorem lk_244 : Cond.instanceMethod yX3_empty ∈ sr_G := sr_in (List.mem_of_getElem? (i := 292) (by decide +kernel)) rfl
theorem lk_245 : Cond.selects RX3 yX3_empty yX3_empty ∈ sr_G := sr_in (List.mem_of_getElem? (i := 293) (by decide +kernel)) rfl
theorem lk_246 : Cond.code yX3_empty cX3_empty 1 (Option.none : Option FieldType) ∈ sr_G := sr_in (List.mem_of_getElem? (i := 294) (by decide +kernel)) rfl
theorem lk_247 : Cond.methodLink RL 18 yX7_setLimit ∈ sr_G := sr_in (List.mem_of_getElem? (i := 295) (by decide +kernel)) rfl
theorem lk_248 : Cond.instanceMethod yX7_setLimit ∈ sr_G := sr_in (List.mem_of_getElem? (i := 296) (by decide +kernel)) rfl
theorem lk_249 : Cond.selects RX7 yX7_setLimit yX7_setLimit ∈ sr_G := sr_in (List.mem_of_getElem? (i := 297) (by decide +kernel)) rfl
theorem lk_250 : Cond.code yX7_setLimit cX7_setLimit 3 (Option.some FieldType.int) ∈ sr_G := sr_in (List.mem_of_getElem? (i := 298) (by decide +kernel)) rfl
theorem lk_251 : Cond.methodLink RL 22 yX7_freeze ∈ sr_G := sr_in (List.mem_of_getElem? (i := 299) (by decide +kernel)) rfl
theorem lk_252 : Cond.instanceMethod yX7_freeze ∈ sr_G := sr_in (List.mem_of_getElem? (i := 300) (by decide +kernel)) rfl
theorem lk_253 : Cond.selects RX7 yX7_freeze yX7_freeze ∈ sr_G := sr_in (List.mem_of_getElem? (i := 301) (by decide +kernel)) rfl
theorem lk_254 : Cond.code yX7_freeze cX7_freeze 3 (Option.some FieldType.int) ∈ sr_G := sr_in (List.mem_of_getElem? (i := 302) (by decide +kernel)) rfl
theorem lk_255 : Cond.methodLink RX7 55 yX2_put ∈ sr_G := sr_in (List.mem_of_getElem? (i := 303) (by decide +kernel)) rfl
theorem lk_256 : Cond.instanceMethod yX2_put ∈ sr_G := sr_in (List.mem_of_getElem? (i := 304) (by decide +kernel)) rfl
theorem lk_257 : Cond.selects RX2 yX2_put yX2_put ∈ sr_G := sr_in (List.mem_of_getElem? (i := 305) (by decide +kernel)) rfl
theorem lk_258 : Cond.code yX2_put cX2_put 3 (Option.some FieldType.boolean) ∈ sr_G := sr_in (List.mem_of_getElem? (i := 306) (by decide +kernel)) rfl
theorem lk_259 : Cond.methodLink RL 27 yX7_thaw ∈ sr_G := sr_in (List.mem_of_getElem? (i := 307) (by decide +kernel)) rfl
theorem lk_260 : Cond.instanceMethod yX7_thaw ∈ sr_G := sr_in (List.mem_of_getElem? (i := 308) (by decide +kernel)) rfl
theorem lk_261 : Cond.selects RX7 yX7_thaw yX7_thaw ∈ sr_G := sr_in (List.mem_of_getElem? (i := 309) (by decide +kernel)) rfl
theorem lk_262 : Cond.code yX7_thaw cX7_thaw 2 (Option.some FieldType.int) ∈ sr_G := sr_in (List.mem_of_getElem? (i := 310) (by decide +kernel)) rfl
theorem lk_263 : Cond.methodLink RL 32 yX7_addChange ∈ sr_G := sr_in (List.mem_of_getElem? (i := 311) (by decide +kernel)) rfl
theorem lk_264 : Cond.instanceMethod yX7_addChange ∈ sr_G := sr_in (List.mem_of_getElem? (i := 312) (by decide +kernel)) rfl
theorem lk_265 : Cond.selects RX7 yX7_addChange yX7_addChange ∈ sr_G := sr_in (List.mem_of_getElem? (i := 313) (by decide +kernel)) rfl
theorem lk_266 : Cond.code yX7_addChange cX7_addChange 2 (Option.some FieldType.int) ∈ sr_G := sr_in (List.mem_of_getElem? (i := 314) (by decide +kernel)) rfl
theorem lk_267 : Cond.methodLink RX7 64 yX1_putChange ∈ sr_G := sr_in (List.mem_of_getElem? (i := 315) (by decide +kernel)) rfl
theorem lk_268 : Cond.instanceMethod yX1_putChange ∈ sr_G := sr_in (List.mem_of_getElem? (i := 316) (by decide +kernel)) rfl
theorem lk_269 : Cond.selects RX1 yX1_putChange yX1_putChange ∈ sr_G := sr_in (List.mem_of_getElem? (i := 317) (by decide +kernel)) rfl
theorem lk_270 : Cond.code yX1_putChange cX1_putChange 2 (Option.some FieldType.boolean) ∈ sr_G := sr_in (List.mem_of_getElem? (i := 318) (by decide +kernel)) rfl
theorem lk_271 : Cond.methodLink RX1 65 yX0_makeNew ∈ sr_G := sr_in (List.mem_of_getElem? (i := 319) (by decide +kernel)) rfl
theorem lk_272 : Cond.instanceMethod yX0_makeNew ∈ sr_G := sr_in (List.mem_of_getElem? (i := 320) (by decide +kernel)) rfl
theorem lk_273 : Cond.selects RX0 yX0_makeNew yX0_makeNew ∈ sr_G := sr_in (List.mem_of_getElem? (i := 321) (by decide +kernel)) rfl
theorem lk_274 : Cond.code yX0_makeNew cX0_makeNew 2 (Option.none : Option FieldType) ∈ sr_G := sr_in (List.mem_of_getElem? (i := 322) (by decide +kernel)) rfl
theorem lk_275 : Cond.methodLink RX0 49 yX6_empty ∈ sr_G := sr_in (List.mem_of_getElem? (i := 323) (by decide +kernel)) rfl
theorem lk_276 : Cond.instanceMethod yX6_empty ∈ sr_G := sr_in (List.mem_of_getElem? (i := 324) (by decide +kernel)) rfl
theorem lk_277 : Cond.selects RX6 yX6_empty yX6_empty ∈ sr_G := sr_in (List.mem_of_getElem? (i := 325) (by decide +kernel)) rfl
theorem lk_278 : Cond.code yX6_empty cX6_empty 1 (Option.none : Option FieldType) ∈ sr_G := sr_in (List.mem_of_getElem? (i := 326) (by decide +kernel)) rfl
theorem lk_279 : Cond.methodLink RL 37 yX7_addStage ∈ sr_G := sr_in (List.mem_of_getElem? (i := 327) (by decide +kernel)) rfl
theorem lk_280 : Cond.instanceMethod yX7_addStage ∈ sr_G := sr_in (List.mem_of_getElem? (i := 328) (by decide +kernel)) rfl
theorem lk_281 : Cond.selects RX7 yX7_addStage yX7_addStage ∈ sr_G := sr_in (List.mem_of_getElem? (i := 329) (by decide +kernel)) rfl
theorem lk_282 : Cond.code yX7_addStage cX7_addStage 6 (Option.some FieldType.int) ∈ sr_G := sr_in (List.mem_of_getElem? (i := 330) (by decide +kernel)) rfl
theorem lk_283 : Cond.methodLink RX7 69 yX1_find ∈ sr_G := sr_in (List.mem_of_getElem? (i := 331) (by decide +kernel)) rfl
theorem lk_284 : Cond.instanceMethod yX1_find ∈ sr_G := sr_in (List.mem_of_getElem? (i := 332) (by decide +kernel)) rfl
theorem lk_285 : Cond.selects RX1 yX1_find yX1_find ∈ sr_G := sr_in (List.mem_of_getElem? (i := 333) (by decide +kernel)) rfl
theorem lk_286 : Cond.code yX1_find cX1_find 2 (Option.some (FieldType.object "StagedRollout$Change")) ∈ sr_G := sr_in (List.mem_of_getElem? (i := 334) (by decide +kernel)) rfl
theorem lk_287 : Cond.methodLink RX7 73 yX1_allCells ∈ sr_G := sr_in (List.mem_of_getElem? (i := 335) (by decide +kernel)) rfl
theorem lk_288 : Cond.instanceMethod yX1_allCells ∈ sr_G := sr_in (List.mem_of_getElem? (i := 336) (by decide +kernel)) rfl
theorem lk_289 : Cond.selects RX1 yX1_allCells yX1_allCells ∈ sr_G := sr_in (List.mem_of_getElem? (i := 337) (by decide +kernel)) rfl
theorem lk_290 : Cond.code yX1_allCells cX1_allCells 1 (Option.some FieldType.int) ∈ sr_G := sr_in (List.mem_of_getElem? (i := 338) (by decide +kernel)) rfl
theorem lk_291 : Cond.methodLink RX7 86 yX4_cellsOfFirst ∈ sr_G := sr_in (List.mem_of_getElem? (i := 339) (by decide +kernel)) rfl
theorem lk_292 : Cond.instanceMethod yX4_cellsOfFirst ∈ sr_G := sr_in (List.mem_of_getElem? (i := 340) (by decide +kernel)) rfl
theorem lk_293 : Cond.selects RX4 yX4_cellsOfFirst yX4_cellsOfFirst ∈ sr_G := sr_in (List.mem_of_getElem? (i := 341) (by decide +kernel)) rfl
theorem lk_294 : Cond.code yX4_cellsOfFirst cX4_cellsOfFirst 4 (Option.some FieldType.int) ∈ sr_G := sr_in (List.mem_of_getElem? (i := 342) (by decide +kernel)) rfl
theorem lk_295 : Cond.methodLink RX7 92 yX4_put ∈ sr_G := sr_in (List.mem_of_getElem? (i := 343) (by decide +kernel)) rfl
theorem lk_296 : Cond.instanceMethod yX4_put ∈ sr_G := sr_in (List.mem_of_getElem? (i := 344) (by decide +kernel)) rfl
theorem lk_297 : Cond.selects RX4 yX4_put yX4_put ∈ sr_G := sr_in (List.mem_of_getElem? (i := 345) (by decide +kernel)) rfl
theorem lk_298 : Cond.code yX4_put cX4_put 5 (Option.some FieldType.boolean) ∈ sr_G := sr_in (List.mem_of_getElem? (i := 346) (by decide +kernel)) rfl
theorem lk_299 : Cond.methodLink RL 42 yX7_putAfter ∈ sr_G := sr_in (List.mem_of_getElem? (i := 347) (by decide +kernel)) rfl
theorem lk_300 : Cond.instanceMethod yX7_putAfter ∈ sr_G := sr_in (List.mem_of_getElem? (i := 348) (by decide +kernel)) rfl
theorem lk_301 : Cond.selects RX7 yX7_putAfter yX7_putAfter ∈ sr_G := sr_in (List.mem_of_getElem? (i := 349) (by decide +kernel)) rfl
theorem lk_302 : Cond.code yX7_putAfter cX7_putAfter 4 (Option.some FieldType.int) ∈ sr_G := sr_in (List.mem_of_getElem? (i := 350) (by decide +kernel)) rfl
theorem lk_303 : Cond.methodLink RX7 98 yJ6_bitCount_0f7a4 ∈ sr_G := sr_in (List.mem_of_getElem? (i := 351) (by decide +kernel)) rfl
theorem lk_304 : Cond.static yJ6_bitCount_0f7a4 ∈ sr_G := sr_in (List.mem_of_getElem? (i := 352) (by decide +kernel)) rfl
theorem lk_305 : Cond.code yJ6_bitCount_0f7a4 cJ6_bitCount_0f7a4 1 (Option.some FieldType.int) ∈ sr_G := sr_in (List.mem_of_getElem? (i := 353) (by decide +kernel)) rfl
theorem lk_306 : Cond.constant RJ6 265 1431655765 ∈ sr_G := sr_in (List.mem_of_getElem? (i := 354) (by decide +kernel)) rfl
theorem lk_307 : Cond.constant RJ6 266 858993459 ∈ sr_G := sr_in (List.mem_of_getElem? (i := 355) (by decide +kernel)) rfl
theorem lk_308 : Cond.constant RJ6 267 252645135 ∈ sr_G := sr_in (List.mem_of_getElem? (i := 356) (by decide +kernel)) rfl
theorem lk_309 : Cond.methodLink RL 46 yX7_changes ∈ sr_G := sr_in (List.mem_of_getElem? (i := 357) (by decide +kernel)) rfl
theorem lk_310 : Cond.instanceMethod yX7_changes ∈ sr_G := sr_in (List.mem_of_getElem? (i := 358) (by decide +kernel)) rfl
theorem lk_311 : Cond.selects RX7 yX7_changes yX7_changes ∈ sr_G := sr_in (List.mem_of_getElem? (i := 359) (by decide +kernel)) rfl
theorem lk_312 : Cond.code yX7_changes cX7_changes 1 (Option.some FieldType.int) ∈ sr_G := sr_in (List.mem_of_getElem? (i := 360) (by decide +kernel)) rfl
theorem lk_313 : Cond.methodLink RL 50 yX7_stage ∈ sr_G := sr_in (List.mem_of_getElem? (i := 361) (by decide +kernel)) rfl
theorem lk_314 : Cond.instanceMethod yX7_stage ∈ sr_G := sr_in (List.mem_of_getElem? (i := 362) (by decide +kernel)) rfl
theorem lk_315 : Cond.selects RX7 yX7_stage yX7_stage ∈ sr_G := sr_in (List.mem_of_getElem? (i := 363) (by decide +kernel)) rfl
theorem lk_316 : Cond.code yX7_stage cX7_stage 5 (Option.some FieldType.int) ∈ sr_G := sr_in (List.mem_of_getElem? (i := 364) (by decide +kernel)) rfl
theorem lk_317 : Cond.methodLink RX7 103 yX4_number ∈ sr_G := sr_in (List.mem_of_getElem? (i := 365) (by decide +kernel)) rfl
theorem lk_318 : Cond.instanceMethod yX4_number ∈ sr_G := sr_in (List.mem_of_getElem? (i := 366) (by decide +kernel)) rfl
theorem lk_319 : Cond.selects RX4 yX4_number yX4_number ∈ sr_G := sr_in (List.mem_of_getElem? (i := 367) (by decide +kernel)) rfl
theorem lk_320 : Cond.code yX4_number cX4_number 5 (Option.some FieldType.int) ∈ sr_G := sr_in (List.mem_of_getElem? (i := 368) (by decide +kernel)) rfl
theorem lk_321 : Cond.methodLinkNest RX4 19 yX7_isWithin RX7 ∈ lw_tbl := List.mem_of_getElem? (i := 369) (by decide +kernel)
theorem lk_322 : Cond.methodLink RL 55 yX7_append ∈ sr_G := sr_in (List.mem_of_getElem? (i := 370) (by decide +kernel)) rfl
theorem lk_323 : Cond.instanceMethod yX7_append ∈ sr_G := sr_in (List.mem_of_getElem? (i := 371) (by decide +kernel)) rfl
theorem lk_324 : Cond.selects RX7 yX7_append yX7_append ∈ sr_G := sr_in (List.mem_of_getElem? (i := 372) (by decide +kernel)) rfl
theorem lk_325 : Cond.code yX7_append cX7_append 2 (Option.some FieldType.int) ∈ sr_G := sr_in (List.mem_of_getElem? (i := 373) (by decide +kernel)) rfl
theorem lk_326 : Cond.methodLink RX7 107 yX5_put ∈ sr_G := sr_in (List.mem_of_getElem? (i := 374) (by decide +kernel)) rfl
theorem lk_327 : Cond.instanceMethod yX5_put ∈ sr_G := sr_in (List.mem_of_getElem? (i := 375) (by decide +kernel)) rfl
theorem lk_328 : Cond.selects RX5 yX5_put yX5_put ∈ sr_G := sr_in (List.mem_of_getElem? (i := 376) (by decide +kernel)) rfl
theorem lk_329 : Cond.code yX5_put cX5_put 2 (Option.some FieldType.boolean) ∈ sr_G := sr_in (List.mem_of_getElem? (i := 377) (by decide +kernel)) rfl
theorem lk_330 : Cond.methodLink RL 59 yX7_clearText ∈ sr_G := sr_in (List.mem_of_getElem? (i := 378) (by decide +kernel)) rfl
theorem lk_331 : Cond.instanceMethod yX7_clearText ∈ sr_G := sr_in (List.mem_of_getElem? (i := 379) (by decide +kernel)) rfl
theorem lk_332 : Cond.selects RX7 yX7_clearText yX7_clearText ∈ sr_G := sr_in (List.mem_of_getElem? (i := 380) (by decide +kernel)) rfl
theorem lk_333 : Cond.code yX7_clearText cX7_clearText 2 (Option.some FieldType.int) ∈ sr_G := sr_in (List.mem_of_getElem? (i := 381) (by decide +kernel)) rfl
theorem lk_334 : Cond.methodLink RL 63 yX7_faultPosition ∈ sr_G := sr_in (List.mem_of_getElem? (i := 382) (by decide +kernel)) rfl
theorem lk_335 : Cond.instanceMethod yX7_faultPosition ∈ sr_G := sr_in (List.mem_of_getElem? (i := 383) (by decide +kernel)) rfl
theorem lk_336 : Cond.selects RX7 yX7_faultPosition yX7_faultPosition ∈ sr_G := sr_in (List.mem_of_getElem? (i := 384) (by decide +kernel)) rfl
theorem lk_337 : Cond.code yX7_faultPosition cX7_faultPosition 1 (Option.some FieldType.int) ∈ sr_G := sr_in (List.mem_of_getElem? (i := 385) (by decide +kernel)) rfl
theorem lk_338 : Cond.methodLink RX7 113 yX5_parse ∈ sr_G := sr_in (List.mem_of_getElem? (i := 386) (by decide +kernel)) rfl
theorem lk_339 : Cond.instanceMethod yX5_parse ∈ sr_G := sr_in (List.mem_of_getElem? (i := 387) (by decide +kernel)) rfl
theorem lk_340 : Cond.selects RX5 yX5_parse yX5_parse ∈ sr_G := sr_in (List.mem_of_getElem? (i := 388) (by decide +kernel)) rfl
theorem lk_341 : Cond.code yX5_parse cX5_parse 3 (Option.some FieldType.boolean) ∈ sr_G := sr_in (List.mem_of_getElem? (i := 389) (by decide +kernel)) rfl
theorem lk_342 : Cond.methodLink RX5 32 yX5_parseStage ∈ sr_G := sr_in (List.mem_of_getElem? (i := 390) (by decide +kernel)) rfl
theorem lk_344 : Cond.instanceMethod yX5_parseStage ∈ sr_G := sr_in (List.mem_of_getElem? (i := 392) (by decide +kernel)) rfl
theorem lk_345 : Cond.code yX5_parseStage cX5_parseStage 5 (Option.some FieldType.boolean) ∈ sr_G := sr_in (List.mem_of_getElem? (i := 393) (by decide +kernel)) rfl
theorem lk_346 : Cond.methodLink RX5 36 yX5_parseCells ∈ sr_G := sr_in (List.mem_of_getElem? (i := 394) (by decide +kernel)) rfl
theorem lk_348 : Cond.instanceMethod yX5_parseCells ∈ sr_G := sr_in (List.mem_of_getElem? (i := 396) (by decide +kernel)) rfl
theorem lk_349 : Cond.code yX5_parseCells cX5_parseCells 7 (Option.some FieldType.int) ∈ sr_G := sr_in (List.mem_of_getElem? (i := 397) (by decide +kernel)) rfl
theorem lk_350 : Cond.methodLink RX5 51 yX4_cellsOfFirst ∈ sr_G := sr_in (List.mem_of_getElem? (i := 398) (by decide +kernel)) rfl
theorem lk_351 : Cond.methodLink RX5 54 yX5_digitAt ∈ sr_G := sr_in (List.mem_of_getElem? (i := 399) (by decide +kernel)) rfl
theorem lk_353 : Cond.instanceMethod yX5_digitAt ∈ sr_G := sr_in (List.mem_of_getElem? (i := 401) (by decide +kernel)) rfl
theorem lk_354 : Cond.code yX5_digitAt cX5_digitAt 3 (Option.some FieldType.int) ∈ sr_G := sr_in (List.mem_of_getElem? (i := 402) (by decide +kernel)) rfl
theorem lk_355 : Cond.methodLink RX5 57 yX5_letterAt ∈ sr_G := sr_in (List.mem_of_getElem? (i := 403) (by decide +kernel)) rfl
theorem lk_357 : Cond.instanceMethod yX5_letterAt ∈ sr_G := sr_in (List.mem_of_getElem? (i := 405) (by decide +kernel)) rfl
theorem lk_358 : Cond.code yX5_letterAt cX5_letterAt 2 (Option.some FieldType.int) ∈ sr_G := sr_in (List.mem_of_getElem? (i := 406) (by decide +kernel)) rfl
theorem lk_359 : Cond.methodLinkNest RX5 60 yX7_isWithin RX7 ∈ lw_tbl := List.mem_of_getElem? (i := 407) (by decide +kernel)
theorem lk_360 : Cond.methodLink RX5 40 yX5_skip ∈ sr_G := sr_in (List.mem_of_getElem? (i := 408) (by decide +kernel)) rfl
theorem lk_362 : Cond.instanceMethod yX5_skip ∈ sr_G := sr_in (List.mem_of_getElem? (i := 410) (by decide +kernel)) rfl
theorem lk_363 : Cond.code yX5_skip cX5_skip 2 (Option.some FieldType.boolean) ∈ sr_G := sr_in (List.mem_of_getElem? (i := 411) (by decide +kernel)) rfl
theorem lk_364 : Cond.methodLink RX5 44 yX5_parseNumber ∈ sr_G := sr_in (List.mem_of_getElem? (i := 412) (by decide +kernel)) rfl
theorem lk_366 : Cond.instanceMethod yX5_parseNumber ∈ sr_G := sr_in (List.mem_of_getElem? (i := 414) (by decide +kernel)) rfl
theorem lk_367 : Cond.code yX5_parseNumber cX5_parseNumber 5 (Option.some FieldType.int) ∈ sr_G := sr_in (List.mem_of_getElem? (i := 415) (by decide +kernel)) rfl
theorem lk_368 : Cond.methodLink RX5 47 yX4_put ∈ sr_G := sr_in (List.mem_of_getElem? (i := 416) (by decide +kernel)) rfl
theorem lk_369 : Cond.methodLink RL 67 yX7_read ∈ sr_G := sr_in (List.mem_of_getElem? (i := 417) (by decide +kernel)) rfl
theorem lk_370 : Cond.instanceMethod yX7_read ∈ sr_G := sr_in (List.mem_of_getElem? (i := 418) (by decide +kernel)) rfl
theorem lk_371 : Cond.selects RX7 yX7_read yX7_read ∈ sr_G := sr_in (List.mem_of_getElem? (i := 419) (by decide +kernel)) rfl
theorem lk_372 : Cond.code yX7_read cX7_read 3 (Option.some FieldType.int) ∈ sr_G := sr_in (List.mem_of_getElem? (i := 420) (by decide +kernel)) rfl
theorem lk_373 : Cond.methodLink RX7 120 yX4_copyFrom ∈ sr_G := sr_in (List.mem_of_getElem? (i := 421) (by decide +kernel)) rfl
theorem lk_374 : Cond.instanceMethod yX4_copyFrom ∈ sr_G := sr_in (List.mem_of_getElem? (i := 422) (by decide +kernel)) rfl
theorem lk_375 : Cond.selects RX4 yX4_copyFrom yX4_copyFrom ∈ sr_G := sr_in (List.mem_of_getElem? (i := 423) (by decide +kernel)) rfl
theorem lk_376 : Cond.code yX4_copyFrom cX4_copyFrom 2 (Option.none : Option FieldType) ∈ sr_G := sr_in (List.mem_of_getElem? (i := 424) (by decide +kernel)) rfl
theorem lk_377 : Cond.methodLink RX4 23 arraycopyName ∈ sr_G := sr_in (List.mem_of_getElem? (i := 425) (by decide +kernel)) rfl
theorem lk_378 : Cond.static arraycopyName ∈ sr_G := sr_in (List.mem_of_getElem? (i := 426) (by decide +kernel)) rfl
theorem lk_379 : Cond.native arraycopyName ∈ sr_G := sr_in (List.mem_of_getElem? (i := 427) (by decide +kernel)) rfl
theorem lk_380 : Cond.methodLink RL 71 yX7_start ∈ sr_G := sr_in (List.mem_of_getElem? (i := 428) (by decide +kernel)) rfl
theorem lk_381 : Cond.instanceMethod yX7_start ∈ sr_G := sr_in (List.mem_of_getElem? (i := 429) (by decide +kernel)) rfl
theorem lk_382 : Cond.selects RX7 yX7_start yX7_start ∈ sr_G := sr_in (List.mem_of_getElem? (i := 430) (by decide +kernel)) rfl
theorem lk_383 : Cond.code yX7_start cX7_start 3 (Option.some FieldType.int) ∈ sr_G := sr_in (List.mem_of_getElem? (i := 431) (by decide +kernel)) rfl
theorem lk_384 : Cond.methodLink RL 75 yX7_hold ∈ sr_G := sr_in (List.mem_of_getElem? (i := 432) (by decide +kernel)) rfl
theorem lk_385 : Cond.instanceMethod yX7_hold ∈ sr_G := sr_in (List.mem_of_getElem? (i := 433) (by decide +kernel)) rfl
theorem lk_386 : Cond.selects RX7 yX7_hold yX7_hold ∈ sr_G := sr_in (List.mem_of_getElem? (i := 434) (by decide +kernel)) rfl
theorem lk_387 : Cond.code yX7_hold cX7_hold 2 (Option.some FieldType.int) ∈ sr_G := sr_in (List.mem_of_getElem? (i := 435) (by decide +kernel)) rfl
theorem lk_388 : Cond.methodLink RX7 124 yX7_move ∈ sr_G := sr_in (List.mem_of_getElem? (i := 436) (by decide +kernel)) rfl
theorem lk_390 : Cond.instanceMethod yX7_move ∈ sr_G := sr_in (List.mem_of_getElem? (i := 438) (by decide +kernel)) rfl
theorem lk_391 : Cond.code yX7_move cX7_move 6 (Option.some FieldType.int) ∈ sr_G := sr_in (List.mem_of_getElem? (i := 439) (by decide +kernel)) rfl
theorem lk_392 : Cond.methodLink RX7 128 yX1_become ∈ sr_G := sr_in (List.mem_of_getElem? (i := 440) (by decide +kernel)) rfl
theorem lk_393 : Cond.instanceMethod yX1_become ∈ sr_G := sr_in (List.mem_of_getElem? (i := 441) (by decide +kernel)) rfl
theorem lk_394 : Cond.selects RX1 yX1_become yX1_become ∈ sr_G := sr_in (List.mem_of_getElem? (i := 442) (by decide +kernel)) rfl
theorem lk_395 : Cond.code yX1_become cX1_become 4 (Option.none : Option FieldType) ∈ sr_G := sr_in (List.mem_of_getElem? (i := 443) (by decide +kernel)) rfl
theorem lk_396 : Cond.methodLink RX1 127 yX3_put ∈ sr_G := sr_in (List.mem_of_getElem? (i := 444) (by decide +kernel)) rfl
theorem lk_397 : Cond.instanceMethod yX3_put ∈ sr_G := sr_in (List.mem_of_getElem? (i := 445) (by decide +kernel)) rfl
theorem lk_398 : Cond.selects RX3 yX3_put yX3_put ∈ sr_G := sr_in (List.mem_of_getElem? (i := 446) (by decide +kernel)) rfl
theorem lk_399 : Cond.code yX3_put cX3_put 6 (Option.none : Option FieldType) ∈ sr_G := sr_in (List.mem_of_getElem? (i := 447) (by decide +kernel)) rfl
theorem lk_400 : Cond.methodLink RX3 22 yX3_placeOf ∈ sr_G := sr_in (List.mem_of_getElem? (i := 448) (by decide +kernel)) rfl
theorem lk_402 : Cond.instanceMethod yX3_placeOf ∈ sr_G := sr_in (List.mem_of_getElem? (i := 450) (by decide +kernel)) rfl
theorem lk_403 : Cond.code yX3_placeOf cX3_placeOf 3 (Option.some FieldType.int) ∈ sr_G := sr_in (List.mem_of_getElem? (i := 451) (by decide +kernel)) rfl
theorem lk_404 : Cond.methodLinkNest RX3 29 yX7_isWithin RX7 ∈ lw_tbl := List.mem_of_getElem? (i := 452) (by decide +kernel)
theorem lk_405 : Cond.methodLink RL 79 yX7_resume ∈ sr_G := sr_in (List.mem_of_getElem? (i := 453) (by decide +kernel)) rfl
theorem lk_406 : Cond.instanceMethod yX7_resume ∈ sr_G := sr_in (List.mem_of_getElem? (i := 454) (by decide +kernel)) rfl
theorem lk_407 : Cond.selects RX7 yX7_resume yX7_resume ∈ sr_G := sr_in (List.mem_of_getElem? (i := 455) (by decide +kernel)) rfl
theorem lk_408 : Cond.code yX7_resume cX7_resume 2 (Option.some FieldType.int) ∈ sr_G := sr_in (List.mem_of_getElem? (i := 456) (by decide +kernel)) rfl
theorem lk_409 : Cond.methodLink RL 83 yX7_turnBack ∈ sr_G := sr_in (List.mem_of_getElem? (i := 457) (by decide +kernel)) rfl
theorem lk_410 : Cond.instanceMethod yX7_turnBack ∈ sr_G := sr_in (List.mem_of_getElem? (i := 458) (by decide +kernel)) rfl
theorem lk_411 : Cond.selects RX7 yX7_turnBack yX7_turnBack ∈ sr_G := sr_in (List.mem_of_getElem? (i := 459) (by decide +kernel)) rfl
theorem lk_412 : Cond.code yX7_turnBack cX7_turnBack 2 (Option.some FieldType.int) ∈ sr_G := sr_in (List.mem_of_getElem? (i := 460) (by decide +kernel)) rfl
theorem lk_413 : Cond.methodLink RL 87 yX7_report ∈ sr_G := sr_in (List.mem_of_getElem? (i := 461) (by decide +kernel)) rfl
theorem lk_414 : Cond.instanceMethod yX7_report ∈ sr_G := sr_in (List.mem_of_getElem? (i := 462) (by decide +kernel)) rfl
theorem lk_415 : Cond.selects RX7 yX7_report yX7_report ∈ sr_G := sr_in (List.mem_of_getElem? (i := 463) (by decide +kernel)) rfl
theorem lk_416 : Cond.code yX7_report cX7_report 4 (Option.some FieldType.int) ∈ sr_G := sr_in (List.mem_of_getElem? (i := 464) (by decide +kernel)) rfl
theorem lk_417 : Cond.methodLink RX7 135 yX1_isCell ∈ sr_G := sr_in (List.mem_of_getElem? (i := 465) (by decide +kernel)) rfl
theorem lk_418 : Cond.instanceMethod yX1_isCell ∈ sr_G := sr_in (List.mem_of_getElem? (i := 466) (by decide +kernel)) rfl
theorem lk_419 : Cond.selects RX1 yX1_isCell yX1_isCell ∈ sr_G := sr_in (List.mem_of_getElem? (i := 467) (by decide +kernel)) rfl
theorem lk_420 : Cond.code yX1_isCell cX1_isCell 2 (Option.some FieldType.boolean) ∈ sr_G := sr_in (List.mem_of_getElem? (i := 468) (by decide +kernel)) rfl
theorem lk_421 : Cond.methodLink RX7 138 yX1_takeProbes ∈ sr_G := sr_in (List.mem_of_getElem? (i := 469) (by decide +kernel)) rfl
theorem lk_422 : Cond.instanceMethod yX1_takeProbes ∈ sr_G := sr_in (List.mem_of_getElem? (i := 470) (by decide +kernel)) rfl
theorem lk_423 : Cond.selects RX1 yX1_takeProbes yX1_takeProbes ∈ sr_G := sr_in (List.mem_of_getElem? (i := 471) (by decide +kernel)) rfl
theorem lk_424 : Cond.code yX1_takeProbes cX1_takeProbes 6 (Option.some FieldType.int) ∈ sr_G := sr_in (List.mem_of_getElem? (i := 472) (by decide +kernel)) rfl
theorem lk_425 : Cond.methodLink RX1 80 yX0_takesProbes ∈ sr_G := sr_in (List.mem_of_getElem? (i := 473) (by decide +kernel)) rfl
theorem lk_426 : Cond.instanceMethod yX0_takesProbes ∈ sr_G := sr_in (List.mem_of_getElem? (i := 474) (by decide +kernel)) rfl
theorem lk_427 : Cond.selects RX0 yX0_takesProbes yX0_takesProbes ∈ sr_G := sr_in (List.mem_of_getElem? (i := 475) (by decide +kernel)) rfl
theorem lk_428 : Cond.code yX0_takesProbes cX0_takesProbes 4 (Option.some FieldType.boolean) ∈ sr_G := sr_in (List.mem_of_getElem? (i := 476) (by decide +kernel)) rfl
theorem lk_429 : Cond.methodLink RX0 69 yX0_isWatched ∈ sr_G := sr_in (List.mem_of_getElem? (i := 477) (by decide +kernel)) rfl
theorem lk_430 : Cond.instanceMethod yX0_isWatched ∈ sr_G := sr_in (List.mem_of_getElem? (i := 478) (by decide +kernel)) rfl
theorem lk_431 : Cond.selects RX0 yX0_isWatched yX0_isWatched ∈ sr_G := sr_in (List.mem_of_getElem? (i := 479) (by decide +kernel)) rfl
theorem lk_432 : Cond.code yX0_isWatched cX0_isWatched 1 (Option.some FieldType.boolean) ∈ sr_G := sr_in (List.mem_of_getElem? (i := 480) (by decide +kernel)) rfl
theorem lk_433 : Cond.methodLink RX0 73 yX0_isAt ∈ sr_G := sr_in (List.mem_of_getElem? (i := 481) (by decide +kernel)) rfl
theorem lk_434 : Cond.instanceMethod yX0_isAt ∈ sr_G := sr_in (List.mem_of_getElem? (i := 482) (by decide +kernel)) rfl
theorem lk_435 : Cond.selects RX0 yX0_isAt yX0_isAt ∈ sr_G := sr_in (List.mem_of_getElem? (i := 483) (by decide +kernel)) rfl
theorem lk_436 : Cond.code yX0_isAt cX0_isAt 2 (Option.some FieldType.boolean) ∈ sr_G := sr_in (List.mem_of_getElem? (i := 484) (by decide +kernel)) rfl
theorem lk_437 : Cond.methodLink RX0 65 yX4_cellsOfFirst ∈ sr_G := sr_in (List.mem_of_getElem? (i := 485) (by decide +kernel)) rfl
theorem lk_438 : Cond.methodLink RX0 77 yX6_takesTreated ∈ sr_G := sr_in (List.mem_of_getElem? (i := 486) (by decide +kernel)) rfl
theorem lk_439 : Cond.instanceMethod yX6_takesTreated ∈ sr_G := sr_in (List.mem_of_getElem? (i := 487) (by decide +kernel)) rfl
theorem lk_440 : Cond.selects RX6 yX6_takesTreated yX6_takesTreated ∈ sr_G := sr_in (List.mem_of_getElem? (i := 488) (by decide +kernel)) rfl
theorem lk_441 : Cond.code yX6_takesTreated cX6_takesTreated 3 (Option.some FieldType.boolean) ∈ sr_G := sr_in (List.mem_of_getElem? (i := 489) (by decide +kernel)) rfl
theorem lk_442 : Cond.methodLink RX6 31 yX6_treated ∈ sr_G := sr_in (List.mem_of_getElem? (i := 490) (by decide +kernel)) rfl
theorem lk_443 : Cond.instanceMethod yX6_treated ∈ sr_G := sr_in (List.mem_of_getElem? (i := 491) (by decide +kernel)) rfl
theorem lk_444 : Cond.selects RX6 yX6_treated yX6_treated ∈ sr_G := sr_in (List.mem_of_getElem? (i := 492) (by decide +kernel)) rfl
theorem lk_445 : Cond.code yX6_treated cX6_treated 1 (Option.some FieldType.int) ∈ sr_G := sr_in (List.mem_of_getElem? (i := 493) (by decide +kernel)) rfl
theorem lk_446 : Cond.methodLink RX6 35 yX6_computeChance ∈ sr_G := sr_in (List.mem_of_getElem? (i := 494) (by decide +kernel)) rfl
theorem lk_448 : Cond.instanceMethod yX6_computeChance ∈ sr_G := sr_in (List.mem_of_getElem? (i := 496) (by decide +kernel)) rfl
theorem lk_449 : Cond.code yX6_computeChance cX6_computeChance 10 (Option.none : Option FieldType) ∈ sr_G := sr_in (List.mem_of_getElem? (i := 497) (by decide +kernel)) rfl
theorem lk_450 : Cond.methodLink RX6 43 yX6_setsOf ∈ sr_G := sr_in (List.mem_of_getElem? (i := 498) (by decide +kernel)) rfl
theorem lk_451 : Cond.static yX6_setsOf ∈ sr_G := sr_in (List.mem_of_getElem? (i := 499) (by decide +kernel)) rfl
theorem lk_452 : Cond.code yX6_setsOf cX6_setsOf 6 (Option.some FieldType.long) ∈ sr_G := sr_in (List.mem_of_getElem? (i := 500) (by decide +kernel)) rfl
theorem lk_453 : Cond.methodLink RX6 51 yJ9_min_7cf53 ∈ sr_G := sr_in (List.mem_of_getElem? (i := 501) (by decide +kernel)) rfl
theorem lk_454 : Cond.static yJ9_min_7cf53 ∈ sr_G := sr_in (List.mem_of_getElem? (i := 502) (by decide +kernel)) rfl
theorem lk_455 : Cond.code yJ9_min_7cf53 cJ9_min_7cf53 2 (Option.some FieldType.int) ∈ sr_G := sr_in (List.mem_of_getElem? (i := 503) (by decide +kernel)) rfl
theorem lk_456 : Cond.methodLink RX6 47 yX6_commonDivisor ∈ sr_G := sr_in (List.mem_of_getElem? (i := 504) (by decide +kernel)) rfl
theorem lk_457 : Cond.static yX6_commonDivisor ∈ sr_G := sr_in (List.mem_of_getElem? (i := 505) (by decide +kernel)) rfl
theorem lk_458 : Cond.code yX6_commonDivisor cX6_commonDivisor 11 (Option.some FieldType.long) ∈ sr_G := sr_in (List.mem_of_getElem? (i := 506) (by decide +kernel)) rfl
theorem lk_459 : Cond.methodLink RX6 57 yJ9_max_f86c9 ∈ sr_G := sr_in (List.mem_of_getElem? (i := 507) (by decide +kernel)) rfl
theorem lk_460 : Cond.static yJ9_max_f86c9 ∈ sr_G := sr_in (List.mem_of_getElem? (i := 508) (by decide +kernel)) rfl
theorem lk_461 : Cond.code yJ9_max_f86c9 cJ9_max_f86c9 4 (Option.some FieldType.long) ∈ sr_G := sr_in (List.mem_of_getElem? (i := 509) (by decide +kernel)) rfl
theorem lk_462 : Cond.methodLink RX0 81 yX6_takesControl ∈ sr_G := sr_in (List.mem_of_getElem? (i := 510) (by decide +kernel)) rfl
theorem lk_463 : Cond.instanceMethod yX6_takesControl ∈ sr_G := sr_in (List.mem_of_getElem? (i := 511) (by decide +kernel)) rfl
theorem lk_464 : Cond.selects RX6 yX6_takesControl yX6_takesControl ∈ sr_G := sr_in (List.mem_of_getElem? (i := 512) (by decide +kernel)) rfl
theorem lk_465 : Cond.code yX6_takesControl cX6_takesControl 3 (Option.some FieldType.boolean) ∈ sr_G := sr_in (List.mem_of_getElem? (i := 513) (by decide +kernel)) rfl
theorem lk_466 : Cond.methodLink RX6 38 yX6_control ∈ sr_G := sr_in (List.mem_of_getElem? (i := 514) (by decide +kernel)) rfl
theorem lk_467 : Cond.instanceMethod yX6_control ∈ sr_G := sr_in (List.mem_of_getElem? (i := 515) (by decide +kernel)) rfl
theorem lk_468 : Cond.selects RX6 yX6_control yX6_control ∈ sr_G := sr_in (List.mem_of_getElem? (i := 516) (by decide +kernel)) rfl
theorem lk_469 : Cond.code yX6_control cX6_control 1 (Option.some FieldType.int) ∈ sr_G := sr_in (List.mem_of_getElem? (i := 517) (by decide +kernel)) rfl
theorem lk_470 : Cond.methodLink RL 91 yX7_pass ∈ sr_G := sr_in (List.mem_of_getElem? (i := 518) (by decide +kernel)) rfl
theorem lk_471 : Cond.instanceMethod yX7_pass ∈ sr_G := sr_in (List.mem_of_getElem? (i := 519) (by decide +kernel)) rfl
theorem lk_472 : Cond.selects RX7 yX7_pass yX7_pass ∈ sr_G := sr_in (List.mem_of_getElem? (i := 520) (by decide +kernel)) rfl
theorem lk_473 : Cond.code yX7_pass cX7_pass 4 (Option.some FieldType.int) ∈ sr_G := sr_in (List.mem_of_getElem? (i := 521) (by decide +kernel)) rfl
theorem lk_474 : Cond.methodLink RX7 151 yX1_passHour ∈ sr_G := sr_in (List.mem_of_getElem? (i := 522) (by decide +kernel)) rfl
theorem lk_475 : Cond.instanceMethod yX1_passHour ∈ sr_G := sr_in (List.mem_of_getElem? (i := 523) (by decide +kernel)) rfl
theorem lk_476 : Cond.selects RX1 yX1_passHour yX1_passHour ∈ sr_G := sr_in (List.mem_of_getElem? (i := 524) (by decide +kernel)) rfl
theorem lk_477 : Cond.code yX1_passHour cX1_passHour 2 (Option.none : Option FieldType) ∈ sr_G := sr_in (List.mem_of_getElem? (i := 525) (by decide +kernel)) rfl
theorem lk_478 : Cond.methodLink RX1 131 yX1_moveInHour ∈ sr_G := sr_in (List.mem_of_getElem? (i := 526) (by decide +kernel)) rfl
theorem lk_480 : Cond.instanceMethod yX1_moveInHour ∈ sr_G := sr_in (List.mem_of_getElem? (i := 528) (by decide +kernel)) rfl
theorem lk_481 : Cond.code yX1_moveInHour cX1_moveInHour 2 (Option.none : Option FieldType) ∈ sr_G := sr_in (List.mem_of_getElem? (i := 529) (by decide +kernel)) rfl
theorem lk_482 : Cond.methodLink RX1 134 yX1_hasBadChance ∈ sr_G := sr_in (List.mem_of_getElem? (i := 530) (by decide +kernel)) rfl
theorem lk_484 : Cond.instanceMethod yX1_hasBadChance ∈ sr_G := sr_in (List.mem_of_getElem? (i := 532) (by decide +kernel)) rfl
theorem lk_485 : Cond.code yX1_hasBadChance cX1_hasBadChance 2 (Option.some FieldType.boolean) ∈ sr_G := sr_in (List.mem_of_getElem? (i := 533) (by decide +kernel)) rfl
theorem lk_486 : Cond.methodLink RX1 150 yX0_isWatched ∈ sr_G := sr_in (List.mem_of_getElem? (i := 534) (by decide +kernel)) rfl
theorem lk_487 : Cond.methodLink RX1 157 yX6_isAtMost ∈ sr_G := sr_in (List.mem_of_getElem? (i := 535) (by decide +kernel)) rfl
theorem lk_488 : Cond.instanceMethod yX6_isAtMost ∈ sr_G := sr_in (List.mem_of_getElem? (i := 536) (by decide +kernel)) rfl
theorem lk_489 : Cond.selects RX6 yX6_isAtMost yX6_isAtMost ∈ sr_G := sr_in (List.mem_of_getElem? (i := 537) (by decide +kernel)) rfl
theorem lk_490 : Cond.code yX6_isAtMost cX6_isAtMost 2 (Option.some FieldType.boolean) ∈ sr_G := sr_in (List.mem_of_getElem? (i := 538) (by decide +kernel)) rfl
theorem lk_491 : Cond.constantLong RX6 41 1000 ∈ sr_G := sr_in (List.mem_of_getElem? (i := 539) (by decide +kernel)) rfl
theorem lk_492 : Cond.methodLink RX1 137 yX1_become ∈ sr_G := sr_in (List.mem_of_getElem? (i := 540) (by decide +kernel)) rfl
theorem lk_493 : Cond.methodLink RX1 141 yX1_turnStage ∈ sr_G := sr_in (List.mem_of_getElem? (i := 541) (by decide +kernel)) rfl
theorem lk_495 : Cond.instanceMethod yX1_turnStage ∈ sr_G := sr_in (List.mem_of_getElem? (i := 543) (by decide +kernel)) rfl
theorem lk_496 : Cond.code yX1_turnStage cX1_turnStage 2 (Option.none : Option FieldType) ∈ sr_G := sr_in (List.mem_of_getElem? (i := 544) (by decide +kernel)) rfl
theorem lk_497 : Cond.methodLink RX1 144 yX1_reasonOf ∈ sr_G := sr_in (List.mem_of_getElem? (i := 545) (by decide +kernel)) rfl
theorem lk_498 : Cond.instanceMethod yX1_reasonOf ∈ sr_G := sr_in (List.mem_of_getElem? (i := 546) (by decide +kernel)) rfl
theorem lk_499 : Cond.selects RX1 yX1_reasonOf yX1_reasonOf ∈ sr_G := sr_in (List.mem_of_getElem? (i := 547) (by decide +kernel)) rfl
theorem lk_500 : Cond.code yX1_reasonOf cX1_reasonOf 2 (Option.some FieldType.int) ∈ sr_G := sr_in (List.mem_of_getElem? (i := 548) (by decide +kernel)) rfl
theorem lk_501 : Cond.methodLink RX1 84 yX0_isUnderWay ∈ sr_G := sr_in (List.mem_of_getElem? (i := 549) (by decide +kernel)) rfl
theorem lk_502 : Cond.instanceMethod yX0_isUnderWay ∈ sr_G := sr_in (List.mem_of_getElem? (i := 550) (by decide +kernel)) rfl
theorem lk_503 : Cond.selects RX0 yX0_isUnderWay yX0_isUnderWay ∈ sr_G := sr_in (List.mem_of_getElem? (i := 551) (by decide +kernel)) rfl
theorem lk_504 : Cond.code yX0_isUnderWay cX0_isUnderWay 1 (Option.some FieldType.boolean) ∈ sr_G := sr_in (List.mem_of_getElem? (i := 552) (by decide +kernel)) rfl
theorem lk_505 : Cond.methodLink RX1 88 yX0_waitsAt ∈ sr_G := sr_in (List.mem_of_getElem? (i := 553) (by decide +kernel)) rfl
theorem lk_506 : Cond.instanceMethod yX0_waitsAt ∈ sr_G := sr_in (List.mem_of_getElem? (i := 554) (by decide +kernel)) rfl
theorem lk_507 : Cond.selects RX0 yX0_waitsAt yX0_waitsAt ∈ sr_G := sr_in (List.mem_of_getElem? (i := 555) (by decide +kernel)) rfl
theorem lk_508 : Cond.code yX0_waitsAt cX0_waitsAt 2 (Option.some FieldType.boolean) ∈ sr_G := sr_in (List.mem_of_getElem? (i := 556) (by decide +kernel)) rfl
theorem lk_509 : Cond.methodLink RX0 84 yX0_hoursSinceLatest ∈ sr_G := sr_in (List.mem_of_getElem? (i := 557) (by decide +kernel)) rfl
theorem lk_510 : Cond.instanceMethod yX0_hoursSinceLatest ∈ sr_G := sr_in (List.mem_of_getElem? (i := 558) (by decide +kernel)) rfl
theorem lk_511 : Cond.selects RX0 yX0_hoursSinceLatest yX0_hoursSinceLatest ∈ sr_G := sr_in (List.mem_of_getElem? (i := 559) (by decide +kernel)) rfl
theorem lk_512 : Cond.code yX0_hoursSinceLatest cX0_hoursSinceLatest 3 (Option.some FieldType.int) ∈ sr_G := sr_in (List.mem_of_getElem? (i := 560) (by decide +kernel)) rfl
theorem lk_513 : Cond.methodLink RX0 87 yX4_number ∈ sr_G := sr_in (List.mem_of_getElem? (i := 561) (by decide +kernel)) rfl
theorem lk_514 : Cond.methodLink RX1 91 yX1_allCells ∈ sr_G := sr_in (List.mem_of_getElem? (i := 562) (by decide +kernel)) rfl
theorem lk_515 : Cond.methodLink RX1 95 yX0_lacksSamples ∈ sr_G := sr_in (List.mem_of_getElem? (i := 563) (by decide +kernel)) rfl
theorem lk_516 : Cond.instanceMethod yX0_lacksSamples ∈ sr_G := sr_in (List.mem_of_getElem? (i := 564) (by decide +kernel)) rfl
theorem lk_517 : Cond.selects RX0 yX0_lacksSamples yX0_lacksSamples ∈ sr_G := sr_in (List.mem_of_getElem? (i := 565) (by decide +kernel)) rfl
theorem lk_518 : Cond.code yX0_lacksSamples cX0_lacksSamples 4 (Option.some FieldType.boolean) ∈ sr_G := sr_in (List.mem_of_getElem? (i := 566) (by decide +kernel)) rfl
theorem lk_519 : Cond.methodLink RX0 90 yX6_treated ∈ sr_G := sr_in (List.mem_of_getElem? (i := 567) (by decide +kernel)) rfl
theorem lk_520 : Cond.methodLink RX0 94 yX6_control ∈ sr_G := sr_in (List.mem_of_getElem? (i := 568) (by decide +kernel)) rfl
theorem lk_521 : Cond.methodLink RX1 98 yX0_hasFurtherStage ∈ sr_G := sr_in (List.mem_of_getElem? (i := 569) (by decide +kernel)) rfl
theorem lk_522 : Cond.instanceMethod yX0_hasFurtherStage ∈ sr_G := sr_in (List.mem_of_getElem? (i := 570) (by decide +kernel)) rfl
theorem lk_523 : Cond.selects RX0 yX0_hasFurtherStage yX0_hasFurtherStage ∈ sr_G := sr_in (List.mem_of_getElem? (i := 571) (by decide +kernel)) rfl
theorem lk_524 : Cond.code yX0_hasFurtherStage cX0_hasFurtherStage 1 (Option.some FieldType.boolean) ∈ sr_G := sr_in (List.mem_of_getElem? (i := 572) (by decide +kernel)) rfl
theorem lk_525 : Cond.methodLink RX1 101 yX2_covers ∈ sr_G := sr_in (List.mem_of_getElem? (i := 573) (by decide +kernel)) rfl
theorem lk_526 : Cond.instanceMethod yX2_covers ∈ sr_G := sr_in (List.mem_of_getElem? (i := 574) (by decide +kernel)) rfl
theorem lk_527 : Cond.selects RX2 yX2_covers yX2_covers ∈ sr_G := sr_in (List.mem_of_getElem? (i := 575) (by decide +kernel)) rfl
theorem lk_528 : Cond.code yX2_covers cX2_covers 3 (Option.some FieldType.boolean) ∈ sr_G := sr_in (List.mem_of_getElem? (i := 576) (by decide +kernel)) rfl
theorem lk_529 : Cond.methodLink RX1 107 yX1_reasonBeforeFirstStage ∈ sr_G := sr_in (List.mem_of_getElem? (i := 577) (by decide +kernel)) rfl
theorem lk_531 : Cond.instanceMethod yX1_reasonBeforeFirstStage ∈ sr_G := sr_in (List.mem_of_getElem? (i := 579) (by decide +kernel)) rfl
theorem lk_532 : Cond.code yX1_reasonBeforeFirstStage cX1_reasonBeforeFirstStage 2 (Option.some FieldType.int) ∈ sr_G := sr_in (List.mem_of_getElem? (i := 580) (by decide +kernel)) rfl
theorem lk_533 : Cond.methodLink RX1 114 yX1_lacksDone ∈ sr_G := sr_in (List.mem_of_getElem? (i := 581) (by decide +kernel)) rfl
theorem lk_535 : Cond.instanceMethod yX1_lacksDone ∈ sr_G := sr_in (List.mem_of_getElem? (i := 583) (by decide +kernel)) rfl
theorem lk_536 : Cond.code yX1_lacksDone cX1_lacksDone 3 (Option.some FieldType.boolean) ∈ sr_G := sr_in (List.mem_of_getElem? (i := 584) (by decide +kernel)) rfl
theorem lk_537 : Cond.methodLink RX1 120 yX1_meetsOtherRisk ∈ sr_G := sr_in (List.mem_of_getElem? (i := 585) (by decide +kernel)) rfl
theorem lk_539 : Cond.instanceMethod yX1_meetsOtherRisk ∈ sr_G := sr_in (List.mem_of_getElem? (i := 587) (by decide +kernel)) rfl
theorem lk_540 : Cond.code yX1_meetsOtherRisk cX1_meetsOtherRisk 4 (Option.some FieldType.boolean) ∈ sr_G := sr_in (List.mem_of_getElem? (i := 588) (by decide +kernel)) rfl
theorem lk_541 : Cond.methodLink RX1 147 yX1_goOn ∈ sr_G := sr_in (List.mem_of_getElem? (i := 589) (by decide +kernel)) rfl
theorem lk_543 : Cond.instanceMethod yX1_goOn ∈ sr_G := sr_in (List.mem_of_getElem? (i := 591) (by decide +kernel)) rfl
theorem lk_544 : Cond.code yX1_goOn cX1_goOn 2 (Option.none : Option FieldType) ∈ sr_G := sr_in (List.mem_of_getElem? (i := 592) (by decide +kernel)) rfl
theorem lk_545 : Cond.methodLink RX1 162 yX0_beginStage ∈ sr_G := sr_in (List.mem_of_getElem? (i := 593) (by decide +kernel)) rfl
theorem lk_546 : Cond.instanceMethod yX0_beginStage ∈ sr_G := sr_in (List.mem_of_getElem? (i := 594) (by decide +kernel)) rfl
theorem lk_547 : Cond.selects RX0 yX0_beginStage yX0_beginStage ∈ sr_G := sr_in (List.mem_of_getElem? (i := 595) (by decide +kernel)) rfl
theorem lk_548 : Cond.code yX0_beginStage cX0_beginStage 2 (Option.none : Option FieldType) ∈ sr_G := sr_in (List.mem_of_getElem? (i := 596) (by decide +kernel)) rfl
theorem lk_549 : Cond.methodLink RL 95 yX7_time ∈ sr_G := sr_in (List.mem_of_getElem? (i := 597) (by decide +kernel)) rfl
theorem lk_550 : Cond.instanceMethod yX7_time ∈ sr_G := sr_in (List.mem_of_getElem? (i := 598) (by decide +kernel)) rfl
theorem lk_551 : Cond.selects RX7 yX7_time yX7_time ∈ sr_G := sr_in (List.mem_of_getElem? (i := 599) (by decide +kernel)) rfl
theorem lk_552 : Cond.code yX7_time cX7_time 1 (Option.some FieldType.int) ∈ sr_G := sr_in (List.mem_of_getElem? (i := 600) (by decide +kernel)) rfl
theorem lk_553 : Cond.methodLink RL 99 yX7_change ∈ sr_G := sr_in (List.mem_of_getElem? (i := 601) (by decide +kernel)) rfl
theorem lk_554 : Cond.instanceMethod yX7_change ∈ sr_G := sr_in (List.mem_of_getElem? (i := 602) (by decide +kernel)) rfl
theorem lk_555 : Cond.selects RX7 yX7_change yX7_change ∈ sr_G := sr_in (List.mem_of_getElem? (i := 603) (by decide +kernel)) rfl
theorem lk_556 : Cond.code yX7_change cX7_change 4 (Option.some FieldType.int) ∈ sr_G := sr_in (List.mem_of_getElem? (i := 604) (by decide +kernel)) rfl
theorem lk_557 : Cond.methodLink RX7 157 yX0_hoursSinceLatest ∈ sr_G := sr_in (List.mem_of_getElem? (i := 605) (by decide +kernel)) rfl
theorem lk_558 : Cond.methodLink RX7 160 yX1_reasonOf ∈ sr_G := sr_in (List.mem_of_getElem? (i := 606) (by decide +kernel)) rfl
theorem lk_559 : Cond.methodLink RL 103 yX7_probes ∈ sr_G := sr_in (List.mem_of_getElem? (i := 607) (by decide +kernel)) rfl
theorem lk_560 : Cond.instanceMethod yX7_probes ∈ sr_G := sr_in (List.mem_of_getElem? (i := 608) (by decide +kernel)) rfl
theorem lk_561 : Cond.selects RX7 yX7_probes yX7_probes ∈ sr_G := sr_in (List.mem_of_getElem? (i := 609) (by decide +kernel)) rfl
theorem lk_562 : Cond.code yX7_probes cX7_probes 4 (Option.some FieldType.int) ∈ sr_G := sr_in (List.mem_of_getElem? (i := 610) (by decide +kernel)) rfl
theorem lk_563 : Cond.methodLink RL 107 yX7_chance ∈ sr_G := sr_in (List.mem_of_getElem? (i := 611) (by decide +kernel)) rfl
theorem lk_564 : Cond.instanceMethod yX7_chance ∈ sr_G := sr_in (List.mem_of_getElem? (i := 612) (by decide +kernel)) rfl
theorem lk_565 : Cond.selects RX7 yX7_chance yX7_chance ∈ sr_G := sr_in (List.mem_of_getElem? (i := 613) (by decide +kernel)) rfl
theorem lk_566 : Cond.code yX7_chance cX7_chance 4 (Option.some FieldType.long) ∈ sr_G := sr_in (List.mem_of_getElem? (i := 614) (by decide +kernel)) rfl
theorem lk_567 : Cond.constantLong RX7 186 (-11) ∈ sr_G := sr_in (List.mem_of_getElem? (i := 615) (by decide +kernel)) rfl
theorem lk_568 : Cond.methodLink RL 112 yX7_has ∈ sr_G := sr_in (List.mem_of_getElem? (i := 616) (by decide +kernel)) rfl
theorem lk_569 : Cond.instanceMethod yX7_has ∈ sr_G := sr_in (List.mem_of_getElem? (i := 617) (by decide +kernel)) rfl
theorem lk_570 : Cond.selects RX7 yX7_has yX7_has ∈ sr_G := sr_in (List.mem_of_getElem? (i := 618) (by decide +kernel)) rfl
theorem lk_571 : Cond.code yX7_has cX7_has 2 (Option.some FieldType.int) ∈ sr_G := sr_in (List.mem_of_getElem? (i := 619) (by decide +kernel)) rfl
theorem lk_572 : Cond.methodLink RX7 195 yX1_changesOf ∈ sr_G := sr_in (List.mem_of_getElem? (i := 620) (by decide +kernel)) rfl
theorem lk_573 : Cond.instanceMethod yX1_changesOf ∈ sr_G := sr_in (List.mem_of_getElem? (i := 621) (by decide +kernel)) rfl
theorem lk_574 : Cond.selects RX1 yX1_changesOf yX1_changesOf ∈ sr_G := sr_in (List.mem_of_getElem? (i := 622) (by decide +kernel)) rfl
theorem lk_575 : Cond.code yX1_changesOf cX1_changesOf 4 (Option.some FieldType.int) ∈ sr_G := sr_in (List.mem_of_getElem? (i := 623) (by decide +kernel)) rfl
theorem lk_576 : Cond.methodLink RX1 69 yX0_isAt ∈ sr_G := sr_in (List.mem_of_getElem? (i := 624) (by decide +kernel)) rfl
theorem lk_577 : Cond.methodLink RL 116 yX7_isFrozen ∈ sr_G := sr_in (List.mem_of_getElem? (i := 625) (by decide +kernel)) rfl
theorem lk_578 : Cond.instanceMethod yX7_isFrozen ∈ sr_G := sr_in (List.mem_of_getElem? (i := 626) (by decide +kernel)) rfl
theorem lk_579 : Cond.selects RX7 yX7_isFrozen yX7_isFrozen ∈ sr_G := sr_in (List.mem_of_getElem? (i := 627) (by decide +kernel)) rfl
theorem lk_580 : Cond.code yX7_isFrozen cX7_isFrozen 2 (Option.some FieldType.int) ∈ sr_G := sr_in (List.mem_of_getElem? (i := 628) (by decide +kernel)) rfl
theorem lk_581 : Cond.methodLink RX7 198 yX2_covers ∈ sr_G := sr_in (List.mem_of_getElem? (i := 629) (by decide +kernel)) rfl
theorem lk_582 : Cond.methodLink RL 120 yX7_forecast ∈ sr_G := sr_in (List.mem_of_getElem? (i := 630) (by decide +kernel)) rfl
theorem lk_583 : Cond.instanceMethod yX7_forecast ∈ sr_G := sr_in (List.mem_of_getElem? (i := 631) (by decide +kernel)) rfl
theorem lk_584 : Cond.selects RX7 yX7_forecast yX7_forecast ∈ sr_G := sr_in (List.mem_of_getElem? (i := 632) (by decide +kernel)) rfl
theorem lk_585 : Cond.code yX7_forecast cX7_forecast 4 (Option.some FieldType.int) ∈ sr_G := sr_in (List.mem_of_getElem? (i := 633) (by decide +kernel)) rfl
theorem lk_586 : Cond.methodLink RX7 201 yX1_copyFrom ∈ sr_G := sr_in (List.mem_of_getElem? (i := 634) (by decide +kernel)) rfl
theorem lk_587 : Cond.instanceMethod yX1_copyFrom ∈ sr_G := sr_in (List.mem_of_getElem? (i := 635) (by decide +kernel)) rfl
theorem lk_588 : Cond.selects RX1 yX1_copyFrom yX1_copyFrom ∈ sr_G := sr_in (List.mem_of_getElem? (i := 636) (by decide +kernel)) rfl
theorem lk_589 : Cond.code yX1_copyFrom cX1_copyFrom 3 (Option.none : Option FieldType) ∈ sr_G := sr_in (List.mem_of_getElem? (i := 637) (by decide +kernel)) rfl
theorem lk_590 : Cond.methodLink RX1 55 yX2_copyFrom ∈ sr_G := sr_in (List.mem_of_getElem? (i := 638) (by decide +kernel)) rfl
theorem lk_591 : Cond.instanceMethod yX2_copyFrom ∈ sr_G := sr_in (List.mem_of_getElem? (i := 639) (by decide +kernel)) rfl
theorem lk_592 : Cond.selects RX2 yX2_copyFrom yX2_copyFrom ∈ sr_G := sr_in (List.mem_of_getElem? (i := 640) (by decide +kernel)) rfl
theorem lk_593 : Cond.code yX2_copyFrom cX2_copyFrom 2 (Option.none : Option FieldType) ∈ sr_G := sr_in (List.mem_of_getElem? (i := 641) (by decide +kernel)) rfl
theorem lk_594 : Cond.methodLink RX2 22 arraycopyName ∈ sr_G := sr_in (List.mem_of_getElem? (i := 642) (by decide +kernel)) rfl
theorem lk_595 : Cond.methodLink RX1 59 yX3_copyFrom ∈ sr_G := sr_in (List.mem_of_getElem? (i := 643) (by decide +kernel)) rfl
theorem lk_596 : Cond.instanceMethod yX3_copyFrom ∈ sr_G := sr_in (List.mem_of_getElem? (i := 644) (by decide +kernel)) rfl
theorem lk_597 : Cond.selects RX3 yX3_copyFrom yX3_copyFrom ∈ sr_G := sr_in (List.mem_of_getElem? (i := 645) (by decide +kernel)) rfl
theorem lk_598 : Cond.code yX3_copyFrom cX3_copyFrom 2 (Option.none : Option FieldType) ∈ sr_G := sr_in (List.mem_of_getElem? (i := 646) (by decide +kernel)) rfl
theorem lk_599 : Cond.methodLink RX3 36 arraycopyName ∈ sr_G := sr_in (List.mem_of_getElem? (i := 647) (by decide +kernel)) rfl
theorem lk_600 : Cond.methodLink RX1 62 yX0_copyFrom ∈ sr_G := sr_in (List.mem_of_getElem? (i := 648) (by decide +kernel)) rfl
theorem lk_601 : Cond.instanceMethod yX0_copyFrom ∈ sr_G := sr_in (List.mem_of_getElem? (i := 649) (by decide +kernel)) rfl
theorem lk_602 : Cond.selects RX0 yX0_copyFrom yX0_copyFrom ∈ sr_G := sr_in (List.mem_of_getElem? (i := 650) (by decide +kernel)) rfl
theorem lk_603 : Cond.code yX0_copyFrom cX0_copyFrom 2 (Option.none : Option FieldType) ∈ sr_G := sr_in (List.mem_of_getElem? (i := 651) (by decide +kernel)) rfl
theorem lk_604 : Cond.methodLink RX0 52 yX4_copyFrom ∈ sr_G := sr_in (List.mem_of_getElem? (i := 652) (by decide +kernel)) rfl
theorem lk_605 : Cond.methodLink RX0 56 yX6_copyFrom ∈ sr_G := sr_in (List.mem_of_getElem? (i := 653) (by decide +kernel)) rfl
theorem lk_606 : Cond.instanceMethod yX6_copyFrom ∈ sr_G := sr_in (List.mem_of_getElem? (i := 654) (by decide +kernel)) rfl
theorem lk_607 : Cond.selects RX6 yX6_copyFrom yX6_copyFrom ∈ sr_G := sr_in (List.mem_of_getElem? (i := 655) (by decide +kernel)) rfl
theorem lk_608 : Cond.code yX6_copyFrom cX6_copyFrom 2 (Option.none : Option FieldType) ∈ sr_G := sr_in (List.mem_of_getElem? (i := 656) (by decide +kernel)) rfl
theorem lk_609 : Cond.methodLink RX0 59 arraycopyName ∈ sr_G := sr_in (List.mem_of_getElem? (i := 657) (by decide +kernel)) rfl
theorem lk_610 : Cond.methodLink RX7 204 yX1_isOver ∈ sr_G := sr_in (List.mem_of_getElem? (i := 658) (by decide +kernel)) rfl
theorem lk_611 : Cond.instanceMethod yX1_isOver ∈ sr_G := sr_in (List.mem_of_getElem? (i := 659) (by decide +kernel)) rfl
theorem lk_612 : Cond.selects RX1 yX1_isOver yX1_isOver ∈ sr_G := sr_in (List.mem_of_getElem? (i := 660) (by decide +kernel)) rfl
theorem lk_613 : Cond.code yX1_isOver cX1_isOver 3 (Option.some FieldType.boolean) ∈ sr_G := sr_in (List.mem_of_getElem? (i := 661) (by decide +kernel)) rfl
theorem lk_614 : Cond.methodLink RX1 73 yX1_find ∈ sr_G := sr_in (List.mem_of_getElem? (i := 662) (by decide +kernel)) rfl
theorem lk_615 : Cond.methodLink RL 124 yX7_entries ∈ sr_G := sr_in (List.mem_of_getElem? (i := 663) (by decide +kernel)) rfl
theorem lk_616 : Cond.instanceMethod yX7_entries ∈ sr_G := sr_in (List.mem_of_getElem? (i := 664) (by decide +kernel)) rfl
theorem lk_617 : Cond.selects RX7 yX7_entries yX7_entries ∈ sr_G := sr_in (List.mem_of_getElem? (i := 665) (by decide +kernel)) rfl
theorem lk_618 : Cond.code yX7_entries cX7_entries 1 (Option.some FieldType.int) ∈ sr_G := sr_in (List.mem_of_getElem? (i := 666) (by decide +kernel)) rfl
theorem lk_619 : Cond.methodLink RL 128 yX7_entry ∈ sr_G := sr_in (List.mem_of_getElem? (i := 667) (by decide +kernel)) rfl
theorem lk_620 : Cond.instanceMethod yX7_entry ∈ sr_G := sr_in (List.mem_of_getElem? (i := 668) (by decide +kernel)) rfl
theorem lk_621 : Cond.selects RX7 yX7_entry yX7_entry ∈ sr_G := sr_in (List.mem_of_getElem? (i := 669) (by decide +kernel)) rfl
theorem lk_622 : Cond.code yX7_entry cX7_entry 3 (Option.some FieldType.int) ∈ sr_G := sr_in (List.mem_of_getElem? (i := 670) (by decide +kernel)) rfl
theorem lk_623 : Cond.methodLink RX7 208 yX3_number ∈ sr_G := sr_in (List.mem_of_getElem? (i := 671) (by decide +kernel)) rfl
theorem lk_624 : Cond.instanceMethod yX3_number ∈ sr_G := sr_in (List.mem_of_getElem? (i := 672) (by decide +kernel)) rfl
theorem lk_625 : Cond.selects RX3 yX3_number yX3_number ∈ sr_G := sr_in (List.mem_of_getElem? (i := 673) (by decide +kernel)) rfl
theorem lk_626 : Cond.code yX3_number cX3_number 4 (Option.some FieldType.int) ∈ sr_G := sr_in (List.mem_of_getElem? (i := 674) (by decide +kernel)) rfl
theorem lk_627 : Cond.methodLink RL 132 yX7_count ∈ sr_G := sr_in (List.mem_of_getElem? (i := 675) (by decide +kernel)) rfl
theorem lk_628 : Cond.instanceMethod yX7_count ∈ sr_G := sr_in (List.mem_of_getElem? (i := 676) (by decide +kernel)) rfl
theorem lk_629 : Cond.selects RX7 yX7_count yX7_count ∈ sr_G := sr_in (List.mem_of_getElem? (i := 677) (by decide +kernel)) rfl
theorem lk_630 : Cond.code yX7_count cX7_count 3 (Option.some FieldType.int) ∈ sr_G := sr_in (List.mem_of_getElem? (i := 678) (by decide +kernel)) rfl
theorem lk_631 : Cond.methodLink RX7 209 yX3_countOf ∈ sr_G := sr_in (List.mem_of_getElem? (i := 679) (by decide +kernel)) rfl
theorem lk_632 : Cond.instanceMethod yX3_countOf ∈ sr_G := sr_in (List.mem_of_getElem? (i := 680) (by decide +kernel)) rfl
theorem lk_633 : Cond.selects RX3 yX3_countOf yX3_countOf ∈ sr_G := sr_in (List.mem_of_getElem? (i := 681) (by decide +kernel)) rfl
theorem lk_634 : Cond.code yX3_countOf cX3_countOf 6 (Option.some FieldType.int) ∈ sr_G := sr_in (List.mem_of_getElem? (i := 682) (by decide +kernel)) rfl
theorem lk_635 : Cond.methodLink RX3 33 yX3_number ∈ sr_G := sr_in (List.mem_of_getElem? (i := 683) (by decide +kernel)) rfl
theorem lk_636 : Cond.methodLink RL 136 yX7_save ∈ sr_G := sr_in (List.mem_of_getElem? (i := 684) (by decide +kernel)) rfl
theorem lk_637 : Cond.instanceMethod yX7_save ∈ sr_G := sr_in (List.mem_of_getElem? (i := 685) (by decide +kernel)) rfl
theorem lk_638 : Cond.selects RX7 yX7_save yX7_save ∈ sr_G := sr_in (List.mem_of_getElem? (i := 686) (by decide +kernel)) rfl
theorem lk_639 : Cond.code yX7_save cX7_save 2 (Option.some FieldType.int) ∈ sr_G := sr_in (List.mem_of_getElem? (i := 687) (by decide +kernel)) rfl
theorem lk_640 : Cond.methodLink RL 140 yX7_restore ∈ sr_G := sr_in (List.mem_of_getElem? (i := 688) (by decide +kernel)) rfl
theorem lk_641 : Cond.instanceMethod yX7_restore ∈ sr_G := sr_in (List.mem_of_getElem? (i := 689) (by decide +kernel)) rfl
theorem lk_642 : Cond.selects RX7 yX7_restore yX7_restore ∈ sr_G := sr_in (List.mem_of_getElem? (i := 690) (by decide +kernel)) rfl
theorem lk_643 : Cond.code yX7_restore cX7_restore 2 (Option.some FieldType.int) ∈ sr_G := sr_in (List.mem_of_getElem? (i := 691) (by decide +kernel)) rfl
theorem lk_644 : Cond.methodLink RL 144 yX7_checksum ∈ sr_G := sr_in (List.mem_of_getElem? (i := 692) (by decide +kernel)) rfl
theorem lk_645 : Cond.instanceMethod yX7_checksum ∈ sr_G := sr_in (List.mem_of_getElem? (i := 693) (by decide +kernel)) rfl
theorem lk_646 : Cond.selects RX7 yX7_checksum yX7_checksum ∈ sr_G := sr_in (List.mem_of_getElem? (i := 694) (by decide +kernel)) rfl
theorem lk_647 : Cond.code yX7_checksum cX7_checksum 5 (Option.some FieldType.long) ∈ sr_G := sr_in (List.mem_of_getElem? (i := 695) (by decide +kernel)) rfl
theorem lk_648 : Cond.constantLong RX7 212 79 ∈ sr_G := sr_in (List.mem_of_getElem? (i := 696) (by decide +kernel)) rfl
theorem lk_649 : Cond.methodLink RX7 214 yX7_mix ∈ sr_G := sr_in (List.mem_of_getElem? (i := 697) (by decide +kernel)) rfl
theorem lk_650 : Cond.static yX7_mix ∈ sr_G := sr_in (List.mem_of_getElem? (i := 698) (by decide +kernel)) rfl
theorem lk_651 : Cond.code yX7_mix cX7_mix 4 (Option.some FieldType.long) ∈ sr_G := sr_in (List.mem_of_getElem? (i := 699) (by decide +kernel)) rfl
theorem lk_652 : Cond.constantLong RX7 232 31 ∈ sr_G := sr_in (List.mem_of_getElem? (i := 700) (by decide +kernel)) rfl
theorem lk_653 : Cond.methodLink RX7 218 yX7_mixChange ∈ sr_G := sr_in (List.mem_of_getElem? (i := 701) (by decide +kernel)) rfl
theorem lk_655 : Cond.instanceMethod yX7_mixChange ∈ sr_G := sr_in (List.mem_of_getElem? (i := 703) (by decide +kernel)) rfl
theorem lk_656 : Cond.code yX7_mixChange cX7_mixChange 7 (Option.some FieldType.long) ∈ sr_G := sr_in (List.mem_of_getElem? (i := 704) (by decide +kernel)) rfl
theorem lk_657 : Cond.methodLink RX7 222 yX7_change ∈ sr_G := sr_in (List.mem_of_getElem? (i := 705) (by decide +kernel)) rfl
theorem lk_658 : Cond.methodLink RX7 225 yX7_probes ∈ sr_G := sr_in (List.mem_of_getElem? (i := 706) (by decide +kernel)) rfl
theorem lk_659 : Cond.methodLink RX7 228 yX7_chance ∈ sr_G := sr_in (List.mem_of_getElem? (i := 707) (by decide +kernel)) rfl
theorem lk_660 : Cond.classLink RL 10 RX8 ∈ sr_G := sr_in (List.mem_of_getElem? (i := 708) (by decide +kernel)) rfl
theorem lk_661 : Cond.instantiable RX8 15 ∈ sr_G := sr_in (List.mem_of_getElem? (i := 709) (by decide +kernel)) rfl
theorem lk_662 : Cond.methodLink RL 12 yX8_init ∈ sr_G := sr_in (List.mem_of_getElem? (i := 710) (by decide +kernel)) rfl
theorem lk_663 : Cond.instanceMethod yX8_init ∈ sr_G := sr_in (List.mem_of_getElem? (i := 711) (by decide +kernel)) rfl
theorem lk_664 : Cond.code yX8_init cX8_init 1 (Option.none : Option FieldType) ∈ sr_G := sr_in (List.mem_of_getElem? (i := 712) (by decide +kernel)) rfl
theorem lk_665 : Cond.methodLink RX8 1 objectInit ∈ sr_G := sr_in (List.mem_of_getElem? (i := 713) (by decide +kernel)) rfl
theorem lk_666 : Cond.fieldLink RX8 7 "StagedRolloutModel" "v" "[I" ∈ sr_G := sr_in (List.mem_of_getElem? (i := 714) (by decide +kernel)) rfl
theorem lk_667 : Cond.fieldLink RX8 13 "StagedRolloutModel" "spare" "[I" ∈ sr_G := sr_in (List.mem_of_getElem? (i := 715) (by decide +kernel)) rfl
theorem lk_668 : Cond.fieldLink RX8 16 "StagedRolloutModel" "kept" "[I" ∈ sr_G := sr_in (List.mem_of_getElem? (i := 716) (by decide +kernel)) rfl
theorem lk_669 : Cond.fieldLink RX8 19 "StagedRolloutModel" "isKept" "[Z" ∈ sr_G := sr_in (List.mem_of_getElem? (i := 717) (by decide +kernel)) rfl
theorem lk_670 : Cond.fieldLink RX8 23 "StagedRolloutModel" "text" "[I" ∈ sr_G := sr_in (List.mem_of_getElem? (i := 718) (by decide +kernel)) rfl
theorem lk_671 : Cond.fieldLink RX8 63 "StagedRolloutModel" "length" "I" ∈ sr_G := sr_in (List.mem_of_getElem? (i := 719) (by decide +kernel)) rfl
theorem lk_672 : Cond.fieldLink RX8 131 "StagedRolloutModel" "isForecast" "Z" ∈ sr_G := sr_in (List.mem_of_getElem? (i := 720) (by decide +kernel)) rfl
theorem lk_673 : Cond.fieldLink RX8 101 "StagedRolloutModel" "noted" "I" ∈ sr_G := sr_in (List.mem_of_getElem? (i := 721) (by decide +kernel)) rfl
theorem lk_674 : Cond.fieldLink RX8 67 "StagedRolloutModel" "place" "I" ∈ sr_G := sr_in (List.mem_of_getElem? (i := 722) (by decide +kernel)) rfl
theorem lk_675 : Cond.fieldLink RX8 26 "StagedRolloutModel" "told" "[I" ∈ sr_G := sr_in (List.mem_of_getElem? (i := 723) (by decide +kernel)) rfl
theorem lk_676 : Cond.fieldLink RX8 83 "StagedRolloutModel" "tellings" "I" ∈ sr_G := sr_in (List.mem_of_getElem? (i := 724) (by decide +kernel)) rfl
theorem lk_677 : Cond.fieldLink RX8 77 "StagedRolloutModel" "number" "I" ∈ sr_G := sr_in (List.mem_of_getElem? (i := 725) (by decide +kernel)) rfl
theorem lk_678 : Cond.fieldLink RX8 29 "StagedRolloutModel" "sets" "[J" ∈ sr_G := sr_in (List.mem_of_getElem? (i := 726) (by decide +kernel)) rfl
theorem lk_679 : Cond.fieldLink RX8 117 "StagedRolloutModel" "above" "J" ∈ sr_G := sr_in (List.mem_of_getElem? (i := 727) (by decide +kernel)) rfl
theorem lk_680 : Cond.fieldLink RX8 124 "StagedRolloutModel" "below" "J" ∈ sr_G := sr_in (List.mem_of_getElem? (i := 728) (by decide +kernel)) rfl
theorem lk_712 : Cond.arrayClass (FieldType.long) ∈ sr_G := sr_in (List.mem_of_getElem? (i := 760) (by decide +kernel)) rfl
theorem lk_713 : Cond.methodLink RL 17 yX8_begin ∈ sr_G := sr_in (List.mem_of_getElem? (i := 761) (by decide +kernel)) rfl
theorem lk_714 : Cond.instanceMethod yX8_begin ∈ sr_G := sr_in (List.mem_of_getElem? (i := 762) (by decide +kernel)) rfl
theorem lk_715 : Cond.selects RX8 yX8_begin yX8_begin ∈ sr_G := sr_in (List.mem_of_getElem? (i := 763) (by decide +kernel)) rfl
theorem lk_716 : Cond.code yX8_begin cX8_begin 5 (Option.some FieldType.int) ∈ sr_G := sr_in (List.mem_of_getElem? (i := 764) (by decide +kernel)) rfl
theorem lk_717 : Cond.methodLink RX8 37 yX8_in ∈ sr_G := sr_in (List.mem_of_getElem? (i := 765) (by decide +kernel)) rfl
theorem lk_718 : Cond.static yX8_in ∈ sr_G := sr_in (List.mem_of_getElem? (i := 766) (by decide +kernel)) rfl
theorem lk_719 : Cond.code yX8_in cX8_in 3 (Option.some FieldType.boolean) ∈ sr_G := sr_in (List.mem_of_getElem? (i := 767) (by decide +kernel)) rfl
theorem lk_720 : Cond.methodLink RL 21 yX8_setLimit ∈ sr_G := sr_in (List.mem_of_getElem? (i := 768) (by decide +kernel)) rfl
theorem lk_721 : Cond.instanceMethod yX8_setLimit ∈ sr_G := sr_in (List.mem_of_getElem? (i := 769) (by decide +kernel)) rfl
theorem lk_722 : Cond.selects RX8 yX8_setLimit yX8_setLimit ∈ sr_G := sr_in (List.mem_of_getElem? (i := 770) (by decide +kernel)) rfl
theorem lk_723 : Cond.code yX8_setLimit cX8_setLimit 2 (Option.some FieldType.int) ∈ sr_G := sr_in (List.mem_of_getElem? (i := 771) (by decide +kernel)) rfl
theorem lk_724 : Cond.methodLink RX8 41 yX8_puts ∈ sr_G := sr_in (List.mem_of_getElem? (i := 772) (by decide +kernel)) rfl
theorem lk_726 : Cond.instanceMethod yX8_puts ∈ sr_G := sr_in (List.mem_of_getElem? (i := 774) (by decide +kernel)) rfl
theorem lk_727 : Cond.code yX8_puts cX8_puts 4 (Option.some FieldType.int) ∈ sr_G := sr_in (List.mem_of_getElem? (i := 775) (by decide +kernel)) rfl
theorem lk_728 : Cond.methodLink RL 26 yX8_freeze ∈ sr_G := sr_in (List.mem_of_getElem? (i := 776) (by decide +kernel)) rfl
theorem lk_729 : Cond.instanceMethod yX8_freeze ∈ sr_G := sr_in (List.mem_of_getElem? (i := 777) (by decide +kernel)) rfl
theorem lk_730 : Cond.selects RX8 yX8_freeze yX8_freeze ∈ sr_G := sr_in (List.mem_of_getElem? (i := 778) (by decide +kernel)) rfl
theorem lk_731 : Cond.code yX8_freeze cX8_freeze 3 (Option.some FieldType.int) ∈ sr_G := sr_in (List.mem_of_getElem? (i := 779) (by decide +kernel)) rfl
theorem lk_732 : Cond.methodLink RL 31 yX8_thaw ∈ sr_G := sr_in (List.mem_of_getElem? (i := 780) (by decide +kernel)) rfl
theorem lk_733 : Cond.instanceMethod yX8_thaw ∈ sr_G := sr_in (List.mem_of_getElem? (i := 781) (by decide +kernel)) rfl
theorem lk_734 : Cond.selects RX8 yX8_thaw yX8_thaw ∈ sr_G := sr_in (List.mem_of_getElem? (i := 782) (by decide +kernel)) rfl
theorem lk_735 : Cond.code yX8_thaw cX8_thaw 1 (Option.some FieldType.int) ∈ sr_G := sr_in (List.mem_of_getElem? (i := 783) (by decide +kernel)) rfl
theorem lk_736 : Cond.methodLink RL 36 yX8_addChange ∈ sr_G := sr_in (List.mem_of_getElem? (i := 784) (by decide +kernel)) rfl
theorem lk_737 : Cond.instanceMethod yX8_addChange ∈ sr_G := sr_in (List.mem_of_getElem? (i := 785) (by decide +kernel)) rfl
theorem lk_738 : Cond.selects RX8 yX8_addChange yX8_addChange ∈ sr_G := sr_in (List.mem_of_getElem? (i := 786) (by decide +kernel)) rfl
theorem lk_739 : Cond.code yX8_addChange cX8_addChange 4 (Option.some FieldType.int) ∈ sr_G := sr_in (List.mem_of_getElem? (i := 787) (by decide +kernel)) rfl
theorem lk_740 : Cond.methodLink RX8 33 yX8_at ∈ sr_G := sr_in (List.mem_of_getElem? (i := 788) (by decide +kernel)) rfl
theorem lk_741 : Cond.static yX8_at ∈ sr_G := sr_in (List.mem_of_getElem? (i := 789) (by decide +kernel)) rfl
theorem lk_742 : Cond.code yX8_at cX8_at 2 (Option.some FieldType.int) ∈ sr_G := sr_in (List.mem_of_getElem? (i := 790) (by decide +kernel)) rfl
theorem lk_743 : Cond.methodLink RL 41 yX8_addStage ∈ sr_G := sr_in (List.mem_of_getElem? (i := 791) (by decide +kernel)) rfl
theorem lk_744 : Cond.instanceMethod yX8_addStage ∈ sr_G := sr_in (List.mem_of_getElem? (i := 792) (by decide +kernel)) rfl
theorem lk_745 : Cond.selects RX8 yX8_addStage yX8_addStage ∈ sr_G := sr_in (List.mem_of_getElem? (i := 793) (by decide +kernel)) rfl
theorem lk_746 : Cond.code yX8_addStage cX8_addStage 6 (Option.some FieldType.int) ∈ sr_G := sr_in (List.mem_of_getElem? (i := 794) (by decide +kernel)) rfl
theorem lk_747 : Cond.methodLink RX8 48 yX8_isChange ∈ sr_G := sr_in (List.mem_of_getElem? (i := 795) (by decide +kernel)) rfl
theorem lk_749 : Cond.instanceMethod yX8_isChange ∈ sr_G := sr_in (List.mem_of_getElem? (i := 797) (by decide +kernel)) rfl
theorem lk_750 : Cond.code yX8_isChange cX8_isChange 2 (Option.some FieldType.boolean) ∈ sr_G := sr_in (List.mem_of_getElem? (i := 798) (by decide +kernel)) rfl
theorem lk_751 : Cond.methodLink RX8 52 yX8_cellsOf ∈ sr_G := sr_in (List.mem_of_getElem? (i := 799) (by decide +kernel)) rfl
theorem lk_753 : Cond.instanceMethod yX8_cellsOf ∈ sr_G := sr_in (List.mem_of_getElem? (i := 801) (by decide +kernel)) rfl
theorem lk_754 : Cond.code yX8_cellsOf cX8_cellsOf 5 (Option.some FieldType.int) ∈ sr_G := sr_in (List.mem_of_getElem? (i := 802) (by decide +kernel)) rfl
theorem lk_755 : Cond.methodLink RX8 44 yX8_stageAt ∈ sr_G := sr_in (List.mem_of_getElem? (i := 803) (by decide +kernel)) rfl
theorem lk_756 : Cond.static yX8_stageAt ∈ sr_G := sr_in (List.mem_of_getElem? (i := 804) (by decide +kernel)) rfl
theorem lk_757 : Cond.code yX8_stageAt cX8_stageAt 3 (Option.some FieldType.int) ∈ sr_G := sr_in (List.mem_of_getElem? (i := 805) (by decide +kernel)) rfl
theorem lk_758 : Cond.methodLink RX8 55 yX8_adds ∈ sr_G := sr_in (List.mem_of_getElem? (i := 806) (by decide +kernel)) rfl
theorem lk_760 : Cond.instanceMethod yX8_adds ∈ sr_G := sr_in (List.mem_of_getElem? (i := 808) (by decide +kernel)) rfl
theorem lk_761 : Cond.code yX8_adds cX8_adds 6 (Option.none : Option FieldType) ∈ sr_G := sr_in (List.mem_of_getElem? (i := 809) (by decide +kernel)) rfl
theorem lk_762 : Cond.methodLink RL 45 yX8_putAfter ∈ sr_G := sr_in (List.mem_of_getElem? (i := 810) (by decide +kernel)) rfl
theorem lk_763 : Cond.instanceMethod yX8_putAfter ∈ sr_G := sr_in (List.mem_of_getElem? (i := 811) (by decide +kernel)) rfl
theorem lk_764 : Cond.selects RX8 yX8_putAfter yX8_putAfter ∈ sr_G := sr_in (List.mem_of_getElem? (i := 812) (by decide +kernel)) rfl
theorem lk_765 : Cond.code yX8_putAfter cX8_putAfter 3 (Option.some FieldType.int) ∈ sr_G := sr_in (List.mem_of_getElem? (i := 813) (by decide +kernel)) rfl
theorem lk_766 : Cond.methodLink RX8 59 yX8_size ∈ sr_G := sr_in (List.mem_of_getElem? (i := 814) (by decide +kernel)) rfl
theorem lk_767 : Cond.static yX8_size ∈ sr_G := sr_in (List.mem_of_getElem? (i := 815) (by decide +kernel)) rfl
theorem lk_768 : Cond.code yX8_size cX8_size 3 (Option.some FieldType.int) ∈ sr_G := sr_in (List.mem_of_getElem? (i := 816) (by decide +kernel)) rfl
theorem lk_769 : Cond.methodLink RL 49 yX8_changes ∈ sr_G := sr_in (List.mem_of_getElem? (i := 817) (by decide +kernel)) rfl
theorem lk_770 : Cond.instanceMethod yX8_changes ∈ sr_G := sr_in (List.mem_of_getElem? (i := 818) (by decide +kernel)) rfl
theorem lk_771 : Cond.selects RX8 yX8_changes yX8_changes ∈ sr_G := sr_in (List.mem_of_getElem? (i := 819) (by decide +kernel)) rfl
theorem lk_772 : Cond.code yX8_changes cX8_changes 1 (Option.some FieldType.int) ∈ sr_G := sr_in (List.mem_of_getElem? (i := 820) (by decide +kernel)) rfl
theorem lk_773 : Cond.methodLink RL 54 yX8_stage ∈ sr_G := sr_in (List.mem_of_getElem? (i := 821) (by decide +kernel)) rfl
theorem lk_774 : Cond.instanceMethod yX8_stage ∈ sr_G := sr_in (List.mem_of_getElem? (i := 822) (by decide +kernel)) rfl
theorem lk_775 : Cond.selects RX8 yX8_stage yX8_stage ∈ sr_G := sr_in (List.mem_of_getElem? (i := 823) (by decide +kernel)) rfl
theorem lk_776 : Cond.code yX8_stage cX8_stage 4 (Option.some FieldType.int) ∈ sr_G := sr_in (List.mem_of_getElem? (i := 824) (by decide +kernel)) rfl
theorem lk_777 : Cond.methodLink RL 58 yX8_append ∈ sr_G := sr_in (List.mem_of_getElem? (i := 825) (by decide +kernel)) rfl
theorem lk_778 : Cond.instanceMethod yX8_append ∈ sr_G := sr_in (List.mem_of_getElem? (i := 826) (by decide +kernel)) rfl
theorem lk_779 : Cond.selects RX8 yX8_append yX8_append ∈ sr_G := sr_in (List.mem_of_getElem? (i := 827) (by decide +kernel)) rfl
theorem lk_780 : Cond.code yX8_append cX8_append 2 (Option.some FieldType.int) ∈ sr_G := sr_in (List.mem_of_getElem? (i := 828) (by decide +kernel)) rfl
theorem lk_781 : Cond.methodLink RL 62 yX8_clearText ∈ sr_G := sr_in (List.mem_of_getElem? (i := 829) (by decide +kernel)) rfl
theorem lk_782 : Cond.instanceMethod yX8_clearText ∈ sr_G := sr_in (List.mem_of_getElem? (i := 830) (by decide +kernel)) rfl
theorem lk_783 : Cond.selects RX8 yX8_clearText yX8_clearText ∈ sr_G := sr_in (List.mem_of_getElem? (i := 831) (by decide +kernel)) rfl
theorem lk_784 : Cond.code yX8_clearText cX8_clearText 2 (Option.some FieldType.int) ∈ sr_G := sr_in (List.mem_of_getElem? (i := 832) (by decide +kernel)) rfl
theorem lk_785 : Cond.methodLink RL 66 yX8_faultPosition ∈ sr_G := sr_in (List.mem_of_getElem? (i := 833) (by decide +kernel)) rfl
theorem lk_786 : Cond.instanceMethod yX8_faultPosition ∈ sr_G := sr_in (List.mem_of_getElem? (i := 834) (by decide +kernel)) rfl
theorem lk_787 : Cond.selects RX8 yX8_faultPosition yX8_faultPosition ∈ sr_G := sr_in (List.mem_of_getElem? (i := 835) (by decide +kernel)) rfl
theorem lk_788 : Cond.code yX8_faultPosition cX8_faultPosition 1 (Option.some FieldType.int) ∈ sr_G := sr_in (List.mem_of_getElem? (i := 836) (by decide +kernel)) rfl
theorem lk_789 : Cond.methodLink RX8 97 yX8_isText ∈ sr_G := sr_in (List.mem_of_getElem? (i := 837) (by decide +kernel)) rfl
theorem lk_791 : Cond.instanceMethod yX8_isText ∈ sr_G := sr_in (List.mem_of_getElem? (i := 839) (by decide +kernel)) rfl
theorem lk_792 : Cond.code yX8_isText cX8_isText 3 (Option.some FieldType.boolean) ∈ sr_G := sr_in (List.mem_of_getElem? (i := 840) (by decide +kernel)) rfl
theorem lk_793 : Cond.methodLink RX8 94 yX8_isStage ∈ sr_G := sr_in (List.mem_of_getElem? (i := 841) (by decide +kernel)) rfl
theorem lk_795 : Cond.instanceMethod yX8_isStage ∈ sr_G := sr_in (List.mem_of_getElem? (i := 843) (by decide +kernel)) rfl
theorem lk_796 : Cond.code yX8_isStage cX8_isStage 3 (Option.some FieldType.boolean) ∈ sr_G := sr_in (List.mem_of_getElem? (i := 844) (by decide +kernel)) rfl
theorem lk_797 : Cond.methodLink RX8 86 yX8_cells ∈ sr_G := sr_in (List.mem_of_getElem? (i := 845) (by decide +kernel)) rfl
theorem lk_799 : Cond.instanceMethod yX8_cells ∈ sr_G := sr_in (List.mem_of_getElem? (i := 847) (by decide +kernel)) rfl
theorem lk_800 : Cond.code yX8_cells cX8_cells 5 (Option.some FieldType.boolean) ∈ sr_G := sr_in (List.mem_of_getElem? (i := 848) (by decide +kernel)) rfl
theorem lk_801 : Cond.methodLink RX8 74 yX8_digit ∈ sr_G := sr_in (List.mem_of_getElem? (i := 849) (by decide +kernel)) rfl
theorem lk_803 : Cond.instanceMethod yX8_digit ∈ sr_G := sr_in (List.mem_of_getElem? (i := 851) (by decide +kernel)) rfl
theorem lk_804 : Cond.code yX8_digit cX8_digit 1 (Option.some FieldType.int) ∈ sr_G := sr_in (List.mem_of_getElem? (i := 852) (by decide +kernel)) rfl
theorem lk_805 : Cond.methodLink RX8 70 yX8_here ∈ sr_G := sr_in (List.mem_of_getElem? (i := 853) (by decide +kernel)) rfl
theorem lk_807 : Cond.instanceMethod yX8_here ∈ sr_G := sr_in (List.mem_of_getElem? (i := 855) (by decide +kernel)) rfl
theorem lk_808 : Cond.code yX8_here cX8_here 1 (Option.some FieldType.int) ∈ sr_G := sr_in (List.mem_of_getElem? (i := 856) (by decide +kernel)) rfl
theorem lk_809 : Cond.methodLink RX8 80 yX8_isCell ∈ sr_G := sr_in (List.mem_of_getElem? (i := 857) (by decide +kernel)) rfl
theorem lk_811 : Cond.instanceMethod yX8_isCell ∈ sr_G := sr_in (List.mem_of_getElem? (i := 859) (by decide +kernel)) rfl
theorem lk_812 : Cond.code yX8_isCell cX8_isCell 2 (Option.some FieldType.boolean) ∈ sr_G := sr_in (List.mem_of_getElem? (i := 860) (by decide +kernel)) rfl
theorem lk_813 : Cond.methodLink RX8 89 yX8_takes ∈ sr_G := sr_in (List.mem_of_getElem? (i := 861) (by decide +kernel)) rfl
theorem lk_815 : Cond.instanceMethod yX8_takes ∈ sr_G := sr_in (List.mem_of_getElem? (i := 863) (by decide +kernel)) rfl
theorem lk_816 : Cond.code yX8_takes cX8_takes 3 (Option.some FieldType.boolean) ∈ sr_G := sr_in (List.mem_of_getElem? (i := 864) (by decide +kernel)) rfl
theorem lk_817 : Cond.methodLink RX8 92 yX8_number ∈ sr_G := sr_in (List.mem_of_getElem? (i := 865) (by decide +kernel)) rfl
theorem lk_819 : Cond.instanceMethod yX8_number ∈ sr_G := sr_in (List.mem_of_getElem? (i := 867) (by decide +kernel)) rfl
theorem lk_820 : Cond.code yX8_number cX8_number 4 (Option.some FieldType.boolean) ∈ sr_G := sr_in (List.mem_of_getElem? (i := 868) (by decide +kernel)) rfl
theorem lk_821 : Cond.methodLink RL 70 yX8_read ∈ sr_G := sr_in (List.mem_of_getElem? (i := 869) (by decide +kernel)) rfl
theorem lk_822 : Cond.instanceMethod yX8_read ∈ sr_G := sr_in (List.mem_of_getElem? (i := 870) (by decide +kernel)) rfl
theorem lk_823 : Cond.selects RX8 yX8_read yX8_read ∈ sr_G := sr_in (List.mem_of_getElem? (i := 871) (by decide +kernel)) rfl
theorem lk_824 : Cond.code yX8_read cX8_read 3 (Option.some FieldType.int) ∈ sr_G := sr_in (List.mem_of_getElem? (i := 872) (by decide +kernel)) rfl
theorem lk_825 : Cond.methodLink RL 74 yX8_start ∈ sr_G := sr_in (List.mem_of_getElem? (i := 873) (by decide +kernel)) rfl
theorem lk_826 : Cond.instanceMethod yX8_start ∈ sr_G := sr_in (List.mem_of_getElem? (i := 874) (by decide +kernel)) rfl
theorem lk_827 : Cond.selects RX8 yX8_start yX8_start ∈ sr_G := sr_in (List.mem_of_getElem? (i := 875) (by decide +kernel)) rfl
theorem lk_828 : Cond.code yX8_start cX8_start 2 (Option.some FieldType.int) ∈ sr_G := sr_in (List.mem_of_getElem? (i := 876) (by decide +kernel)) rfl
theorem lk_829 : Cond.methodLink RL 78 yX8_hold ∈ sr_G := sr_in (List.mem_of_getElem? (i := 877) (by decide +kernel)) rfl
theorem lk_830 : Cond.instanceMethod yX8_hold ∈ sr_G := sr_in (List.mem_of_getElem? (i := 878) (by decide +kernel)) rfl
theorem lk_831 : Cond.selects RX8 yX8_hold yX8_hold ∈ sr_G := sr_in (List.mem_of_getElem? (i := 879) (by decide +kernel)) rfl
theorem lk_832 : Cond.code yX8_hold cX8_hold 2 (Option.some FieldType.int) ∈ sr_G := sr_in (List.mem_of_getElem? (i := 880) (by decide +kernel)) rfl
theorem lk_833 : Cond.methodLink RX8 108 yX8_becomes ∈ sr_G := sr_in (List.mem_of_getElem? (i := 881) (by decide +kernel)) rfl
theorem lk_835 : Cond.instanceMethod yX8_becomes ∈ sr_G := sr_in (List.mem_of_getElem? (i := 883) (by decide +kernel)) rfl
theorem lk_836 : Cond.code yX8_becomes cX8_becomes 4 (Option.some FieldType.int) ∈ sr_G := sr_in (List.mem_of_getElem? (i := 884) (by decide +kernel)) rfl
theorem lk_837 : Cond.methodLink RX8 104 yX8_notes ∈ sr_G := sr_in (List.mem_of_getElem? (i := 885) (by decide +kernel)) rfl
theorem lk_839 : Cond.instanceMethod yX8_notes ∈ sr_G := sr_in (List.mem_of_getElem? (i := 887) (by decide +kernel)) rfl
theorem lk_840 : Cond.code yX8_notes cX8_notes 5 (Option.none : Option FieldType) ∈ sr_G := sr_in (List.mem_of_getElem? (i := 888) (by decide +kernel)) rfl
theorem lk_841 : Cond.methodLink RL 82 yX8_resume ∈ sr_G := sr_in (List.mem_of_getElem? (i := 889) (by decide +kernel)) rfl
theorem lk_842 : Cond.instanceMethod yX8_resume ∈ sr_G := sr_in (List.mem_of_getElem? (i := 890) (by decide +kernel)) rfl
theorem lk_843 : Cond.selects RX8 yX8_resume yX8_resume ∈ sr_G := sr_in (List.mem_of_getElem? (i := 891) (by decide +kernel)) rfl
theorem lk_844 : Cond.code yX8_resume cX8_resume 2 (Option.some FieldType.int) ∈ sr_G := sr_in (List.mem_of_getElem? (i := 892) (by decide +kernel)) rfl
theorem lk_845 : Cond.methodLink RL 86 yX8_turnBack ∈ sr_G := sr_in (List.mem_of_getElem? (i := 893) (by decide +kernel)) rfl
theorem lk_846 : Cond.instanceMethod yX8_turnBack ∈ sr_G := sr_in (List.mem_of_getElem? (i := 894) (by decide +kernel)) rfl
theorem lk_847 : Cond.selects RX8 yX8_turnBack yX8_turnBack ∈ sr_G := sr_in (List.mem_of_getElem? (i := 895) (by decide +kernel)) rfl
theorem lk_848 : Cond.code yX8_turnBack cX8_turnBack 2 (Option.some FieldType.int) ∈ sr_G := sr_in (List.mem_of_getElem? (i := 896) (by decide +kernel)) rfl
theorem lk_849 : Cond.methodLink RL 90 yX8_report ∈ sr_G := sr_in (List.mem_of_getElem? (i := 897) (by decide +kernel)) rfl
theorem lk_850 : Cond.instanceMethod yX8_report ∈ sr_G := sr_in (List.mem_of_getElem? (i := 898) (by decide +kernel)) rfl
theorem lk_851 : Cond.selects RX8 yX8_report yX8_report ∈ sr_G := sr_in (List.mem_of_getElem? (i := 899) (by decide +kernel)) rfl
theorem lk_852 : Cond.code yX8_report cX8_report 7 (Option.some FieldType.int) ∈ sr_G := sr_in (List.mem_of_getElem? (i := 900) (by decide +kernel)) rfl
theorem lk_853 : Cond.methodLink RX8 111 yX8_reached ∈ sr_G := sr_in (List.mem_of_getElem? (i := 901) (by decide +kernel)) rfl
theorem lk_855 : Cond.instanceMethod yX8_reached ∈ sr_G := sr_in (List.mem_of_getElem? (i := 903) (by decide +kernel)) rfl
theorem lk_856 : Cond.code yX8_reached cX8_reached 2 (Option.some FieldType.int) ∈ sr_G := sr_in (List.mem_of_getElem? (i := 904) (by decide +kernel)) rfl
theorem lk_857 : Cond.methodLink RX8 114 yX8_isOut ∈ sr_G := sr_in (List.mem_of_getElem? (i := 905) (by decide +kernel)) rfl
theorem lk_859 : Cond.instanceMethod yX8_isOut ∈ sr_G := sr_in (List.mem_of_getElem? (i := 907) (by decide +kernel)) rfl
theorem lk_860 : Cond.code yX8_isOut cX8_isOut 2 (Option.some FieldType.boolean) ∈ sr_G := sr_in (List.mem_of_getElem? (i := 908) (by decide +kernel)) rfl
theorem lk_861 : Cond.methodLink RL 94 yX8_pass ∈ sr_G := sr_in (List.mem_of_getElem? (i := 909) (by decide +kernel)) rfl
theorem lk_862 : Cond.instanceMethod yX8_pass ∈ sr_G := sr_in (List.mem_of_getElem? (i := 910) (by decide +kernel)) rfl
theorem lk_863 : Cond.selects RX8 yX8_pass yX8_pass ∈ sr_G := sr_in (List.mem_of_getElem? (i := 911) (by decide +kernel)) rfl
theorem lk_864 : Cond.code yX8_pass cX8_pass 3 (Option.some FieldType.int) ∈ sr_G := sr_in (List.mem_of_getElem? (i := 912) (by decide +kernel)) rfl
theorem lk_865 : Cond.methodLink RX8 164 yX8_passes ∈ sr_G := sr_in (List.mem_of_getElem? (i := 913) (by decide +kernel)) rfl
theorem lk_867 : Cond.instanceMethod yX8_passes ∈ sr_G := sr_in (List.mem_of_getElem? (i := 915) (by decide +kernel)) rfl
theorem lk_868 : Cond.code yX8_passes cX8_passes 3 (Option.none : Option FieldType) ∈ sr_G := sr_in (List.mem_of_getElem? (i := 916) (by decide +kernel)) rfl
theorem lk_869 : Cond.methodLink RX8 152 yX8_isBad ∈ sr_G := sr_in (List.mem_of_getElem? (i := 917) (by decide +kernel)) rfl
theorem lk_871 : Cond.instanceMethod yX8_isBad ∈ sr_G := sr_in (List.mem_of_getElem? (i := 919) (by decide +kernel)) rfl
theorem lk_872 : Cond.code yX8_isBad cX8_isBad 2 (Option.some FieldType.boolean) ∈ sr_G := sr_in (List.mem_of_getElem? (i := 920) (by decide +kernel)) rfl
theorem lk_873 : Cond.methodLink RX8 127 yX8_findChance ∈ sr_G := sr_in (List.mem_of_getElem? (i := 921) (by decide +kernel)) rfl
theorem lk_875 : Cond.instanceMethod yX8_findChance ∈ sr_G := sr_in (List.mem_of_getElem? (i := 923) (by decide +kernel)) rfl
theorem lk_876 : Cond.code yX8_findChance cX8_findChance 7 (Option.none : Option FieldType) ∈ sr_G := sr_in (List.mem_of_getElem? (i := 924) (by decide +kernel)) rfl
theorem lk_877 : Cond.methodLink RX8 121 yX8_sets ∈ sr_G := sr_in (List.mem_of_getElem? (i := 925) (by decide +kernel)) rfl
theorem lk_879 : Cond.instanceMethod yX8_sets ∈ sr_G := sr_in (List.mem_of_getElem? (i := 927) (by decide +kernel)) rfl
theorem lk_880 : Cond.code yX8_sets cX8_sets 5 (Option.some FieldType.long) ∈ sr_G := sr_in (List.mem_of_getElem? (i := 928) (by decide +kernel)) rfl
theorem lk_881 : Cond.constantLong RX8 135 1000 ∈ sr_G := sr_in (List.mem_of_getElem? (i := 929) (by decide +kernel)) rfl
theorem lk_882 : Cond.methodLink RX8 155 yX8_turnsOn ∈ sr_G := sr_in (List.mem_of_getElem? (i := 930) (by decide +kernel)) rfl
theorem lk_884 : Cond.instanceMethod yX8_turnsOn ∈ sr_G := sr_in (List.mem_of_getElem? (i := 932) (by decide +kernel)) rfl
theorem lk_885 : Cond.code yX8_turnsOn cX8_turnsOn 3 (Option.none : Option FieldType) ∈ sr_G := sr_in (List.mem_of_getElem? (i := 933) (by decide +kernel)) rfl
theorem lk_886 : Cond.methodLink RX8 158 yX8_reason ∈ sr_G := sr_in (List.mem_of_getElem? (i := 934) (by decide +kernel)) rfl
theorem lk_888 : Cond.instanceMethod yX8_reason ∈ sr_G := sr_in (List.mem_of_getElem? (i := 936) (by decide +kernel)) rfl
theorem lk_889 : Cond.code yX8_reason cX8_reason 4 (Option.some FieldType.int) ∈ sr_G := sr_in (List.mem_of_getElem? (i := 937) (by decide +kernel)) rfl
theorem lk_890 : Cond.methodLink RX8 137 yX8_hoursSince ∈ sr_G := sr_in (List.mem_of_getElem? (i := 938) (by decide +kernel)) rfl
theorem lk_892 : Cond.instanceMethod yX8_hoursSince ∈ sr_G := sr_in (List.mem_of_getElem? (i := 940) (by decide +kernel)) rfl
theorem lk_893 : Cond.code yX8_hoursSince cX8_hoursSince 3 (Option.some FieldType.int) ∈ sr_G := sr_in (List.mem_of_getElem? (i := 941) (by decide +kernel)) rfl
theorem lk_894 : Cond.methodLink RX8 140 yX8_lacks ∈ sr_G := sr_in (List.mem_of_getElem? (i := 942) (by decide +kernel)) rfl
theorem lk_896 : Cond.instanceMethod yX8_lacks ∈ sr_G := sr_in (List.mem_of_getElem? (i := 944) (by decide +kernel)) rfl
theorem lk_897 : Cond.code yX8_lacks cX8_lacks 5 (Option.some FieldType.boolean) ∈ sr_G := sr_in (List.mem_of_getElem? (i := 945) (by decide +kernel)) rfl
theorem lk_898 : Cond.methodLink RX8 143 yX8_isFrozenHour ∈ sr_G := sr_in (List.mem_of_getElem? (i := 946) (by decide +kernel)) rfl
theorem lk_900 : Cond.instanceMethod yX8_isFrozenHour ∈ sr_G := sr_in (List.mem_of_getElem? (i := 948) (by decide +kernel)) rfl
theorem lk_901 : Cond.code yX8_isFrozenHour cX8_isFrozenHour 4 (Option.some FieldType.boolean) ∈ sr_G := sr_in (List.mem_of_getElem? (i := 949) (by decide +kernel)) rfl
theorem lk_902 : Cond.methodLink RX8 146 yX8_areAllDone ∈ sr_G := sr_in (List.mem_of_getElem? (i := 950) (by decide +kernel)) rfl
theorem lk_904 : Cond.instanceMethod yX8_areAllDone ∈ sr_G := sr_in (List.mem_of_getElem? (i := 952) (by decide +kernel)) rfl
theorem lk_905 : Cond.code yX8_areAllDone cX8_areAllDone 4 (Option.some FieldType.boolean) ∈ sr_G := sr_in (List.mem_of_getElem? (i := 953) (by decide +kernel)) rfl
theorem lk_906 : Cond.methodLink RX8 149 yX8_isOtherRisk ∈ sr_G := sr_in (List.mem_of_getElem? (i := 954) (by decide +kernel)) rfl
theorem lk_908 : Cond.instanceMethod yX8_isOtherRisk ∈ sr_G := sr_in (List.mem_of_getElem? (i := 956) (by decide +kernel)) rfl
theorem lk_909 : Cond.code yX8_isOtherRisk cX8_isOtherRisk 6 (Option.some FieldType.boolean) ∈ sr_G := sr_in (List.mem_of_getElem? (i := 957) (by decide +kernel)) rfl
theorem lk_910 : Cond.methodLink RX8 161 yX8_goesOn ∈ sr_G := sr_in (List.mem_of_getElem? (i := 958) (by decide +kernel)) rfl
theorem lk_912 : Cond.instanceMethod yX8_goesOn ∈ sr_G := sr_in (List.mem_of_getElem? (i := 960) (by decide +kernel)) rfl
theorem lk_913 : Cond.code yX8_goesOn cX8_goesOn 4 (Option.none : Option FieldType) ∈ sr_G := sr_in (List.mem_of_getElem? (i := 961) (by decide +kernel)) rfl
theorem lk_914 : Cond.methodLink RL 98 yX8_time ∈ sr_G := sr_in (List.mem_of_getElem? (i := 962) (by decide +kernel)) rfl
theorem lk_915 : Cond.instanceMethod yX8_time ∈ sr_G := sr_in (List.mem_of_getElem? (i := 963) (by decide +kernel)) rfl
theorem lk_916 : Cond.selects RX8 yX8_time yX8_time ∈ sr_G := sr_in (List.mem_of_getElem? (i := 964) (by decide +kernel)) rfl
theorem lk_917 : Cond.code yX8_time cX8_time 1 (Option.some FieldType.int) ∈ sr_G := sr_in (List.mem_of_getElem? (i := 965) (by decide +kernel)) rfl
theorem lk_918 : Cond.methodLink RL 102 yX8_change ∈ sr_G := sr_in (List.mem_of_getElem? (i := 966) (by decide +kernel)) rfl
theorem lk_919 : Cond.instanceMethod yX8_change ∈ sr_G := sr_in (List.mem_of_getElem? (i := 967) (by decide +kernel)) rfl
theorem lk_920 : Cond.selects RX8 yX8_change yX8_change ∈ sr_G := sr_in (List.mem_of_getElem? (i := 968) (by decide +kernel)) rfl
theorem lk_921 : Cond.code yX8_change cX8_change 3 (Option.some FieldType.int) ∈ sr_G := sr_in (List.mem_of_getElem? (i := 969) (by decide +kernel)) rfl
theorem lk_922 : Cond.methodLink RX8 167 yX8_tells ∈ sr_G := sr_in (List.mem_of_getElem? (i := 970) (by decide +kernel)) rfl
theorem lk_924 : Cond.instanceMethod yX8_tells ∈ sr_G := sr_in (List.mem_of_getElem? (i := 972) (by decide +kernel)) rfl
theorem lk_925 : Cond.code yX8_tells cX8_tells 3 (Option.some FieldType.int) ∈ sr_G := sr_in (List.mem_of_getElem? (i := 973) (by decide +kernel)) rfl
theorem lk_926 : Cond.methodLink RL 106 yX8_probes ∈ sr_G := sr_in (List.mem_of_getElem? (i := 974) (by decide +kernel)) rfl
theorem lk_927 : Cond.instanceMethod yX8_probes ∈ sr_G := sr_in (List.mem_of_getElem? (i := 975) (by decide +kernel)) rfl
theorem lk_928 : Cond.selects RX8 yX8_probes yX8_probes ∈ sr_G := sr_in (List.mem_of_getElem? (i := 976) (by decide +kernel)) rfl
theorem lk_929 : Cond.code yX8_probes cX8_probes 3 (Option.some FieldType.int) ∈ sr_G := sr_in (List.mem_of_getElem? (i := 977) (by decide +kernel)) rfl
theorem lk_930 : Cond.methodLink RL 111 yX8_chance ∈ sr_G := sr_in (List.mem_of_getElem? (i := 978) (by decide +kernel)) rfl
theorem lk_931 : Cond.instanceMethod yX8_chance ∈ sr_G := sr_in (List.mem_of_getElem? (i := 979) (by decide +kernel)) rfl
theorem lk_932 : Cond.selects RX8 yX8_chance yX8_chance ∈ sr_G := sr_in (List.mem_of_getElem? (i := 980) (by decide +kernel)) rfl
theorem lk_933 : Cond.code yX8_chance cX8_chance 3 (Option.some FieldType.long) ∈ sr_G := sr_in (List.mem_of_getElem? (i := 981) (by decide +kernel)) rfl
theorem lk_934 : Cond.constantLong RX8 170 (-11) ∈ sr_G := sr_in (List.mem_of_getElem? (i := 982) (by decide +kernel)) rfl
theorem lk_935 : Cond.methodLink RX8 172 yX8_divisor ∈ sr_G := sr_in (List.mem_of_getElem? (i := 983) (by decide +kernel)) rfl
theorem lk_936 : Cond.static yX8_divisor ∈ sr_G := sr_in (List.mem_of_getElem? (i := 984) (by decide +kernel)) rfl
theorem lk_937 : Cond.code yX8_divisor cX8_divisor 10 (Option.some FieldType.long) ∈ sr_G := sr_in (List.mem_of_getElem? (i := 985) (by decide +kernel)) rfl
theorem lk_938 : Cond.methodLink RL 115 yX8_has ∈ sr_G := sr_in (List.mem_of_getElem? (i := 986) (by decide +kernel)) rfl
theorem lk_939 : Cond.instanceMethod yX8_has ∈ sr_G := sr_in (List.mem_of_getElem? (i := 987) (by decide +kernel)) rfl
theorem lk_940 : Cond.selects RX8 yX8_has yX8_has ∈ sr_G := sr_in (List.mem_of_getElem? (i := 988) (by decide +kernel)) rfl
theorem lk_941 : Cond.code yX8_has cX8_has 2 (Option.some FieldType.int) ∈ sr_G := sr_in (List.mem_of_getElem? (i := 989) (by decide +kernel)) rfl
theorem lk_942 : Cond.methodLink RX8 176 yX8_having ∈ sr_G := sr_in (List.mem_of_getElem? (i := 990) (by decide +kernel)) rfl
theorem lk_944 : Cond.instanceMethod yX8_having ∈ sr_G := sr_in (List.mem_of_getElem? (i := 992) (by decide +kernel)) rfl
theorem lk_945 : Cond.code yX8_having cX8_having 4 (Option.some FieldType.int) ∈ sr_G := sr_in (List.mem_of_getElem? (i := 993) (by decide +kernel)) rfl
theorem lk_946 : Cond.methodLink RL 119 yX8_isFrozen ∈ sr_G := sr_in (List.mem_of_getElem? (i := 994) (by decide +kernel)) rfl
theorem lk_947 : Cond.instanceMethod yX8_isFrozen ∈ sr_G := sr_in (List.mem_of_getElem? (i := 995) (by decide +kernel)) rfl
theorem lk_948 : Cond.selects RX8 yX8_isFrozen yX8_isFrozen ∈ sr_G := sr_in (List.mem_of_getElem? (i := 996) (by decide +kernel)) rfl
theorem lk_949 : Cond.code yX8_isFrozen cX8_isFrozen 2 (Option.some FieldType.int) ∈ sr_G := sr_in (List.mem_of_getElem? (i := 997) (by decide +kernel)) rfl
theorem lk_950 : Cond.methodLink RL 123 yX8_forecast ∈ sr_G := sr_in (List.mem_of_getElem? (i := 998) (by decide +kernel)) rfl
theorem lk_951 : Cond.instanceMethod yX8_forecast ∈ sr_G := sr_in (List.mem_of_getElem? (i := 999) (by decide +kernel)) rfl
theorem lk_952 : Cond.selects RX8 yX8_forecast yX8_forecast ∈ sr_G := sr_in (List.mem_of_getElem? (i := 1000) (by decide +kernel)) rfl
theorem lk_953 : Cond.code yX8_forecast cX8_forecast 5 (Option.some FieldType.int) ∈ sr_G := sr_in (List.mem_of_getElem? (i := 1001) (by decide +kernel)) rfl
theorem lk_954 : Cond.methodLink RX8 179 yX8_isOver ∈ sr_G := sr_in (List.mem_of_getElem? (i := 1002) (by decide +kernel)) rfl
theorem lk_956 : Cond.instanceMethod yX8_isOver ∈ sr_G := sr_in (List.mem_of_getElem? (i := 1004) (by decide +kernel)) rfl
theorem lk_957 : Cond.code yX8_isOver cX8_isOver 2 (Option.some FieldType.boolean) ∈ sr_G := sr_in (List.mem_of_getElem? (i := 1005) (by decide +kernel)) rfl
theorem lk_958 : Cond.methodLink RL 127 yX8_entries ∈ sr_G := sr_in (List.mem_of_getElem? (i := 1006) (by decide +kernel)) rfl
theorem lk_959 : Cond.instanceMethod yX8_entries ∈ sr_G := sr_in (List.mem_of_getElem? (i := 1007) (by decide +kernel)) rfl
theorem lk_960 : Cond.selects RX8 yX8_entries yX8_entries ∈ sr_G := sr_in (List.mem_of_getElem? (i := 1008) (by decide +kernel)) rfl
theorem lk_961 : Cond.code yX8_entries cX8_entries 1 (Option.some FieldType.int) ∈ sr_G := sr_in (List.mem_of_getElem? (i := 1009) (by decide +kernel)) rfl
theorem lk_962 : Cond.methodLink RL 131 yX8_entry ∈ sr_G := sr_in (List.mem_of_getElem? (i := 1010) (by decide +kernel)) rfl
theorem lk_963 : Cond.instanceMethod yX8_entry ∈ sr_G := sr_in (List.mem_of_getElem? (i := 1011) (by decide +kernel)) rfl
theorem lk_964 : Cond.selects RX8 yX8_entry yX8_entry ∈ sr_G := sr_in (List.mem_of_getElem? (i := 1012) (by decide +kernel)) rfl
theorem lk_965 : Cond.code yX8_entry cX8_entry 3 (Option.some FieldType.int) ∈ sr_G := sr_in (List.mem_of_getElem? (i := 1013) (by decide +kernel)) rfl
theorem lk_966 : Cond.methodLink RL 135 yX8_count ∈ sr_G := sr_in (List.mem_of_getElem? (i := 1014) (by decide +kernel)) rfl
theorem lk_967 : Cond.instanceMethod yX8_count ∈ sr_G := sr_in (List.mem_of_getElem? (i := 1015) (by decide +kernel)) rfl
theorem lk_968 : Cond.selects RX8 yX8_count yX8_count ∈ sr_G := sr_in (List.mem_of_getElem? (i := 1016) (by decide +kernel)) rfl
theorem lk_969 : Cond.code yX8_count cX8_count 5 (Option.some FieldType.int) ∈ sr_G := sr_in (List.mem_of_getElem? (i := 1017) (by decide +kernel)) rfl
theorem lk_970 : Cond.methodLink RL 139 yX8_save ∈ sr_G := sr_in (List.mem_of_getElem? (i := 1018) (by decide +kernel)) rfl
theorem lk_971 : Cond.instanceMethod yX8_save ∈ sr_G := sr_in (List.mem_of_getElem? (i := 1019) (by decide +kernel)) rfl
theorem lk_972 : Cond.selects RX8 yX8_save yX8_save ∈ sr_G := sr_in (List.mem_of_getElem? (i := 1020) (by decide +kernel)) rfl
theorem lk_973 : Cond.code yX8_save cX8_save 3 (Option.some FieldType.int) ∈ sr_G := sr_in (List.mem_of_getElem? (i := 1021) (by decide +kernel)) rfl
theorem lk_974 : Cond.methodLink RL 143 yX8_restore ∈ sr_G := sr_in (List.mem_of_getElem? (i := 1022) (by decide +kernel)) rfl
theorem lk_975 : Cond.instanceMethod yX8_restore ∈ sr_G := sr_in (List.mem_of_getElem? (i := 1023) (by decide +kernel)) rfl
theorem lk_976 : Cond.selects RX8 yX8_restore yX8_restore ∈ sr_G := sr_in (List.mem_of_getElem? (i := 1024) (by decide +kernel)) rfl
theorem lk_977 : Cond.code yX8_restore cX8_restore 3 (Option.some FieldType.int) ∈ sr_G := sr_in (List.mem_of_getElem? (i := 1025) (by decide +kernel)) rfl
theorem lk_978 : Cond.methodLink RL 148 yX8_checksum ∈ sr_G := sr_in (List.mem_of_getElem? (i := 1026) (by decide +kernel)) rfl
theorem lk_979 : Cond.instanceMethod yX8_checksum ∈ sr_G := sr_in (List.mem_of_getElem? (i := 1027) (by decide +kernel)) rfl
theorem lk_980 : Cond.selects RX8 yX8_checksum yX8_checksum ∈ sr_G := sr_in (List.mem_of_getElem? (i := 1028) (by decide +kernel)) rfl
theorem lk_981 : Cond.code yX8_checksum cX8_checksum 5 (Option.some FieldType.long) ∈ sr_G := sr_in (List.mem_of_getElem? (i := 1029) (by decide +kernel)) rfl
theorem lk_982 : Cond.constantLong RX8 184 79 ∈ sr_G := sr_in (List.mem_of_getElem? (i := 1030) (by decide +kernel)) rfl
theorem lk_983 : Cond.methodLink RX8 186 yX8_more ∈ sr_G := sr_in (List.mem_of_getElem? (i := 1031) (by decide +kernel)) rfl
theorem lk_984 : Cond.static yX8_more ∈ sr_G := sr_in (List.mem_of_getElem? (i := 1032) (by decide +kernel)) rfl
theorem lk_985 : Cond.code yX8_more cX8_more 4 (Option.some FieldType.long) ∈ sr_G := sr_in (List.mem_of_getElem? (i := 1033) (by decide +kernel)) rfl
theorem lk_986 : Cond.constantLong RX8 182 31 ∈ sr_G := sr_in (List.mem_of_getElem? (i := 1034) (by decide +kernel)) rfl
theorem lk_987 : Cond.methodLink RX8 189 yX8_chance ∈ sr_G := sr_in (List.mem_of_getElem? (i := 1035) (by decide +kernel)) rfl
theorem lp_0 : Cond.selects RX5 yX5_parseStage yX5_parseStage ∈ sr_G := sr_in (List.mem_of_getElem? (i := 0) (by decide +kernel)) rfl
theorem lp_1 : Cond.selects RX5 yX5_parseCells yX5_parseCells ∈ sr_G := sr_in (List.mem_of_getElem? (i := 1) (by decide +kernel)) rfl
theorem lp_2 : Cond.selects RX5 yX5_digitAt yX5_digitAt ∈ sr_G := sr_in (List.mem_of_getElem? (i := 2) (by decide +kernel)) rfl
theorem lp_3 : Cond.selects RX5 yX5_letterAt yX5_letterAt ∈ sr_G := sr_in (List.mem_of_getElem? (i := 3) (by decide +kernel)) rfl
theorem lp_4 : Cond.selects RX5 yX5_skip yX5_skip ∈ sr_G := sr_in (List.mem_of_getElem? (i := 4) (by decide +kernel)) rfl
theorem lp_5 : Cond.selects RX5 yX5_parseNumber yX5_parseNumber ∈ sr_G := sr_in (List.mem_of_getElem? (i := 5) (by decide +kernel)) rfl
theorem lp_6 : Cond.selects RX7 yX7_move yX7_move ∈ sr_G := sr_in (List.mem_of_getElem? (i := 6) (by decide +kernel)) rfl
theorem lp_7 : Cond.selects RX3 yX3_placeOf yX3_placeOf ∈ sr_G := sr_in (List.mem_of_getElem? (i := 7) (by decide +kernel)) rfl
theorem lp_8 : Cond.selects RX6 yX6_computeChance yX6_computeChance ∈ sr_G := sr_in (List.mem_of_getElem? (i := 8) (by decide +kernel)) rfl
theorem lp_9 : Cond.selects RX1 yX1_moveInHour yX1_moveInHour ∈ sr_G := sr_in (List.mem_of_getElem? (i := 9) (by decide +kernel)) rfl
theorem lp_10 : Cond.selects RX1 yX1_hasBadChance yX1_hasBadChance ∈ sr_G := sr_in (List.mem_of_getElem? (i := 10) (by decide +kernel)) rfl
theorem lp_11 : Cond.selects RX1 yX1_turnStage yX1_turnStage ∈ sr_G := sr_in (List.mem_of_getElem? (i := 11) (by decide +kernel)) rfl
theorem lp_12 : Cond.selects RX1 yX1_reasonBeforeFirstStage yX1_reasonBeforeFirstStage ∈ sr_G := sr_in (List.mem_of_getElem? (i := 12) (by decide +kernel)) rfl
theorem lp_13 : Cond.selects RX1 yX1_lacksDone yX1_lacksDone ∈ sr_G := sr_in (List.mem_of_getElem? (i := 13) (by decide +kernel)) rfl
theorem lp_14 : Cond.selects RX1 yX1_meetsOtherRisk yX1_meetsOtherRisk ∈ sr_G := sr_in (List.mem_of_getElem? (i := 14) (by decide +kernel)) rfl
theorem lp_15 : Cond.selects RX1 yX1_goOn yX1_goOn ∈ sr_G := sr_in (List.mem_of_getElem? (i := 15) (by decide +kernel)) rfl
theorem lp_16 : Cond.selects RX7 yX7_mixChange yX7_mixChange ∈ sr_G := sr_in (List.mem_of_getElem? (i := 16) (by decide +kernel)) rfl
theorem lp_17 : Cond.selects RX8 yX8_puts yX8_puts ∈ sr_G := sr_in (List.mem_of_getElem? (i := 17) (by decide +kernel)) rfl
theorem lp_18 : Cond.selects RX8 yX8_isChange yX8_isChange ∈ sr_G := sr_in (List.mem_of_getElem? (i := 18) (by decide +kernel)) rfl
theorem lp_19 : Cond.selects RX8 yX8_cellsOf yX8_cellsOf ∈ sr_G := sr_in (List.mem_of_getElem? (i := 19) (by decide +kernel)) rfl
theorem lp_20 : Cond.selects RX8 yX8_adds yX8_adds ∈ sr_G := sr_in (List.mem_of_getElem? (i := 20) (by decide +kernel)) rfl
theorem lp_21 : Cond.selects RX8 yX8_isText yX8_isText ∈ sr_G := sr_in (List.mem_of_getElem? (i := 21) (by decide +kernel)) rfl
theorem lp_22 : Cond.selects RX8 yX8_isStage yX8_isStage ∈ sr_G := sr_in (List.mem_of_getElem? (i := 22) (by decide +kernel)) rfl
theorem lp_23 : Cond.selects RX8 yX8_cells yX8_cells ∈ sr_G := sr_in (List.mem_of_getElem? (i := 23) (by decide +kernel)) rfl
theorem lp_24 : Cond.selects RX8 yX8_digit yX8_digit ∈ sr_G := sr_in (List.mem_of_getElem? (i := 24) (by decide +kernel)) rfl
theorem lp_25 : Cond.selects RX8 yX8_here yX8_here ∈ sr_G := sr_in (List.mem_of_getElem? (i := 25) (by decide +kernel)) rfl
theorem lp_26 : Cond.selects RX8 yX8_isCell yX8_isCell ∈ sr_G := sr_in (List.mem_of_getElem? (i := 26) (by decide +kernel)) rfl
theorem lp_27 : Cond.selects RX8 yX8_takes yX8_takes ∈ sr_G := sr_in (List.mem_of_getElem? (i := 27) (by decide +kernel)) rfl
theorem lp_28 : Cond.selects RX8 yX8_number yX8_number ∈ sr_G := sr_in (List.mem_of_getElem? (i := 28) (by decide +kernel)) rfl
theorem lp_29 : Cond.selects RX8 yX8_becomes yX8_becomes ∈ sr_G := sr_in (List.mem_of_getElem? (i := 29) (by decide +kernel)) rfl
theorem lp_30 : Cond.selects RX8 yX8_notes yX8_notes ∈ sr_G := sr_in (List.mem_of_getElem? (i := 30) (by decide +kernel)) rfl
theorem lp_31 : Cond.selects RX8 yX8_reached yX8_reached ∈ sr_G := sr_in (List.mem_of_getElem? (i := 31) (by decide +kernel)) rfl
theorem lp_32 : Cond.selects RX8 yX8_isOut yX8_isOut ∈ sr_G := sr_in (List.mem_of_getElem? (i := 32) (by decide +kernel)) rfl
theorem lp_33 : Cond.selects RX8 yX8_passes yX8_passes ∈ sr_G := sr_in (List.mem_of_getElem? (i := 33) (by decide +kernel)) rfl
theorem lp_34 : Cond.selects RX8 yX8_isBad yX8_isBad ∈ sr_G := sr_in (List.mem_of_getElem? (i := 34) (by decide +kernel)) rfl
theorem lp_35 : Cond.selects RX8 yX8_findChance yX8_findChance ∈ sr_G := sr_in (List.mem_of_getElem? (i := 35) (by decide +kernel)) rfl
theorem lp_36 : Cond.selects RX8 yX8_sets yX8_sets ∈ sr_G := sr_in (List.mem_of_getElem? (i := 36) (by decide +kernel)) rfl
theorem lp_37 : Cond.selects RX8 yX8_turnsOn yX8_turnsOn ∈ sr_G := sr_in (List.mem_of_getElem? (i := 37) (by decide +kernel)) rfl
theorem lp_38 : Cond.selects RX8 yX8_reason yX8_reason ∈ sr_G := sr_in (List.mem_of_getElem? (i := 38) (by decide +kernel)) rfl
theorem lp_39 : Cond.selects RX8 yX8_hoursSince yX8_hoursSince ∈ sr_G := sr_in (List.mem_of_getElem? (i := 39) (by decide +kernel)) rfl
theorem lp_40 : Cond.selects RX8 yX8_lacks yX8_lacks ∈ sr_G := sr_in (List.mem_of_getElem? (i := 40) (by decide +kernel)) rfl
theorem lp_41 : Cond.selects RX8 yX8_isFrozenHour yX8_isFrozenHour ∈ sr_G := sr_in (List.mem_of_getElem? (i := 41) (by decide +kernel)) rfl
theorem lp_42 : Cond.selects RX8 yX8_areAllDone yX8_areAllDone ∈ sr_G := sr_in (List.mem_of_getElem? (i := 42) (by decide +kernel)) rfl
theorem lp_43 : Cond.selects RX8 yX8_isOtherRisk yX8_isOtherRisk ∈ sr_G := sr_in (List.mem_of_getElem? (i := 43) (by decide +kernel)) rfl
theorem lp_44 : Cond.selects RX8 yX8_goesOn yX8_goesOn ∈ sr_G := sr_in (List.mem_of_getElem? (i := 44) (by decide +kernel)) rfl
theorem lp_45 : Cond.selects RX8 yX8_tells yX8_tells ∈ sr_G := sr_in (List.mem_of_getElem? (i := 45) (by decide +kernel)) rfl
theorem lp_46 : Cond.selects RX8 yX8_having yX8_having ∈ sr_G := sr_in (List.mem_of_getElem? (i := 46) (by decide +kernel)) rfl
theorem lp_47 : Cond.selects RX8 yX8_isOver yX8_isOver ∈ sr_G := sr_in (List.mem_of_getElem? (i := 47) (by decide +kernel)) rfl
theorem iG0 : ∀ w ∈ wsX00, w ∈ sr_G := sr_in_all inX0 (by decide +kernel)
theorem iG1 : ∀ w ∈ wsX10, w ∈ sr_G := sr_in_all inX1 (by decide +kernel)
theorem iG2 : ∀ w ∈ wsX20, w ∈ sr_G := sr_in_all inX2 (by decide +kernel)
theorem iG3 : ∀ w ∈ wsX30, w ∈ sr_G := sr_in_all inX3 (by decide +kernel)
theorem iG4 : ∀ w ∈ wsX40, w ∈ sr_G := sr_in_all inX4 (by decide +kernel)
theorem iG5 : ∀ w ∈ wsX50, w ∈ sr_G := sr_in_all inX5 (by decide +kernel)
theorem iG6 : ∀ w ∈ wsX60, w ∈ sr_G := sr_in_all inX6 (by decide +kernel)
theorem iG7 : ∀ w ∈ wsX70, w ∈ sr_G := sr_in_all inX7 (by decide +kernel)
theorem iG8 : ∀ w ∈ wsX80, w ∈ sr_G := sr_in_all inX8 (by decide +kernel)
