/-! LINKS: the words of the tables, by their places; rooms; decode rows -/
theorem fl_X6_10 : Cond.fieldLink RX6 10 "ReachedHeap" "state" "LReachedHeap$State;" ∈ lw_g := tb1 196 rfl
theorem fl_X6_16 : Cond.fieldLink RX6 16 "ReachedHeap" "ahead" "LReachedHeap$State;" ∈ lw_g := tb1 197 rfl
theorem fl_X6_19 : Cond.fieldLink RX6 19 "ReachedHeap" "kept" "LReachedHeap$State;" ∈ lw_g := tb1 198 rfl
theorem fl_X6_25 : Cond.fieldLink RX6 25 "ReachedHeap" "history" "LReachedHeap$History;" ∈ lw_g := tb1 199 rfl
theorem fl_X6_32 : Cond.fieldLink RX6 32 "ReachedHeap" "commands" "LReachedHeap$Commands;" ∈ lw_g := tb1 200 rfl
theorem fl_X6_36 : Cond.fieldLink RX6 36 "ReachedHeap" "isKept" "Z" ∈ lw_g := tb1 201 rfl
theorem fl_X6_87 : Cond.fieldLink RX6 87 "ReachedHeap$State" "graph" "LReachedHeap$Graph;" ∈ lw_g := tb1 125 rfl
theorem fl_X6_96 : Cond.fieldLink RX6 96 "ReachedHeap$State" "search" "LReachedHeap$Search;" ∈ lw_g := tb1 127 rfl
theorem fl_X6_100 : Cond.fieldLink RX6 100 "ReachedHeap$Search" "row" "LReachedHeap$Line;" ∈ lw_g := tb1 94 rfl
theorem fl_X6_114 : Cond.fieldLink RX6 114 "ReachedHeap$History" "size" "I" ∈ lw_g := tb1 157 rfl
theorem fl_X6_118 : Cond.fieldLink RX6 118 "ReachedHeap$Commands" "length" "I" ∈ lw_g := tb1 172 rfl
theorem fl_X0_9 : Cond.fieldLink RX0 9 "ReachedHeap$Commands" "signs" "[I" ∈ lw_g := tb1 171 rfl
theorem fl_X1_9 : Cond.fieldLink RX1 9 "ReachedHeap$Graph" "fields" "[I" ∈ lw_g := tb1 57 rfl
theorem fl_X1_15 : Cond.fieldLink RX1 15 "ReachedHeap$Graph" "roots" "[I" ∈ lw_g := tb1 58 rfl
theorem fl_X1_18 : Cond.fieldLink RX1 18 "ReachedHeap$Graph" "holders" "[I" ∈ lw_g := tb1 60 rfl
theorem fl_X1_24 : Cond.fieldLink RX1 24 "ReachedHeap$Graph" "toFinish" "LReachedHeap$Line;" ∈ lw_g := tb1 62 rfl
theorem fl_X1_34 : Cond.fieldLink RX1 34 "ReachedHeap$Graph" "present" "I" ∈ lw_g := tb1 51 rfl
theorem fl_X1_65 : Cond.fieldLink RX1 65 "ReachedHeap$Graph" "wanting" "I" ∈ lw_g := tb1 55 rfl
theorem fl_X2_11 : Cond.fieldLink RX2 11 "ReachedHeap$History" "states" "[LReachedHeap$State;" ∈ lw_g := tb1 154 rfl
theorem fl_X2_18 : Cond.fieldLink RX2 18 "ReachedHeap$History" "first" "I" ∈ lw_g := tb1 155 rfl
theorem fl_X2_28 : Cond.fieldLink RX2 28 "ReachedHeap$History" "size" "I" ∈ lw_g := tb1 156 rfl
theorem fl_X3_9 : Cond.fieldLink RX3 9 "ReachedHeap$Line" "numbers" "[I" ∈ lw_g := tb1 38 rfl
theorem fl_X3_15 : Cond.fieldLink RX3 15 "ReachedHeap$Line" "length" "I" ∈ lw_g := tb1 39 rfl
theorem fl_X4_9 : Cond.fieldLink RX4 9 "ReachedHeap$Search" "part" "I" ∈ lw_g := tb1 86 rfl
theorem fl_X4_18 : Cond.fieldLink RX4 18 "ReachedHeap$Search" "row" "LReachedHeap$Line;" ∈ lw_g := tb1 92 rfl
theorem fl_X4_22 : Cond.fieldLink RX4 22 "ReachedHeap$Search" "blackOnes" "I" ∈ lw_g := tb1 90 rfl
theorem fl_X4_33 : Cond.fieldLink RX4 33 "ReachedHeap$Search" "greyOnes" "I" ∈ lw_g := tb1 88 rfl
theorem fl_X4_36 : Cond.fieldLink RX4 36 "ReachedHeap$Graph" "present" "I" ∈ lw_g := tb1 52 rfl
theorem fl_X4_49 : Cond.fieldLink RX4 49 "ReachedHeap$Search" "sweepFrom" "I" ∈ lw_g := tb1 95 rfl
theorem fl_X4_52 : Cond.fieldLink RX4 52 "ReachedHeap$Search" "began" "I" ∈ lw_g := tb1 98 rfl
theorem fl_X4_55 : Cond.fieldLink RX4 55 "ReachedHeap$Search" "steps" "I" ∈ lw_g := tb1 99 rfl
theorem fl_X4_58 : Cond.fieldLink RX4 58 "ReachedHeap$Search" "goneNow" "I" ∈ lw_g := tb1 101 rfl
theorem fl_X4_67 : Cond.fieldLink RX4 67 "ReachedHeap$Graph" "toFinish" "LReachedHeap$Line;" ∈ lw_g := tb1 64 rfl
theorem fl_X4_70 : Cond.fieldLink RX4 70 "ReachedHeap$Line" "length" "I" ∈ lw_g := tb1 40 rfl
theorem fl_X4_101 : Cond.fieldLink RX4 101 "ReachedHeap$Graph" "wanting" "I" ∈ lw_g := tb1 56 rfl
theorem fl_X4_110 : Cond.fieldLink RX4 110 "ReachedHeap$Search" "goneEver" "I" ∈ lw_g := tb1 104 rfl
theorem fl_X5_12 : Cond.fieldLink RX5 12 "ReachedHeap$State" "graph" "LReachedHeap$Graph;" ∈ lw_g := tb1 124 rfl
theorem fl_X5_21 : Cond.fieldLink RX5 21 "ReachedHeap$State" "search" "LReachedHeap$Search;" ∈ lw_g := tb1 126 rfl
theorem fl_X5_25 : Cond.fieldLink RX5 25 "ReachedHeap$State" "beganBefore" "[I" ∈ lw_g := tb1 128 rfl
theorem fl_X5_29 : Cond.fieldLink RX5 29 "ReachedHeap$State" "care" "I" ∈ lw_g := tb1 129 rfl
theorem fl_X5_41 : Cond.fieldLink RX5 41 "ReachedHeap$State" "came" "I" ∈ lw_g := tb1 130 rfl
theorem fl_X5_44 : Cond.fieldLink RX5 44 "ReachedHeap$Search" "began" "I" ∈ lw_g := tb1 97 rfl
theorem fl_X5_90 : Cond.fieldLink RX5 90 "ReachedHeap$Graph" "holders" "[I" ∈ lw_g := tb1 61 rfl
theorem fl_X5_96 : Cond.fieldLink RX5 96 "ReachedHeap$Graph" "wanting" "I" ∈ lw_g := tb1 54 rfl
theorem fl_X5_104 : Cond.fieldLink RX5 104 "ReachedHeap$Graph" "toFinish" "LReachedHeap$Line;" ∈ lw_g := tb1 63 rfl
theorem fl_X5_113 : Cond.fieldLink RX5 113 "ReachedHeap$State" "finished" "I" ∈ lw_g := tb1 131 rfl
theorem fl_X5_116 : Cond.fieldLink RX5 116 "ReachedHeap$Graph" "roots" "[I" ∈ lw_g := tb1 59 rfl
theorem fl_X5_133 : Cond.fieldLink RX5 133 "ReachedHeap$Search" "row" "LReachedHeap$Line;" ∈ lw_g := tb1 93 rfl
theorem fl_X5_136 : Cond.fieldLink RX5 136 "ReachedHeap$Line" "length" "I" ∈ lw_g := tb1 41 rfl
theorem fl_X5_139 : Cond.fieldLink RX5 139 "ReachedHeap$Search" "goneEver" "I" ∈ lw_g := tb1 103 rfl
theorem fl_X5_154 : Cond.fieldLink RX5 154 "ReachedHeap$Graph" "present" "I" ∈ lw_g := tb1 53 rfl
theorem fl_X5_161 : Cond.fieldLink RX5 161 "ReachedHeap$Search" "greyOnes" "I" ∈ lw_g := tb1 89 rfl
theorem fl_X5_164 : Cond.fieldLink RX5 164 "ReachedHeap$Search" "blackOnes" "I" ∈ lw_g := tb1 91 rfl
theorem fl_X5_167 : Cond.fieldLink RX5 167 "ReachedHeap$Search" "goneNow" "I" ∈ lw_g := tb1 102 rfl
theorem fl_X5_173 : Cond.fieldLink RX5 173 "ReachedHeap$Search" "part" "I" ∈ lw_g := tb1 87 rfl
theorem fl_X5_176 : Cond.fieldLink RX5 176 "ReachedHeap$Search" "sweepFrom" "I" ∈ lw_g := tb1 96 rfl
theorem fl_X5_179 : Cond.fieldLink RX5 179 "ReachedHeap$Search" "steps" "I" ∈ lw_g := tb1 100 rfl
theorem ml_X6_1 : Cond.methodLink RX6 1 objectInit ∈ lw_g := tb1 17 rfl
theorem ml_X6_24 : Cond.methodLink RX6 24 yX2_init ∈ lw_g := tb1 147 rfl
theorem ml_X6_40 : Cond.methodLink RX6 40 yX2_note ∈ lw_g := tb2 28 rfl
theorem ml_X6_44 : Cond.methodLink RX6 44 yX5_create ∈ lw_g := tb2 61 rfl
theorem ml_X6_48 : Cond.methodLink RX6 48 yX2_settle ∈ lw_g := tb2 106 rfl
theorem ml_X6_51 : Cond.methodLink RX6 51 yX5_writeField ∈ lw_g := tb2 141 rfl
theorem ml_X6_55 : Cond.methodLink RX6 55 yX5_writeRoot ∈ lw_g := tb2 195 rfl
theorem ml_X6_59 : Cond.methodLink RX6 59 yX5_writeHolder ∈ lw_g := tb2 204 rfl
theorem ml_X6_62 : Cond.methodLink RX6 62 yX5_askHolder ∈ lw_g := tb2 213 rfl
theorem ml_X6_65 : Cond.methodLink RX6 65 yX5_wishFinish ∈ lw_g := tb2 225 rfl
theorem ml_X6_68 : Cond.methodLink RX6 68 yX5_finishFirst ∈ lw_g := tb2 234 rfl
theorem ml_X6_71 : Cond.methodLink RX6 71 yX5_beginSearch ∈ lw_g := tb3 9 rfl
theorem ml_X6_75 : Cond.methodLink RX6 75 yX5_doSteps ∈ lw_g := tb3 35 rfl
theorem ml_X6_78 : Cond.methodLink RX6 78 yX5_doAllSteps ∈ lw_g := tb3 84 rfl
theorem ml_X6_81 : Cond.methodLink RX6 81 yX5_setCare ∈ lw_g := tb3 92 rfl
theorem ml_X6_84 : Cond.methodLink RX6 84 yX5_tellObject ∈ lw_g := tb3 106 rfl
theorem ml_X6_91 : Cond.methodLink RX6 91 yX1_tellReferred ∈ lw_g := tb1 219 rfl
theorem ml_X6_106 : Cond.methodLink RX6 106 yX3_at ∈ lw_g := tb3 136 rfl
theorem ml_X6_111 : Cond.methodLink RX6 111 yX5_tellSet ∈ lw_g := tb3 127 rfl
theorem ml_X6_121 : Cond.methodLink RX6 121 yX5_tellNumber ∈ lw_g := tb1 238 rfl
theorem ml_X6_134 : Cond.methodLink RX6 134 yX6_bit ∈ lw_g := tb2 76 rfl
theorem ml_X6_181 : Cond.methodLink RX6 181 Lib.Math.max.name ∈ lw_g := tb2 73 rfl
theorem ml_X0_3 : Cond.methodLink RX0 3 objectInit ∈ lw_g := tb1 170 rfl
theorem ml_X1_3 : Cond.methodLink RX1 3 objectInit ∈ lw_g := tb1 31 rfl
theorem ml_X1_28 : Cond.methodLink RX1 28 yJ7_fill_53178 ∈ lw_g := tb1 48 rfl
theorem ml_X1_42 : Cond.methodLink RX1 42 yX1_has ∈ lw_g := tb2 153 rfl
theorem ml_X1_46 : Cond.methodLink RX1 46 yJ6_bitCount_0f7a4 ∈ lw_g := tb2 6 rfl
theorem ml_X1_55 : Cond.methodLink RX1 55 yX1_rootAt ∈ lw_g := tb1 226 rfl
theorem ml_X1_58 : Cond.methodLink RX1 58 yX1_holderAt ∈ lw_g := tb1 230 rfl
theorem ml_X1_68 : Cond.methodLink RX1 68 yX1_setField ∈ lw_g := tb3 56 rfl
theorem ml_X1_72 : Cond.methodLink RX1 72 yX1_forget ∈ lw_g := tb3 57 rfl
theorem ml_X1_75 : Cond.methodLink RX1 75 yX1_behind ∈ lw_g := tb2 172 rfl
theorem ml_X1_78 : Cond.methodLink RX1 78 yX1_setOfRoots ∈ lw_g := tb2 159 rfl
theorem ml_X1_82 : Cond.methodLink RX1 82 yX1_reachedFrom ∈ lw_g := tb2 168 rfl
theorem ml_X1_85 : Cond.methodLink RX1 85 yX3_asSet ∈ lw_g := tb2 163 rfl
theorem ml_X1_88 : Cond.methodLink RX1 88 arraycopyName ∈ lw_g := tb2 47 rfl
theorem ml_X1_94 : Cond.methodLink RX1 94 yX3_copyFrom ∈ lw_g := tb2 50 rfl
theorem ml_X2_3 : Cond.methodLink RX2 3 objectInit ∈ lw_g := tb1 150 rfl
theorem ml_X2_22 : Cond.methodLink RX2 22 yJ9_floorMod_7cf53 ∈ lw_g := tb2 36 rfl
theorem ml_X2_31 : Cond.methodLink RX2 31 yX2_stateAt ∈ lw_g := tb2 32 rfl
theorem ml_X2_35 : Cond.methodLink RX2 35 yX5_copyFrom ∈ lw_g := tb2 39 rfl
theorem ml_X3_3 : Cond.methodLink RX3 3 objectInit ∈ lw_g := tb1 37 rfl
theorem ml_X3_23 : Cond.methodLink RX3 23 arraycopyName ∈ lw_g := tb2 54 rfl
theorem ml_X4_3 : Cond.methodLink RX4 3 objectInit ∈ lw_g := tb1 83 rfl
theorem ml_X4_29 : Cond.methodLink RX4 29 yX4_isBlack ∈ lw_g := tb3 114 rfl
theorem ml_X4_41 : Cond.methodLink RX4 41 yX3_append ∈ lw_g := tb2 102 rfl
theorem ml_X4_45 : Cond.methodLink RX4 45 yX4_needsCare ∈ lw_g := tb2 84 rfl
theorem ml_X4_61 : Cond.methodLink RX4 61 yX1_rootAt ∈ lw_g := tb3 21 rfl
theorem ml_X4_64 : Cond.methodLink RX4 64 yX4_shade ∈ lw_g := tb3 22 rfl
theorem ml_X4_73 : Cond.methodLink RX4 73 yX3_at ∈ lw_g := tb3 23 rfl
theorem ml_X4_76 : Cond.methodLink RX4 76 yX4_sweep ∈ lw_g := tb3 43 rfl
theorem ml_X4_80 : Cond.methodLink RX4 80 yX4_markFirst ∈ lw_g := tb3 60 rfl
theorem ml_X4_83 : Cond.methodLink RX4 83 yX4_whiteOnes ∈ lw_g := tb3 48 rfl
theorem ml_X4_87 : Cond.methodLink RX4 87 yX1_emptyHoldersOf ∈ lw_g := tb3 66 rfl
theorem ml_X4_90 : Cond.methodLink RX4 90 yX4_findToFinish ∈ lw_g := tb3 70 rfl
theorem ml_X4_93 : Cond.methodLink RX4 93 yX3_takeFirst ∈ lw_g := tb3 64 rfl
theorem ml_X4_97 : Cond.methodLink RX4 97 yX1_fieldOf ∈ lw_g := tb3 65 rfl
theorem ml_X4_107 : Cond.methodLink RX4 107 yX1_letGo ∈ lw_g := tb3 52 rfl
theorem ml_X4_113 : Cond.methodLink RX4 113 yX3_copyFrom ∈ lw_g := tb2 59 rfl
theorem ml_X5_3 : Cond.methodLink RX5 3 objectInit ∈ lw_g := tb1 25 rfl
theorem ml_X5_11 : Cond.methodLink RX5 11 yX1_init ∈ lw_g := tb1 28 rfl
theorem ml_X5_37 : Cond.methodLink RX5 37 yX1_bring ∈ lw_g := tb2 66 rfl
theorem ml_X5_47 : Cond.methodLink RX5 47 yX4_colourNewOne ∈ lw_g := tb2 80 rfl
theorem ml_X5_51 : Cond.methodLink RX5 51 yX5_referRoot ∈ lw_g := tb2 89 rfl
theorem ml_X5_55 : Cond.methodLink RX5 55 yX1_has ∈ lw_g := tb2 145 rfl
theorem ml_X5_59 : Cond.methodLink RX5 59 yX1_hasOrNone ∈ lw_g := tb2 149 rfl
theorem ml_X5_66 : Cond.methodLink RX5 66 yX1_reachedByAll ∈ lw_g := tb2 155 rfl
theorem ml_X5_69 : Cond.methodLink RX5 69 yX1_fieldOf ∈ lw_g := tb2 176 rfl
theorem ml_X5_73 : Cond.methodLink RX5 73 yX1_setField ∈ lw_g := tb2 180 rfl
theorem ml_X5_77 : Cond.methodLink RX5 77 yX4_isBlack ∈ lw_g := tb2 184 rfl
theorem ml_X5_80 : Cond.methodLink RX5 80 yX5_takeCare ∈ lw_g := tb2 93 rfl
theorem ml_X5_84 : Cond.methodLink RX5 84 yX1_rootAt ∈ lw_g := tb2 199 rfl
theorem ml_X5_87 : Cond.methodLink RX5 87 yX1_holderAt ∈ lw_g := tb2 208 rfl
theorem ml_X5_93 : Cond.methodLink RX5 93 yX5_shadeIfCareIsNeeded ∈ lw_g := tb2 217 rfl
theorem ml_X5_99 : Cond.methodLink RX5 99 yJ6_bitCount_0f7a4 ∈ lw_g := tb2 229 rfl
theorem ml_X5_108 : Cond.methodLink RX5 108 yX3_takeFirst ∈ lw_g := tb2 238 rfl
theorem ml_X5_119 : Cond.methodLink RX5 119 yX4_needsCare ∈ lw_g := tb2 97 rfl
theorem ml_X5_123 : Cond.methodLink RX5 123 yX4_shade ∈ lw_g := tb2 98 rfl
theorem ml_X5_126 : Cond.methodLink RX5 126 yX4_isThere ∈ lw_g := tb3 13 rfl
theorem ml_X5_129 : Cond.methodLink RX5 129 yX4_open ∈ lw_g := tb3 17 rfl
theorem ml_X5_142 : Cond.methodLink RX5 142 yX4_advance ∈ lw_g := tb3 39 rfl
theorem ml_X5_145 : Cond.methodLink RX5 145 yX4_colourOf ∈ lw_g := tb3 110 rfl
theorem ml_X5_148 : Cond.methodLink RX5 148 yX1_reachedByRoots ∈ lw_g := tb3 115 rfl
theorem ml_X5_151 : Cond.methodLink RX5 151 yX3_placeOf ∈ lw_g := tb3 119 rfl
theorem ml_X5_157 : Cond.methodLink RX5 157 yX4_whiteOnes ∈ lw_g := tb3 131 rfl
theorem ml_X5_170 : Cond.methodLink RX5 170 yX1_size ∈ lw_g := tb2 2 rfl
theorem ml_X5_182 : Cond.methodLink RX5 182 yX1_copyFrom ∈ lw_g := tb2 43 rfl
theorem ml_X5_185 : Cond.methodLink RX5 185 yX4_copyFrom ∈ lw_g := tb2 55 rfl
theorem ml_X5_188 : Cond.methodLink RX5 188 arraycopyName ∈ lw_g := tb2 60 rfl
theorem ml_L_9 : Cond.methodLink RL 9 yL_at ∈ lw_g := tb2 134 rfl
theorem ml_L_15 : Cond.methodLink RL 15 yL_spread ∈ lw_g := tb2 131 rfl
theorem ml_L_19 : Cond.methodLink RL 19 yL_rooted ∈ lw_g := tb2 128 rfl
theorem ml_L_23 : Cond.methodLink RL 23 yL_shade ∈ lw_g := tb2 119 rfl
theorem ml_L_27 : Cond.methodLink RL 27 yL_care ∈ lw_g := tb2 116 rfl
theorem ml_L_31 : Cond.methodLink RL 31 yL_put ∈ lw_g := tb2 188 rfl
theorem ml_L_35 : Cond.methodLink RL 35 yL_sweep ∈ lw_g := tb3 77 rfl
theorem ml_L_39 : Cond.methodLink RL 39 yX6_begin ∈ lw_g := tb3 5 rfl
theorem ml_L_45 : Cond.methodLink RL 45 yL_start ∈ lw_g := tb3 28 rfl
theorem ml_L_49 : Cond.methodLink RL 49 yX6_step ∈ lw_g := tb3 31 rfl
theorem ml_L_53 : Cond.methodLink RL 53 yL_go ∈ lw_g := tb3 74 rfl
theorem ml_L_57 : Cond.methodLink RL 57 yX6_all ∈ lw_g := tb3 80 rfl
theorem ml_L_60 : Cond.methodLink RL 60 yX6_set ∈ lw_g := tb3 88 rfl
theorem ml_L_63 : Cond.methodLink RL 63 yL_reached ∈ lw_g := tb2 125 rfl
theorem ml_L_67 : Cond.methodLink RL 67 yX6_field ∈ lw_g := tb2 137 rfl
theorem ml_L_71 : Cond.methodLink RL 71 yX6_root ∈ lw_g := tb2 191 rfl
theorem ml_L_75 : Cond.methodLink RL 75 yL_writeRoot ∈ lw_g := tb2 113 rfl
theorem ml_L_79 : Cond.methodLink RL 79 yX6_weak ∈ lw_g := tb2 200 rfl
theorem ml_L_82 : Cond.methodLink RL 82 yX6_ask ∈ lw_g := tb2 209 rfl
theorem ml_L_85 : Cond.methodLink RL 85 yX6_want ∈ lw_g := tb2 221 rfl
theorem ml_L_88 : Cond.methodLink RL 88 yX6_finish ∈ lw_g := tb2 230 rfl
theorem ml_L_92 : Cond.methodLink RL 92 yL_low ∈ lw_g := tb2 16 rfl
theorem ml_L_95 : Cond.methodLink RL 95 yX6_make ∈ lw_g := tb2 24 rfl
theorem ml_L_98 : Cond.methodLink RL 98 yL_writes ∈ lw_g := tb2 122 rfl
theorem ml_L_102 : Cond.methodLink RL 102 yL_searches ∈ lw_g := tb3 2 rfl
theorem ml_L_105 : Cond.methodLink RL 105 yX6_objectOf ∈ lw_g := tb3 102 rfl
theorem ml_L_108 : Cond.methodLink RL 108 yL_areObjects ∈ lw_g := tb3 99 rfl
theorem ml_L_112 : Cond.methodLink RL 112 yX6_objects ∈ lw_g := tb3 123 rfl
theorem ml_L_115 : Cond.methodLink RL 115 yX6_refers ∈ lw_g := tb1 215 rfl
theorem ml_L_118 : Cond.methodLink RL 118 yX6_grey ∈ lw_g := tb3 132 rfl
theorem ml_L_121 : Cond.methodLink RL 121 yX6_count ∈ lw_g := tb1 234 rfl
theorem ml_L_124 : Cond.methodLink RL 124 yX6_init ∈ lw_g := tb1 14 rfl
theorem ml_L_125 : Cond.methodLink RL 125 yL_isSo ∈ lw_g := tb3 96 rfl
theorem ml_L_129 : Cond.methodLink RL 129 yL_cell ∈ lw_g := tb2 12 rfl
theorem ml_L_132 : Cond.methodLink RL 132 yL_acts ∈ lw_g := tb2 20 rfl
theorem ml_X6_9 : (RX6, 9, yX5_init, "ReachedHeap") ∈ nsts := List.mem_of_getElem? (i := 0) rfl
theorem ml_X6_31 : (RX6, 31, yX0_init, "ReachedHeap") ∈ nsts := List.mem_of_getElem? (i := 1) rfl
theorem ml_X1_23 : (RX1, 23, yX3_init, "ReachedHeap") ∈ nsts := List.mem_of_getElem? (i := 2) rfl
theorem ml_X1_38 : (RX1, 38, yX6_bit, "ReachedHeap") ∈ nsts := List.mem_of_getElem? (i := 3) rfl
theorem ml_X1_51 : (RX1, 51, yX6_isIn, "ReachedHeap") ∈ nsts := List.mem_of_getElem? (i := 4) rfl
theorem ml_X1_61 : (RX1, 61, yX6_lowestOf, "ReachedHeap") ∈ nsts := List.mem_of_getElem? (i := 5) rfl
theorem ml_X2_17 : (RX2, 17, yX5_init, "ReachedHeap") ∈ nsts := List.mem_of_getElem? (i := 6) rfl
theorem ml_X2_39 : (RX2, 39, yX6_isError, "ReachedHeap") ∈ nsts := List.mem_of_getElem? (i := 7) rfl
theorem ml_X3_19 : (RX3, 19, yX6_isIn, "ReachedHeap") ∈ nsts := List.mem_of_getElem? (i := 8) rfl
theorem ml_X3_29 : (RX3, 29, yX6_bit, "ReachedHeap") ∈ nsts := List.mem_of_getElem? (i := 9) rfl
theorem ml_X4_17 : (RX4, 17, yX3_init, "ReachedHeap") ∈ nsts := List.mem_of_getElem? (i := 10) rfl
theorem ml_X4_25 : (RX4, 25, yX6_bit, "ReachedHeap") ∈ nsts := List.mem_of_getElem? (i := 11) rfl
theorem ml_X4_104 : (RX4, 104, yX6_lowestOf, "ReachedHeap") ∈ nsts := List.mem_of_getElem? (i := 12) rfl
theorem ml_X5_20 : (RX5, 20, yX4_init, "ReachedHeap") ∈ nsts := List.mem_of_getElem? (i := 13) rfl
theorem ml_X5_33 : (RX5, 33, yX6_isIn, "ReachedHeap") ∈ nsts := List.mem_of_getElem? (i := 14) rfl
theorem ml_X5_62 : (RX5, 62, yX6_bit, "ReachedHeap") ∈ nsts := List.mem_of_getElem? (i := 15) rfl
abbrev rm_X6_bit : Room := { frames := 0, cells := 0, slots := 0, locals := 0 }
abbrev rm_X6_isIn : Room := { frames := 0, cells := 0, slots := 0, locals := 0 }
abbrev rm_X6_isError : Room := { frames := 0, cells := 0, slots := 0, locals := 0 }
abbrev rm_X6_lowestOf : Room := { frames := 1, cells := 0, slots := 0, locals := 21 }
abbrev rm_J6_bitCount_0f7a4 : Room := { frames := 0, cells := 0, slots := 0, locals := 0 }
abbrev rm_L_low : Room := { frames := 0, cells := 0, slots := 0, locals := 0 }
abbrev rm_X3_append : Room := { frames := 0, cells := 0, slots := 0, locals := 0 }
abbrev rm_X3_at : Room := { frames := 1, cells := 0, slots := 0, locals := 21 }
abbrev rm_X3_takeFirst : Room := { frames := 1, cells := 0, slots := 0, locals := 26 }
abbrev rm_X3_placeOf : Room := { frames := 0, cells := 0, slots := 0, locals := 0 }
abbrev rm_X3_asSet : Room := { frames := 1, cells := 0, slots := 0, locals := 20 }
abbrev rm_X1_has : Room := { frames := 1, cells := 0, slots := 0, locals := 20 }
abbrev rm_X1_hasOrNone : Room := { frames := 2, cells := 0, slots := 0, locals := 41 }
abbrev rm_X1_size : Room := { frames := 1, cells := 0, slots := 0, locals := 20 }
abbrev rm_X1_fieldOf : Room := { frames := 1, cells := 0, slots := 0, locals := 21 }
abbrev rm_X1_setField : Room := { frames := 0, cells := 0, slots := 0, locals := 0 }
abbrev rm_X1_rootAt : Room := { frames := 1, cells := 0, slots := 0, locals := 21 }
abbrev rm_X1_holderAt : Room := { frames := 1, cells := 0, slots := 0, locals := 21 }
abbrev rm_X1_tellReferred : Room := { frames := 2, cells := 0, slots := 0, locals := 42 }
abbrev rm_X1_bring : Room := { frames := 2, cells := 0, slots := 0, locals := 43 }
abbrev rm_X1_forget : Room := { frames := 0, cells := 0, slots := 0, locals := 0 }
abbrev rm_X1_letGo : Room := { frames := 1, cells := 0, slots := 0, locals := 23 }
abbrev rm_X1_emptyHoldersOf : Room := { frames := 1, cells := 0, slots := 0, locals := 20 }
abbrev rm_X1_setOfRoots : Room := { frames := 1, cells := 0, slots := 0, locals := 20 }
abbrev rm_X1_behind : Room := { frames := 1, cells := 0, slots := 0, locals := 20 }
abbrev rm_X1_reachedFrom : Room := { frames := 2, cells := 0, slots := 0, locals := 43 }
abbrev rm_X1_reachedByRoots : Room := { frames := 3, cells := 0, slots := 0, locals := 68 }
abbrev rm_X1_reachedByAll : Room := { frames := 3, cells := 0, slots := 0, locals := 68 }
abbrev rm_X4_isThere : Room := { frames := 0, cells := 0, slots := 0, locals := 0 }
abbrev rm_X4_needsCare : Room := { frames := 0, cells := 0, slots := 0, locals := 0 }
abbrev rm_X4_isBlack : Room := { frames := 1, cells := 0, slots := 0, locals := 20 }
abbrev rm_X4_colourOf : Room := { frames := 2, cells := 0, slots := 0, locals := 41 }
abbrev rm_X4_shade : Room := { frames := 1, cells := 0, slots := 0, locals := 21 }
abbrev rm_X4_colourNewOne : Room := { frames := 1, cells := 0, slots := 0, locals := 20 }
abbrev rm_X4_whiteOnes : Room := { frames := 0, cells := 0, slots := 0, locals := 0 }
abbrev rm_X4_open : Room := { frames := 2, cells := 0, slots := 0, locals := 43 }
abbrev rm_X4_findToFinish : Room := { frames := 2, cells := 0, slots := 0, locals := 43 }
abbrev rm_X4_markFirst : Room := { frames := 2, cells := 0, slots := 0, locals := 47 }
abbrev rm_X4_sweep : Room := { frames := 2, cells := 0, slots := 0, locals := 45 }
abbrev rm_X4_advance : Room := { frames := 3, cells := 0, slots := 0, locals := 70 }
abbrev rm_X5_takeCare : Room := { frames := 2, cells := 0, slots := 0, locals := 43 }
abbrev rm_X5_referRoot : Room := { frames := 3, cells := 0, slots := 0, locals := 66 }
abbrev rm_X5_create : Room := { frames := 4, cells := 0, slots := 0, locals := 89 }
abbrev rm_X5_writeField : Room := { frames := 4, cells := 0, slots := 0, locals := 88 }
abbrev rm_X5_writeRoot : Room := { frames := 4, cells := 0, slots := 0, locals := 89 }
abbrev rm_X5_writeHolder : Room := { frames := 4, cells := 0, slots := 0, locals := 88 }
abbrev rm_X5_shadeIfCareIsNeeded : Room := { frames := 2, cells := 0, slots := 0, locals := 43 }
abbrev rm_X5_askHolder : Room := { frames := 4, cells := 0, slots := 0, locals := 89 }
abbrev rm_X5_wishFinish : Room := { frames := 4, cells := 0, slots := 0, locals := 88 }
abbrev rm_X5_finishFirst : Room := { frames := 4, cells := 0, slots := 0, locals := 89 }
abbrev rm_X5_beginSearch : Room := { frames := 3, cells := 0, slots := 0, locals := 65 }
abbrev rm_X5_doSteps : Room := { frames := 4, cells := 0, slots := 0, locals := 91 }
abbrev rm_X5_doAllSteps : Room := { frames := 4, cells := 0, slots := 0, locals := 91 }
abbrev rm_X5_setCare : Room := { frames := 1, cells := 0, slots := 0, locals := 20 }
abbrev rm_X5_tellObject : Room := { frames := 4, cells := 0, slots := 0, locals := 88 }
abbrev rm_X5_tellSet : Room := { frames := 4, cells := 0, slots := 0, locals := 88 }
abbrev rm_X5_tellNumber : Room := { frames := 2, cells := 0, slots := 0, locals := 40 }
abbrev rm_J9_floorMod_7cf53 : Room := { frames := 0, cells := 0, slots := 0, locals := 0 }
abbrev rm_X2_settle : Room := { frames := 1, cells := 0, slots := 0, locals := 22 }
abbrev rm_X6_all : Room := { frames := 5, cells := 0, slots := 0, locals := 112 }
abbrev rm_X6_ask : Room := { frames := 5, cells := 0, slots := 0, locals := 112 }
abbrev rm_X6_begin : Room := { frames := 5, cells := 0, slots := 0, locals := 110 }
abbrev rm_X6_count : Room := { frames := 3, cells := 0, slots := 0, locals := 61 }
abbrev rm_X6_field : Room := { frames := 5, cells := 0, slots := 0, locals := 112 }
abbrev rm_X6_finish : Room := { frames := 5, cells := 0, slots := 0, locals := 111 }
abbrev rm_X6_grey : Room := { frames := 2, cells := 0, slots := 0, locals := 42 }
abbrev rm_X6_make : Room := { frames := 5, cells := 0, slots := 0, locals := 111 }
abbrev rm_X6_objectOf : Room := { frames := 5, cells := 0, slots := 0, locals := 110 }
abbrev rm_X6_objects : Room := { frames := 5, cells := 0, slots := 0, locals := 109 }
abbrev rm_X6_refers : Room := { frames := 3, cells := 0, slots := 0, locals := 65 }
abbrev rm_X6_root : Room := { frames := 5, cells := 0, slots := 0, locals := 112 }
abbrev rm_X6_set : Room := { frames := 5, cells := 0, slots := 0, locals := 110 }
abbrev rm_X6_step : Room := { frames := 5, cells := 0, slots := 0, locals := 114 }
abbrev rm_X6_want : Room := { frames := 5, cells := 0, slots := 0, locals := 110 }
abbrev rm_X6_weak : Room := { frames := 5, cells := 0, slots := 0, locals := 111 }
abbrev rm_L_at : Room := { frames := 0, cells := 0, slots := 0, locals := 0 }
abbrev rm_L_put : Room := { frames := 1, cells := 0, slots := 0, locals := 21 }
abbrev rm_L_spread : Room := { frames := 1, cells := 0, slots := 0, locals := 21 }
abbrev rm_L_rooted : Room := { frames := 2, cells := 0, slots := 0, locals := 47 }
abbrev rm_L_reached : Room := { frames := 3, cells := 0, slots := 0, locals := 71 }
abbrev rm_L_shade : Room := { frames := 0, cells := 0, slots := 0, locals := 0 }
abbrev rm_L_care : Room := { frames := 1, cells := 0, slots := 0, locals := 23 }
abbrev rm_L_writeRoot : Room := { frames := 2, cells := 0, slots := 0, locals := 49 }
abbrev rm_L_start : Room := { frames := 1, cells := 0, slots := 0, locals := 23 }
abbrev rm_L_sweep : Room := { frames := 2, cells := 0, slots := 0, locals := 43 }
abbrev rm_L_go : Room := { frames := 3, cells := 0, slots := 0, locals := 68 }
abbrev rm_L_searches : Room := { frames := 6, cells := 0, slots := 0, locals := 135 }
abbrev rm_L_writes : Room := { frames := 6, cells := 0, slots := 0, locals := 135 }
abbrev rm_L_acts : Room := { frames := 7, cells := 0, slots := 0, locals := 174 }
abbrev rm_L_areObjects : Room := { frames := 6, cells := 0, slots := 0, locals := 132 }
abbrev rm_L_isSo : Room := { frames := 7, cells := 1, slots := 7, locals := 164 }
abbrev rm_X3_copyFrom : Room := { frames := 1, cells := 0, slots := 0, locals := 26 }
abbrev rm_X1_copyFrom : Room := { frames := 2, cells := 0, slots := 0, locals := 47 }
abbrev rm_X4_copyFrom : Room := { frames := 2, cells := 0, slots := 0, locals := 47 }
abbrev rm_X5_copyFrom : Room := { frames := 3, cells := 0, slots := 0, locals := 68 }
abbrev rm_X2_stateAt : Room := { frames := 1, cells := 0, slots := 0, locals := 22 }
abbrev rm_X2_note : Room := { frames := 4, cells := 0, slots := 0, locals := 89 }
theorem yv_X6_bit : yS yX6_bit cX6_bit 1 (some .int) 1 := ⟨⟨tb2 77 rfl, tb1 1 rfl, tb2 78 rfl⟩, by decide +kernel, by decide +kernel, by decide +kernel⟩
theorem yv_X6_isIn : yS yX6_isIn cX6_isIn 2 (some .boolean) 2 := ⟨⟨tb1 224 rfl, tb1 1 rfl, tb1 225 rfl⟩, by decide +kernel, by decide +kernel, by decide +kernel⟩
theorem yv_X6_isError : yS yX6_isError cX6_isError 1 (some .boolean) 1 := ⟨⟨tb2 111 rfl, tb1 1 rfl, tb2 112 rfl⟩, by decide +kernel, by decide +kernel, by decide +kernel⟩
theorem yv_X6_lowestOf : yS yX6_lowestOf cX6_lowestOf 3 (some .int) 2 := ⟨⟨tb2 71 rfl, tb1 1 rfl, tb2 72 rfl⟩, by decide +kernel, by decide +kernel, by decide +kernel⟩
theorem yv_J6_bitCount_0f7a4 : yS yJ6_bitCount_0f7a4 cJ6_bitCount_0f7a4 1 (some .int) 1 := ⟨⟨tb2 7 rfl, tb1 9 rfl, tb2 8 rfl⟩, by decide +kernel, by decide +kernel, by decide +kernel⟩
theorem yv_L_low : yS yL_low cL_low 2 (some .int) 2 := ⟨⟨tb2 17 rfl, tb1 0 rfl, tb2 18 rfl⟩, by decide +kernel, by decide +kernel, by decide +kernel⟩
theorem yv_X3_append : yV yX3_append RX3 cX3_append 2 (none) 1 := ⟨⟨tb2 103 rfl, tb2 104 rfl, tb1 4 rfl, tb2 105 rfl⟩, rfl, by decide +kernel, by decide +kernel, by decide +kernel⟩
theorem yv_X3_at : yV yX3_at RX3 cX3_at 2 (some .int) 1 := ⟨⟨tb3 24 rfl, tb3 25 rfl, tb1 4 rfl, tb3 26 rfl⟩, rfl, by decide +kernel, by decide +kernel, by decide +kernel⟩
theorem yv_X3_takeFirst : yV yX3_takeFirst RX3 cX3_takeFirst 2 (some .int) 0 := ⟨⟨tb2 239 rfl, tb3 0 rfl, tb1 4 rfl, tb3 1 rfl⟩, rfl, by decide +kernel, by decide +kernel, by decide +kernel⟩
theorem yv_X3_placeOf : yV yX3_placeOf RX3 cX3_placeOf 3 (some .int) 1 := ⟨⟨tb3 120 rfl, tb3 121 rfl, tb1 4 rfl, tb3 122 rfl⟩, rfl, by decide +kernel, by decide +kernel, by decide +kernel⟩
theorem yv_X3_asSet : yV yX3_asSet RX3 cX3_asSet 3 (some .int) 0 := ⟨⟨tb2 164 rfl, tb2 165 rfl, tb1 4 rfl, tb2 166 rfl⟩, rfl, by decide +kernel, by decide +kernel, by decide +kernel⟩
theorem yv_X1_has : yV yX1_has RX1 cX1_has 2 (some .boolean) 1 := ⟨⟨tb2 146 rfl, tb2 147 rfl, tb1 3 rfl, tb2 148 rfl⟩, rfl, by decide +kernel, by decide +kernel, by decide +kernel⟩
theorem yv_X1_hasOrNone : yV yX1_hasOrNone RX1 cX1_hasOrNone 2 (some .boolean) 1 := ⟨⟨tb2 150 rfl, tb2 151 rfl, tb1 3 rfl, tb2 152 rfl⟩, rfl, by decide +kernel, by decide +kernel, by decide +kernel⟩
theorem yv_X1_size : yV yX1_size RX1 cX1_size 1 (some .int) 0 := ⟨⟨tb2 3 rfl, tb2 4 rfl, tb1 3 rfl, tb2 5 rfl⟩, rfl, by decide +kernel, by decide +kernel, by decide +kernel⟩
theorem yv_X1_fieldOf : yV yX1_fieldOf RX1 cX1_fieldOf 3 (some .int) 2 := ⟨⟨tb2 177 rfl, tb2 178 rfl, tb1 3 rfl, tb2 179 rfl⟩, rfl, by decide +kernel, by decide +kernel, by decide +kernel⟩
theorem yv_X1_setField : yV yX1_setField RX1 cX1_setField 4 (none) 3 := ⟨⟨tb2 181 rfl, tb2 182 rfl, tb1 3 rfl, tb2 183 rfl⟩, rfl, by decide +kernel, by decide +kernel, by decide +kernel⟩
theorem yv_X1_rootAt : yV yX1_rootAt RX1 cX1_rootAt 2 (some .int) 1 := ⟨⟨tb1 227 rfl, tb1 228 rfl, tb1 3 rfl, tb1 229 rfl⟩, rfl, by decide +kernel, by decide +kernel, by decide +kernel⟩
theorem yv_X1_holderAt : yV yX1_holderAt RX1 cX1_holderAt 2 (some .int) 1 := ⟨⟨tb1 231 rfl, tb1 232 rfl, tb1 3 rfl, tb1 233 rfl⟩, rfl, by decide +kernel, by decide +kernel, by decide +kernel⟩
theorem yv_X1_tellReferred : yV yX1_tellReferred RX1 cX1_tellReferred 4 (some .int) 2 := ⟨⟨tb1 220 rfl, tb1 221 rfl, tb1 3 rfl, tb1 222 rfl⟩, rfl, by decide +kernel, by decide +kernel, by decide +kernel⟩
theorem yv_X1_bring : yV yX1_bring RX1 cX1_bring 2 (some .int) 0 := ⟨⟨tb2 67 rfl, tb2 68 rfl, tb1 3 rfl, tb2 69 rfl⟩, rfl, by decide +kernel, by decide +kernel, by decide +kernel⟩
theorem yv_X1_forget : yS yX1_forget cX1_forget 3 (none) 2 := ⟨⟨tb3 58 rfl, tb1 3 rfl, tb3 59 rfl⟩, by decide +kernel, by decide +kernel, by decide +kernel⟩
theorem yv_X1_letGo : yV yX1_letGo RX1 cX1_letGo 3 (none) 1 := ⟨⟨tb3 53 rfl, tb3 54 rfl, tb1 3 rfl, tb3 55 rfl⟩, rfl, by decide +kernel, by decide +kernel, by decide +kernel⟩
theorem yv_X1_emptyHoldersOf : yV yX1_emptyHoldersOf RX1 cX1_emptyHoldersOf 3 (none) 1 := ⟨⟨tb3 67 rfl, tb3 68 rfl, tb1 3 rfl, tb3 69 rfl⟩, rfl, by decide +kernel, by decide +kernel, by decide +kernel⟩
theorem yv_X1_setOfRoots : yV yX1_setOfRoots RX1 cX1_setOfRoots 3 (some .int) 0 := ⟨⟨tb2 160 rfl, tb2 161 rfl, tb1 3 rfl, tb2 162 rfl⟩, rfl, by decide +kernel, by decide +kernel, by decide +kernel⟩
theorem yv_X1_behind : yV yX1_behind RX1 cX1_behind 4 (some .int) 1 := ⟨⟨tb2 173 rfl, tb2 174 rfl, tb1 3 rfl, tb2 175 rfl⟩, rfl, by decide +kernel, by decide +kernel, by decide +kernel⟩
theorem yv_X1_reachedFrom : yV yX1_reachedFrom RX1 cX1_reachedFrom 6 (some .int) 2 := ⟨⟨tb2 169 rfl, tb2 170 rfl, tb1 3 rfl, tb2 171 rfl⟩, rfl, by decide +kernel, by decide +kernel, by decide +kernel⟩
theorem yv_X1_reachedByRoots : yV yX1_reachedByRoots RX1 cX1_reachedByRoots 1 (some .int) 0 := ⟨⟨tb3 116 rfl, tb3 117 rfl, tb1 3 rfl, tb3 118 rfl⟩, rfl, by decide +kernel, by decide +kernel, by decide +kernel⟩
theorem yv_X1_reachedByAll : yV yX1_reachedByAll RX1 cX1_reachedByAll 1 (some .int) 0 := ⟨⟨tb2 156 rfl, tb2 157 rfl, tb1 3 rfl, tb2 158 rfl⟩, rfl, by decide +kernel, by decide +kernel, by decide +kernel⟩
theorem yv_X4_isThere : yV yX4_isThere RX4 cX4_isThere 1 (some .boolean) 0 := ⟨⟨tb3 14 rfl, tb3 15 rfl, tb1 6 rfl, tb3 16 rfl⟩, rfl, by decide +kernel, by decide +kernel, by decide +kernel⟩
theorem yv_X4_needsCare : yV yX4_needsCare RX4 cX4_needsCare 1 (some .boolean) 0 := ⟨⟨tb2 85 rfl, tb2 86 rfl, tb1 6 rfl, tb2 87 rfl⟩, rfl, by decide +kernel, by decide +kernel, by decide +kernel⟩
theorem yv_X4_isBlack : yV yX4_isBlack RX4 cX4_isBlack 2 (some .boolean) 1 := ⟨⟨tb2 185 rfl, tb2 186 rfl, tb1 6 rfl, tb2 187 rfl⟩, rfl, by decide +kernel, by decide +kernel, by decide +kernel⟩
theorem yv_X4_colourOf : yV yX4_colourOf RX4 cX4_colourOf 2 (some .int) 1 := ⟨⟨tb3 111 rfl, tb3 112 rfl, tb1 6 rfl, tb3 113 rfl⟩, rfl, by decide +kernel, by decide +kernel, by decide +kernel⟩
theorem yv_X4_shade : yV yX4_shade RX4 cX4_shade 3 (none) 1 := ⟨⟨tb2 99 rfl, tb2 100 rfl, tb1 6 rfl, tb2 101 rfl⟩, rfl, by decide +kernel, by decide +kernel, by decide +kernel⟩
theorem yv_X4_colourNewOne : yV yX4_colourNewOne RX4 cX4_colourNewOne 2 (none) 1 := ⟨⟨tb2 81 rfl, tb2 82 rfl, tb1 6 rfl, tb2 83 rfl⟩, rfl, by decide +kernel, by decide +kernel, by decide +kernel⟩
theorem yv_X4_whiteOnes : yV yX4_whiteOnes RX4 cX4_whiteOnes 2 (some .int) 1 := ⟨⟨tb3 49 rfl, tb3 50 rfl, tb1 6 rfl, tb3 51 rfl⟩, rfl, by decide +kernel, by decide +kernel, by decide +kernel⟩
theorem yv_X4_open : yV yX4_open RX4 cX4_open 3 (none) 1 := ⟨⟨tb3 18 rfl, tb3 19 rfl, tb1 6 rfl, tb3 20 rfl⟩, rfl, by decide +kernel, by decide +kernel, by decide +kernel⟩
theorem yv_X4_findToFinish : yV yX4_findToFinish RX4 cX4_findToFinish 3 (none) 1 := ⟨⟨tb3 72 rfl, tbs (yX4_findToFinish, 9) (List.mem_of_getElem? (i := 6) rfl), tb1 6 rfl, tb3 73 rfl⟩, rfl, by decide +kernel, by decide +kernel, by decide +kernel⟩
theorem yv_X4_markFirst : yV yX4_markFirst RX4 cX4_markFirst 4 (none) 1 := ⟨⟨tb3 62 rfl, tbs (yX4_markFirst, 9) (List.mem_of_getElem? (i := 5) rfl), tb1 6 rfl, tb3 63 rfl⟩, rfl, by decide +kernel, by decide +kernel, by decide +kernel⟩
theorem yv_X4_sweep : yV yX4_sweep RX4 cX4_sweep 4 (none) 1 := ⟨⟨tb3 45 rfl, tbs (yX4_sweep, 9) (List.mem_of_getElem? (i := 4) rfl), tb1 6 rfl, tb3 46 rfl⟩, rfl, by decide +kernel, by decide +kernel, by decide +kernel⟩
theorem yv_X4_advance : yV yX4_advance RX4 cX4_advance 2 (none) 1 := ⟨⟨tb3 40 rfl, tb3 41 rfl, tb1 6 rfl, tb3 42 rfl⟩, rfl, by decide +kernel, by decide +kernel, by decide +kernel⟩
theorem yv_X5_takeCare : yV yX5_takeCare RX5 cX5_takeCare 4 (none) 3 := ⟨⟨tb2 95 rfl, tbs (yX5_takeCare, 6) (List.mem_of_getElem? (i := 2) rfl), tb1 2 rfl, tb2 96 rfl⟩, rfl, by decide +kernel, by decide +kernel, by decide +kernel⟩
theorem yv_X5_referRoot : yV yX5_referRoot RX5 cX5_referRoot 4 (none) 2 := ⟨⟨tb2 91 rfl, tbs (yX5_referRoot, 6) (List.mem_of_getElem? (i := 1) rfl), tb1 2 rfl, tb2 92 rfl⟩, rfl, by decide +kernel, by decide +kernel, by decide +kernel⟩
theorem yv_X5_create : yV yX5_create RX5 cX5_create 3 (some .int) 1 := ⟨⟨tb2 62 rfl, tb2 63 rfl, tb1 2 rfl, tb2 64 rfl⟩, rfl, by decide +kernel, by decide +kernel, by decide +kernel⟩
theorem yv_X5_writeField : yV yX5_writeField RX5 cX5_writeField 5 (some .int) 3 := ⟨⟨tb2 142 rfl, tb2 143 rfl, tb1 2 rfl, tb2 144 rfl⟩, rfl, by decide +kernel, by decide +kernel, by decide +kernel⟩
theorem yv_X5_writeRoot : yV yX5_writeRoot RX5 cX5_writeRoot 4 (some .int) 2 := ⟨⟨tb2 196 rfl, tb2 197 rfl, tb1 2 rfl, tb2 198 rfl⟩, rfl, by decide +kernel, by decide +kernel, by decide +kernel⟩
theorem yv_X5_writeHolder : yV yX5_writeHolder RX5 cX5_writeHolder 4 (some .int) 2 := ⟨⟨tb2 205 rfl, tb2 206 rfl, tb1 2 rfl, tb2 207 rfl⟩, rfl, by decide +kernel, by decide +kernel, by decide +kernel⟩
theorem yv_X5_shadeIfCareIsNeeded : yV yX5_shadeIfCareIsNeeded RX5 cX5_shadeIfCareIsNeeded 2 (none) 1 := ⟨⟨tb2 219 rfl, tbs (yX5_shadeIfCareIsNeeded, 6) (List.mem_of_getElem? (i := 3) rfl), tb1 2 rfl, tb2 220 rfl⟩, rfl, by decide +kernel, by decide +kernel, by decide +kernel⟩
theorem yv_X5_askHolder : yV yX5_askHolder RX5 cX5_askHolder 4 (some .int) 2 := ⟨⟨tb2 214 rfl, tb2 215 rfl, tb1 2 rfl, tb2 216 rfl⟩, rfl, by decide +kernel, by decide +kernel, by decide +kernel⟩
theorem yv_X5_wishFinish : yV yX5_wishFinish RX5 cX5_wishFinish 2 (some .int) 1 := ⟨⟨tb2 226 rfl, tb2 227 rfl, tb1 2 rfl, tb2 228 rfl⟩, rfl, by decide +kernel, by decide +kernel, by decide +kernel⟩
theorem yv_X5_finishFirst : yV yX5_finishFirst RX5 cX5_finishFirst 3 (some .int) 1 := ⟨⟨tb2 235 rfl, tb2 236 rfl, tb1 2 rfl, tb2 237 rfl⟩, rfl, by decide +kernel, by decide +kernel, by decide +kernel⟩
theorem yv_X5_beginSearch : yV yX5_beginSearch RX5 cX5_beginSearch 1 (some .int) 0 := ⟨⟨tb3 10 rfl, tb3 11 rfl, tb1 2 rfl, tb3 12 rfl⟩, rfl, by decide +kernel, by decide +kernel, by decide +kernel⟩
theorem yv_X5_doSteps : yV yX5_doSteps RX5 cX5_doSteps 4 (some .int) 1 := ⟨⟨tb3 36 rfl, tb3 37 rfl, tb1 2 rfl, tb3 38 rfl⟩, rfl, by decide +kernel, by decide +kernel, by decide +kernel⟩
theorem yv_X5_doAllSteps : yV yX5_doAllSteps RX5 cX5_doAllSteps 2 (some .int) 0 := ⟨⟨tb3 85 rfl, tb3 86 rfl, tb1 2 rfl, tb3 87 rfl⟩, rfl, by decide +kernel, by decide +kernel, by decide +kernel⟩
theorem yv_X5_setCare : yV yX5_setCare RX5 cX5_setCare 3 (some .int) 1 := ⟨⟨tb3 93 rfl, tb3 94 rfl, tb1 2 rfl, tb3 95 rfl⟩, rfl, by decide +kernel, by decide +kernel, by decide +kernel⟩
theorem yv_X5_tellObject : yV yX5_tellObject RX5 cX5_tellObject 3 (some .int) 2 := ⟨⟨tb3 107 rfl, tb3 108 rfl, tb1 2 rfl, tb3 109 rfl⟩, rfl, by decide +kernel, by decide +kernel, by decide +kernel⟩
theorem yv_X5_tellSet : yV yX5_tellSet RX5 cX5_tellSet 2 (some .int) 1 := ⟨⟨tb3 128 rfl, tb3 129 rfl, tb1 2 rfl, tb3 130 rfl⟩, rfl, by decide +kernel, by decide +kernel, by decide +kernel⟩
theorem yv_X5_tellNumber : yV yX5_tellNumber RX5 cX5_tellNumber 2 (some .int) 1 := ⟨⟨tb1 239 rfl, tb2 0 rfl, tb1 2 rfl, tb2 1 rfl⟩, rfl, by decide +kernel, by decide +kernel, by decide +kernel⟩
theorem yv_J9_floorMod_7cf53 : yS yJ9_floorMod_7cf53 cJ9_floorMod_7cf53 3 (some .int) 2 := ⟨⟨tb2 37 rfl, tb1 10 rfl, tb2 38 rfl⟩, by decide +kernel, by decide +kernel, by decide +kernel⟩
theorem yv_X2_settle : yV yX2_settle RX2 cX2_settle 2 (some .int) 1 := ⟨⟨tb2 107 rfl, tb2 108 rfl, tb1 7 rfl, tb2 109 rfl⟩, rfl, by decide +kernel, by decide +kernel, by decide +kernel⟩
theorem yv_X6_all : yV yX6_all RX6 cX6_all 1 (some .int) 0 := ⟨⟨tb3 81 rfl, tb3 82 rfl, tb1 1 rfl, tb3 83 rfl⟩, rfl, by decide +kernel, by decide +kernel, by decide +kernel⟩
theorem yv_X6_ask : yV yX6_ask RX6 cX6_ask 3 (some .int) 2 := ⟨⟨tb2 210 rfl, tb2 211 rfl, tb1 1 rfl, tb2 212 rfl⟩, rfl, by decide +kernel, by decide +kernel, by decide +kernel⟩
theorem yv_X6_begin : yV yX6_begin RX6 cX6_begin 1 (some .int) 0 := ⟨⟨tb3 6 rfl, tb3 7 rfl, tb1 1 rfl, tb3 8 rfl⟩, rfl, by decide +kernel, by decide +kernel, by decide +kernel⟩
theorem yv_X6_count : yV yX6_count RX6 cX6_count 2 (some .int) 1 := ⟨⟨tb1 235 rfl, tb1 236 rfl, tb1 1 rfl, tb1 237 rfl⟩, rfl, by decide +kernel, by decide +kernel, by decide +kernel⟩
theorem yv_X6_field : yV yX6_field RX6 cX6_field 4 (some .int) 3 := ⟨⟨tb2 138 rfl, tb2 139 rfl, tb1 1 rfl, tb2 140 rfl⟩, rfl, by decide +kernel, by decide +kernel, by decide +kernel⟩
theorem yv_X6_finish : yV yX6_finish RX6 cX6_finish 2 (some .int) 1 := ⟨⟨tb2 231 rfl, tb2 232 rfl, tb1 1 rfl, tb2 233 rfl⟩, rfl, by decide +kernel, by decide +kernel, by decide +kernel⟩
theorem yv_X6_grey : yV yX6_grey RX6 cX6_grey 3 (some .int) 1 := ⟨⟨tb3 133 rfl, tb3 134 rfl, tb1 1 rfl, tb3 135 rfl⟩, rfl, by decide +kernel, by decide +kernel, by decide +kernel⟩
theorem yv_X6_make : yV yX6_make RX6 cX6_make 2 (some .int) 1 := ⟨⟨tb2 25 rfl, tb2 26 rfl, tb1 1 rfl, tb2 27 rfl⟩, rfl, by decide +kernel, by decide +kernel, by decide +kernel⟩
theorem yv_X6_objectOf : yV yX6_objectOf RX6 cX6_objectOf 3 (some .int) 2 := ⟨⟨tb3 103 rfl, tb3 104 rfl, tb1 1 rfl, tb3 105 rfl⟩, rfl, by decide +kernel, by decide +kernel, by decide +kernel⟩
theorem yv_X6_objects : yV yX6_objects RX6 cX6_objects 2 (some .int) 1 := ⟨⟨tb3 124 rfl, tb3 125 rfl, tb1 1 rfl, tb3 126 rfl⟩, rfl, by decide +kernel, by decide +kernel, by decide +kernel⟩
theorem yv_X6_refers : yV yX6_refers RX6 cX6_refers 3 (some .int) 2 := ⟨⟨tb1 216 rfl, tb1 217 rfl, tb1 1 rfl, tb1 218 rfl⟩, rfl, by decide +kernel, by decide +kernel, by decide +kernel⟩
theorem yv_X6_root : yV yX6_root RX6 cX6_root 3 (some .int) 2 := ⟨⟨tb2 192 rfl, tb2 193 rfl, tb1 1 rfl, tb2 194 rfl⟩, rfl, by decide +kernel, by decide +kernel, by decide +kernel⟩
theorem yv_X6_set : yV yX6_set RX6 cX6_set 2 (some .int) 1 := ⟨⟨tb3 89 rfl, tb3 90 rfl, tb1 1 rfl, tb3 91 rfl⟩, rfl, by decide +kernel, by decide +kernel, by decide +kernel⟩
theorem yv_X6_step : yV yX6_step RX6 cX6_step 2 (some .int) 1 := ⟨⟨tb3 32 rfl, tb3 33 rfl, tb1 1 rfl, tb3 34 rfl⟩, rfl, by decide +kernel, by decide +kernel, by decide +kernel⟩
theorem yv_X6_want : yV yX6_want RX6 cX6_want 2 (some .int) 1 := ⟨⟨tb2 222 rfl, tb2 223 rfl, tb1 1 rfl, tb2 224 rfl⟩, rfl, by decide +kernel, by decide +kernel, by decide +kernel⟩
theorem yv_X6_weak : yV yX6_weak RX6 cX6_weak 3 (some .int) 2 := ⟨⟨tb2 201 rfl, tb2 202 rfl, tb1 1 rfl, tb2 203 rfl⟩, rfl, by decide +kernel, by decide +kernel, by decide +kernel⟩
theorem yv_L_at : yS yL_at cL_at 2 (some .int) 2 := ⟨⟨tb2 135 rfl, tb1 0 rfl, tb2 136 rfl⟩, by decide +kernel, by decide +kernel, by decide +kernel⟩
theorem yv_L_put : yS yL_put cL_put 3 (none) 3 := ⟨⟨tb2 189 rfl, tb1 0 rfl, tb2 190 rfl⟩, by decide +kernel, by decide +kernel, by decide +kernel⟩
theorem yv_L_spread : yS yL_spread cL_spread 7 (some .int) 3 := ⟨⟨tb2 132 rfl, tb1 0 rfl, tb2 133 rfl⟩, by decide +kernel, by decide +kernel, by decide +kernel⟩
theorem yv_L_rooted : yS yL_rooted cL_rooted 5 (some .int) 3 := ⟨⟨tb2 129 rfl, tb1 0 rfl, tb2 130 rfl⟩, by decide +kernel, by decide +kernel, by decide +kernel⟩
theorem yv_L_reached : yS yL_reached cL_reached 6 (some .int) 4 := ⟨⟨tb2 126 rfl, tb1 0 rfl, tb2 127 rfl⟩, by decide +kernel, by decide +kernel, by decide +kernel⟩
theorem yv_L_shade : yS yL_shade cL_shade 4 (none) 4 := ⟨⟨tb2 120 rfl, tb1 0 rfl, tb2 121 rfl⟩, by decide +kernel, by decide +kernel, by decide +kernel⟩
theorem yv_L_care : yS yL_care cL_care 7 (none) 6 := ⟨⟨tb2 117 rfl, tb1 0 rfl, tb2 118 rfl⟩, by decide +kernel, by decide +kernel, by decide +kernel⟩
theorem yv_L_writeRoot : yS yL_writeRoot cL_writeRoot 7 (some .int) 6 := ⟨⟨tb2 114 rfl, tb1 0 rfl, tb2 115 rfl⟩, by decide +kernel, by decide +kernel, by decide +kernel⟩
theorem yv_L_start : yS yL_start cL_start 7 (none) 6 := ⟨⟨tb3 29 rfl, tb1 0 rfl, tb3 30 rfl⟩, by decide +kernel, by decide +kernel, by decide +kernel⟩
theorem yv_L_sweep : yS yL_sweep cL_sweep 6 (none) 4 := ⟨⟨tb3 78 rfl, tb1 0 rfl, tb3 79 rfl⟩, by decide +kernel, by decide +kernel, by decide +kernel⟩
theorem yv_L_go : yS yL_go cL_go 9 (none) 7 := ⟨⟨tb3 75 rfl, tb1 0 rfl, tb3 76 rfl⟩, by decide +kernel, by decide +kernel, by decide +kernel⟩
theorem yv_L_searches : yS yL_searches cL_searches 14 (some .boolean) 11 := ⟨⟨tb3 3 rfl, tb1 0 rfl, tb3 4 rfl⟩, by decide +kernel, by decide +kernel, by decide +kernel⟩
theorem yv_L_writes : yS yL_writes cL_writes 20 (some .boolean) 11 := ⟨⟨tb2 123 rfl, tb1 0 rfl, tb2 124 rfl⟩, by decide +kernel, by decide +kernel, by decide +kernel⟩
theorem yv_L_acts : yS yL_acts cL_acts 13 (some .boolean) 10 := ⟨⟨tb2 21 rfl, tb1 0 rfl, tb2 22 rfl⟩, by decide +kernel, by decide +kernel, by decide +kernel⟩
theorem yv_L_areObjects : yS yL_areObjects cL_areObjects 13 (some .boolean) 8 := ⟨⟨tb3 100 rfl, tb1 0 rfl, tb3 101 rfl⟩, by decide +kernel, by decide +kernel, by decide +kernel⟩
theorem yv_L_isSo : yS yL_isSo cL_isSo 14 (some .boolean) 9 := ⟨⟨tb3 97 rfl, tb1 0 rfl, tb3 98 rfl⟩, by decide +kernel, by decide +kernel, by decide +kernel⟩
theorem yv_X3_copyFrom : yV yX3_copyFrom RX3 cX3_copyFrom 2 (none) 1 := ⟨⟨tb2 51 rfl, tb2 52 rfl, tb1 4 rfl, tb2 53 rfl⟩, rfl, by decide +kernel, by decide +kernel, by decide +kernel⟩
theorem yv_X1_copyFrom : yV yX1_copyFrom RX1 cX1_copyFrom 2 (none) 1 := ⟨⟨tb2 44 rfl, tb2 45 rfl, tb1 3 rfl, tb2 46 rfl⟩, rfl, by decide +kernel, by decide +kernel, by decide +kernel⟩
theorem yv_X4_copyFrom : yV yX4_copyFrom RX4 cX4_copyFrom 2 (none) 1 := ⟨⟨tb2 56 rfl, tb2 57 rfl, tb1 6 rfl, tb2 58 rfl⟩, rfl, by decide +kernel, by decide +kernel, by decide +kernel⟩
theorem yv_X5_copyFrom : yV yX5_copyFrom RX5 cX5_copyFrom 2 (none) 1 := ⟨⟨tb2 40 rfl, tb2 41 rfl, tb1 2 rfl, tb2 42 rfl⟩, rfl, by decide +kernel, by decide +kernel, by decide +kernel⟩
theorem yv_X2_stateAt : yV yX2_stateAt RX2 cX2_stateAt 2 (some (.object "ReachedHeap$State")) 1 := ⟨⟨tb2 34 rfl, tbs (yX2_stateAt, 3) (List.mem_of_getElem? (i := 0) rfl), tb1 7 rfl, tb2 35 rfl⟩, rfl, by decide +kernel, by decide +kernel, by decide +kernel⟩
theorem yv_X2_note : yV yX2_note RX2 cX2_note 2 (none) 1 := ⟨⟨tb2 29 rfl, tb2 30 rfl, tb1 7 rfl, tb2 31 rfl⟩, rfl, by decide +kernel, by decide +kernel, by decide +kernel⟩
theorem gC_X0 : gC RX0 TX0 11 tyX0 := ⟨inX0, tyX0_ok, nmX0⟩
theorem gC_X1 : gC RX1 TX1 6 tyX1 := ⟨inX1, tyX1_ok, nmX1⟩
theorem gC_X2 : gC RX2 TX2 3 tyX2 := ⟨inX2, tyX2_ok, nmX2⟩
theorem gC_X3 : gC RX3 TX3 2 tyX3 := ⟨inX3, tyX3_ok, nmX3⟩
theorem gC_X4 : gC RX4 TX4 9 tyX4 := ⟨inX4, tyX4_ok, nmX4⟩
theorem gC_X5 : gC RX5 TX5 6 tyX5 := ⟨inX5, tyX5_ok, nmX5⟩
theorem gC_X6 : gC RX6 TX6 6 tyX6 := ⟨inX6, tyX6_ok, nmX6⟩
theorem nat_cp : Cond.native arraycopyName ∈ lw_g := tb2 49 rfl
theorem st_cp : Cond.static arraycopyName ∈ lw_g := tb2 48 rfl
theorem ini_cp : Cond.initialized "java/lang/System" ∈ lw_g := tb1 11 rfl
theorem st_max : Cond.static Lib.Math.max.name ∈ lw_g := tb2 74 rfl
theorem ini_max : Cond.initialized "java/lang/Math" ∈ lw_g := tb1 10 rfl
theorem co_max : Cond.code Lib.Math.max.name Lib.Math.max.code 2 (some .int) ∈ lw_g := tb2 75 rfl
def wS (ad : Nat → Nat) (cI : ClassId × ClassId) (w : St) : va_W := [(ad 0, .inr (0, [.ref (ad 1), .int (w.1 0), .int (w.1 1), .int (w.1 2), .int (w.1 3), .int (w.1 4), .int (w.1 5), .int (w.1 6), .int (w.1 7), .int (w.1 8), .int (w.1 9)])), (ad 1, .inl (cI.1, 60, .inl (w.2 0))), (ad 2, .inr (5, [.ref (ad 3), .ref (ad 4), .ref (ad 12), .int (w.1 10), .int (w.1 11), .int (w.1 12)])), (ad 3, .inr (1, [.int (w.1 13), .int (w.1 14), .ref (ad 7), .ref (ad 8), .ref (ad 9), .ref (ad 5)])), (ad 4, .inr (4, [.int (w.1 15), .int (w.1 16), .int (w.1 17), .ref (ad 6), .int (w.1 18), .int (w.1 19), .int (w.1 20), .int (w.1 21), .int (w.1 22)])), (ad 5, .inr (3, [.ref (ad 10), .int (w.1 23)])), (ad 6, .inr (3, [.ref (ad 11), .int (w.1 24)])), (ad 7, .inl (cI.1, 72, .inl (w.2 1))), (ad 8, .inl (cI.1, 4, .inl (w.2 2))), (ad 9, .inl (cI.1, 4, .inl (w.2 3))), (ad 10, .inl (cI.1, 24, .inl (w.2 4))), (ad 11, .inl (cI.1, 24, .inl (w.2 5))), (ad 12, .inl (cI.1, 24, .inl (w.2 6)))]
theorem pwS_0 (ad : Nat → Nat) (cI : ClassId × ClassId) (w : St) (v : Int32) : (wS ad cI w).set 0 (ad 0, .inr (0, [.ref (ad 1), .int (w.1 0), .int (w.1 1), .int (w.1 2), .int (w.1 3), .int (w.1 4), .int (w.1 5), .int (w.1 6), .int (w.1 7), .int (w.1 8), .int (w.1 9)].set 1 (.int v))) = wS ad cI (sR w 0 v) := rfl
theorem pwS_1 (ad : Nat → Nat) (cI : ClassId × ClassId) (w : St) (v : Int32) : (wS ad cI w).set 0 (ad 0, .inr (0, [.ref (ad 1), .int (w.1 0), .int (w.1 1), .int (w.1 2), .int (w.1 3), .int (w.1 4), .int (w.1 5), .int (w.1 6), .int (w.1 7), .int (w.1 8), .int (w.1 9)].set 2 (.int v))) = wS ad cI (sR w 1 v) := rfl
theorem pwS_2 (ad : Nat → Nat) (cI : ClassId × ClassId) (w : St) (v : Int32) : (wS ad cI w).set 0 (ad 0, .inr (0, [.ref (ad 1), .int (w.1 0), .int (w.1 1), .int (w.1 2), .int (w.1 3), .int (w.1 4), .int (w.1 5), .int (w.1 6), .int (w.1 7), .int (w.1 8), .int (w.1 9)].set 3 (.int v))) = wS ad cI (sR w 2 v) := rfl
theorem pwS_3 (ad : Nat → Nat) (cI : ClassId × ClassId) (w : St) (v : Int32) : (wS ad cI w).set 0 (ad 0, .inr (0, [.ref (ad 1), .int (w.1 0), .int (w.1 1), .int (w.1 2), .int (w.1 3), .int (w.1 4), .int (w.1 5), .int (w.1 6), .int (w.1 7), .int (w.1 8), .int (w.1 9)].set 4 (.int v))) = wS ad cI (sR w 3 v) := rfl
theorem pwS_4 (ad : Nat → Nat) (cI : ClassId × ClassId) (w : St) (v : Int32) : (wS ad cI w).set 0 (ad 0, .inr (0, [.ref (ad 1), .int (w.1 0), .int (w.1 1), .int (w.1 2), .int (w.1 3), .int (w.1 4), .int (w.1 5), .int (w.1 6), .int (w.1 7), .int (w.1 8), .int (w.1 9)].set 5 (.int v))) = wS ad cI (sR w 4 v) := rfl
theorem pwS_5 (ad : Nat → Nat) (cI : ClassId × ClassId) (w : St) (v : Int32) : (wS ad cI w).set 0 (ad 0, .inr (0, [.ref (ad 1), .int (w.1 0), .int (w.1 1), .int (w.1 2), .int (w.1 3), .int (w.1 4), .int (w.1 5), .int (w.1 6), .int (w.1 7), .int (w.1 8), .int (w.1 9)].set 6 (.int v))) = wS ad cI (sR w 5 v) := rfl
theorem pwS_6 (ad : Nat → Nat) (cI : ClassId × ClassId) (w : St) (v : Int32) : (wS ad cI w).set 0 (ad 0, .inr (0, [.ref (ad 1), .int (w.1 0), .int (w.1 1), .int (w.1 2), .int (w.1 3), .int (w.1 4), .int (w.1 5), .int (w.1 6), .int (w.1 7), .int (w.1 8), .int (w.1 9)].set 7 (.int v))) = wS ad cI (sR w 6 v) := rfl
theorem pwS_7 (ad : Nat → Nat) (cI : ClassId × ClassId) (w : St) (v : Int32) : (wS ad cI w).set 0 (ad 0, .inr (0, [.ref (ad 1), .int (w.1 0), .int (w.1 1), .int (w.1 2), .int (w.1 3), .int (w.1 4), .int (w.1 5), .int (w.1 6), .int (w.1 7), .int (w.1 8), .int (w.1 9)].set 8 (.int v))) = wS ad cI (sR w 7 v) := rfl
theorem pwS_8 (ad : Nat → Nat) (cI : ClassId × ClassId) (w : St) (v : Int32) : (wS ad cI w).set 0 (ad 0, .inr (0, [.ref (ad 1), .int (w.1 0), .int (w.1 1), .int (w.1 2), .int (w.1 3), .int (w.1 4), .int (w.1 5), .int (w.1 6), .int (w.1 7), .int (w.1 8), .int (w.1 9)].set 9 (.int v))) = wS ad cI (sR w 8 v) := rfl
theorem pwS_9 (ad : Nat → Nat) (cI : ClassId × ClassId) (w : St) (v : Int32) : (wS ad cI w).set 0 (ad 0, .inr (0, [.ref (ad 1), .int (w.1 0), .int (w.1 1), .int (w.1 2), .int (w.1 3), .int (w.1 4), .int (w.1 5), .int (w.1 6), .int (w.1 7), .int (w.1 8), .int (w.1 9)].set 10 (.int v))) = wS ad cI (sR w 9 v) := rfl
theorem gwS_0 (ad : Nat → Nat) (cI : ClassId × ClassId) (w : St) (g : Nat → Int32) : (wS ad cI w).set 1 (ad 1, .inl (cI.1, 60, .inl g)) = wS ad cI (sG w 0 g) := rfl
theorem awS_0 (ad : Nat → Nat) (cI : ClassId × ClassId) (w : St) (i x : Int32) : (wS ad cI w).set 1 (ad 1, .inl (cI.1, 60, .inl (upd (w.2 0) i.toNatClampNeg x))) = wS ad cI (sA w 0 i x) := rfl
theorem pwS_10 (ad : Nat → Nat) (cI : ClassId × ClassId) (w : St) (v : Int32) : (wS ad cI w).set 2 (ad 2, .inr (5, [.ref (ad 3), .ref (ad 4), .ref (ad 12), .int (w.1 10), .int (w.1 11), .int (w.1 12)].set 3 (.int v))) = wS ad cI (sR w 10 v) := rfl
theorem pwS_11 (ad : Nat → Nat) (cI : ClassId × ClassId) (w : St) (v : Int32) : (wS ad cI w).set 2 (ad 2, .inr (5, [.ref (ad 3), .ref (ad 4), .ref (ad 12), .int (w.1 10), .int (w.1 11), .int (w.1 12)].set 4 (.int v))) = wS ad cI (sR w 11 v) := rfl
theorem pwS_12 (ad : Nat → Nat) (cI : ClassId × ClassId) (w : St) (v : Int32) : (wS ad cI w).set 2 (ad 2, .inr (5, [.ref (ad 3), .ref (ad 4), .ref (ad 12), .int (w.1 10), .int (w.1 11), .int (w.1 12)].set 5 (.int v))) = wS ad cI (sR w 12 v) := rfl
theorem pwS_13 (ad : Nat → Nat) (cI : ClassId × ClassId) (w : St) (v : Int32) : (wS ad cI w).set 3 (ad 3, .inr (1, [.int (w.1 13), .int (w.1 14), .ref (ad 7), .ref (ad 8), .ref (ad 9), .ref (ad 5)].set 0 (.int v))) = wS ad cI (sR w 13 v) := rfl
theorem pwS_14 (ad : Nat → Nat) (cI : ClassId × ClassId) (w : St) (v : Int32) : (wS ad cI w).set 3 (ad 3, .inr (1, [.int (w.1 13), .int (w.1 14), .ref (ad 7), .ref (ad 8), .ref (ad 9), .ref (ad 5)].set 1 (.int v))) = wS ad cI (sR w 14 v) := rfl
theorem pwS_15 (ad : Nat → Nat) (cI : ClassId × ClassId) (w : St) (v : Int32) : (wS ad cI w).set 4 (ad 4, .inr (4, [.int (w.1 15), .int (w.1 16), .int (w.1 17), .ref (ad 6), .int (w.1 18), .int (w.1 19), .int (w.1 20), .int (w.1 21), .int (w.1 22)].set 0 (.int v))) = wS ad cI (sR w 15 v) := rfl
theorem pwS_16 (ad : Nat → Nat) (cI : ClassId × ClassId) (w : St) (v : Int32) : (wS ad cI w).set 4 (ad 4, .inr (4, [.int (w.1 15), .int (w.1 16), .int (w.1 17), .ref (ad 6), .int (w.1 18), .int (w.1 19), .int (w.1 20), .int (w.1 21), .int (w.1 22)].set 1 (.int v))) = wS ad cI (sR w 16 v) := rfl
theorem pwS_17 (ad : Nat → Nat) (cI : ClassId × ClassId) (w : St) (v : Int32) : (wS ad cI w).set 4 (ad 4, .inr (4, [.int (w.1 15), .int (w.1 16), .int (w.1 17), .ref (ad 6), .int (w.1 18), .int (w.1 19), .int (w.1 20), .int (w.1 21), .int (w.1 22)].set 2 (.int v))) = wS ad cI (sR w 17 v) := rfl
theorem pwS_18 (ad : Nat → Nat) (cI : ClassId × ClassId) (w : St) (v : Int32) : (wS ad cI w).set 4 (ad 4, .inr (4, [.int (w.1 15), .int (w.1 16), .int (w.1 17), .ref (ad 6), .int (w.1 18), .int (w.1 19), .int (w.1 20), .int (w.1 21), .int (w.1 22)].set 4 (.int v))) = wS ad cI (sR w 18 v) := rfl
theorem pwS_19 (ad : Nat → Nat) (cI : ClassId × ClassId) (w : St) (v : Int32) : (wS ad cI w).set 4 (ad 4, .inr (4, [.int (w.1 15), .int (w.1 16), .int (w.1 17), .ref (ad 6), .int (w.1 18), .int (w.1 19), .int (w.1 20), .int (w.1 21), .int (w.1 22)].set 5 (.int v))) = wS ad cI (sR w 19 v) := rfl
theorem pwS_20 (ad : Nat → Nat) (cI : ClassId × ClassId) (w : St) (v : Int32) : (wS ad cI w).set 4 (ad 4, .inr (4, [.int (w.1 15), .int (w.1 16), .int (w.1 17), .ref (ad 6), .int (w.1 18), .int (w.1 19), .int (w.1 20), .int (w.1 21), .int (w.1 22)].set 6 (.int v))) = wS ad cI (sR w 20 v) := rfl
theorem pwS_21 (ad : Nat → Nat) (cI : ClassId × ClassId) (w : St) (v : Int32) : (wS ad cI w).set 4 (ad 4, .inr (4, [.int (w.1 15), .int (w.1 16), .int (w.1 17), .ref (ad 6), .int (w.1 18), .int (w.1 19), .int (w.1 20), .int (w.1 21), .int (w.1 22)].set 7 (.int v))) = wS ad cI (sR w 21 v) := rfl
theorem pwS_22 (ad : Nat → Nat) (cI : ClassId × ClassId) (w : St) (v : Int32) : (wS ad cI w).set 4 (ad 4, .inr (4, [.int (w.1 15), .int (w.1 16), .int (w.1 17), .ref (ad 6), .int (w.1 18), .int (w.1 19), .int (w.1 20), .int (w.1 21), .int (w.1 22)].set 8 (.int v))) = wS ad cI (sR w 22 v) := rfl
theorem pwS_23 (ad : Nat → Nat) (cI : ClassId × ClassId) (w : St) (v : Int32) : (wS ad cI w).set 5 (ad 5, .inr (3, [.ref (ad 10), .int (w.1 23)].set 1 (.int v))) = wS ad cI (sR w 23 v) := rfl
theorem pwS_24 (ad : Nat → Nat) (cI : ClassId × ClassId) (w : St) (v : Int32) : (wS ad cI w).set 6 (ad 6, .inr (3, [.ref (ad 11), .int (w.1 24)].set 1 (.int v))) = wS ad cI (sR w 24 v) := rfl
theorem gwS_1 (ad : Nat → Nat) (cI : ClassId × ClassId) (w : St) (g : Nat → Int32) : (wS ad cI w).set 7 (ad 7, .inl (cI.1, 72, .inl g)) = wS ad cI (sG w 1 g) := rfl
theorem awS_1 (ad : Nat → Nat) (cI : ClassId × ClassId) (w : St) (i x : Int32) : (wS ad cI w).set 7 (ad 7, .inl (cI.1, 72, .inl (upd (w.2 1) i.toNatClampNeg x))) = wS ad cI (sA w 1 i x) := rfl
theorem gwS_2 (ad : Nat → Nat) (cI : ClassId × ClassId) (w : St) (g : Nat → Int32) : (wS ad cI w).set 8 (ad 8, .inl (cI.1, 4, .inl g)) = wS ad cI (sG w 2 g) := rfl
theorem awS_2 (ad : Nat → Nat) (cI : ClassId × ClassId) (w : St) (i x : Int32) : (wS ad cI w).set 8 (ad 8, .inl (cI.1, 4, .inl (upd (w.2 2) i.toNatClampNeg x))) = wS ad cI (sA w 2 i x) := rfl
theorem gwS_3 (ad : Nat → Nat) (cI : ClassId × ClassId) (w : St) (g : Nat → Int32) : (wS ad cI w).set 9 (ad 9, .inl (cI.1, 4, .inl g)) = wS ad cI (sG w 3 g) := rfl
theorem awS_3 (ad : Nat → Nat) (cI : ClassId × ClassId) (w : St) (i x : Int32) : (wS ad cI w).set 9 (ad 9, .inl (cI.1, 4, .inl (upd (w.2 3) i.toNatClampNeg x))) = wS ad cI (sA w 3 i x) := rfl
theorem gwS_4 (ad : Nat → Nat) (cI : ClassId × ClassId) (w : St) (g : Nat → Int32) : (wS ad cI w).set 10 (ad 10, .inl (cI.1, 24, .inl g)) = wS ad cI (sG w 4 g) := rfl
theorem awS_4 (ad : Nat → Nat) (cI : ClassId × ClassId) (w : St) (i x : Int32) : (wS ad cI w).set 10 (ad 10, .inl (cI.1, 24, .inl (upd (w.2 4) i.toNatClampNeg x))) = wS ad cI (sA w 4 i x) := rfl
theorem gwS_5 (ad : Nat → Nat) (cI : ClassId × ClassId) (w : St) (g : Nat → Int32) : (wS ad cI w).set 11 (ad 11, .inl (cI.1, 24, .inl g)) = wS ad cI (sG w 5 g) := rfl
theorem awS_5 (ad : Nat → Nat) (cI : ClassId × ClassId) (w : St) (i x : Int32) : (wS ad cI w).set 11 (ad 11, .inl (cI.1, 24, .inl (upd (w.2 5) i.toNatClampNeg x))) = wS ad cI (sA w 5 i x) := rfl
theorem gwS_6 (ad : Nat → Nat) (cI : ClassId × ClassId) (w : St) (g : Nat → Int32) : (wS ad cI w).set 12 (ad 12, .inl (cI.1, 24, .inl g)) = wS ad cI (sG w 6 g) := rfl
theorem awS_6 (ad : Nat → Nat) (cI : ClassId × ClassId) (w : St) (i x : Int32) : (wS ad cI w).set 12 (ad 12, .inl (cI.1, 24, .inl (upd (w.2 6) i.toNatClampNeg x))) = wS ad cI (sA w 6 i x) := rfl
def wR (ad : Nat → Nat) (cI : ClassId × ClassId) (w : St) : va_W := [(ad 0, .inl (cI.1, 11, .inl (w.2 0))), (ad 1, .inl (cI.1, 24, .inl (w.2 1))), (ad 2, .inl (cI.1, 24, .inl (w.2 2))), (ad 3, .inl (cI.1, 24, .inl (w.2 3))), (ad 4, .inl (cI.1, 24, .inl (w.2 4))), (ad 5, .inl (cI.1, 24, .inl (w.2 5))), (ad 6, .inl (cI.1, 24, .inl (w.2 6))), (ad 7, .inl (cI.1, 8, .inl (w.2 7)))]
theorem gwR_0 (ad : Nat → Nat) (cI : ClassId × ClassId) (w : St) (g : Nat → Int32) : (wR ad cI w).set 0 (ad 0, .inl (cI.1, 11, .inl g)) = wR ad cI (sG w 0 g) := rfl
theorem awR_0 (ad : Nat → Nat) (cI : ClassId × ClassId) (w : St) (i x : Int32) : (wR ad cI w).set 0 (ad 0, .inl (cI.1, 11, .inl (upd (w.2 0) i.toNatClampNeg x))) = wR ad cI (sA w 0 i x) := rfl
theorem gwR_1 (ad : Nat → Nat) (cI : ClassId × ClassId) (w : St) (g : Nat → Int32) : (wR ad cI w).set 1 (ad 1, .inl (cI.1, 24, .inl g)) = wR ad cI (sG w 1 g) := rfl
theorem awR_1 (ad : Nat → Nat) (cI : ClassId × ClassId) (w : St) (i x : Int32) : (wR ad cI w).set 1 (ad 1, .inl (cI.1, 24, .inl (upd (w.2 1) i.toNatClampNeg x))) = wR ad cI (sA w 1 i x) := rfl
theorem gwR_2 (ad : Nat → Nat) (cI : ClassId × ClassId) (w : St) (g : Nat → Int32) : (wR ad cI w).set 2 (ad 2, .inl (cI.1, 24, .inl g)) = wR ad cI (sG w 2 g) := rfl
theorem awR_2 (ad : Nat → Nat) (cI : ClassId × ClassId) (w : St) (i x : Int32) : (wR ad cI w).set 2 (ad 2, .inl (cI.1, 24, .inl (upd (w.2 2) i.toNatClampNeg x))) = wR ad cI (sA w 2 i x) := rfl
theorem gwR_3 (ad : Nat → Nat) (cI : ClassId × ClassId) (w : St) (g : Nat → Int32) : (wR ad cI w).set 3 (ad 3, .inl (cI.1, 24, .inl g)) = wR ad cI (sG w 3 g) := rfl
theorem awR_3 (ad : Nat → Nat) (cI : ClassId × ClassId) (w : St) (i x : Int32) : (wR ad cI w).set 3 (ad 3, .inl (cI.1, 24, .inl (upd (w.2 3) i.toNatClampNeg x))) = wR ad cI (sA w 3 i x) := rfl
theorem gwR_4 (ad : Nat → Nat) (cI : ClassId × ClassId) (w : St) (g : Nat → Int32) : (wR ad cI w).set 4 (ad 4, .inl (cI.1, 24, .inl g)) = wR ad cI (sG w 4 g) := rfl
theorem awR_4 (ad : Nat → Nat) (cI : ClassId × ClassId) (w : St) (i x : Int32) : (wR ad cI w).set 4 (ad 4, .inl (cI.1, 24, .inl (upd (w.2 4) i.toNatClampNeg x))) = wR ad cI (sA w 4 i x) := rfl
theorem gwR_5 (ad : Nat → Nat) (cI : ClassId × ClassId) (w : St) (g : Nat → Int32) : (wR ad cI w).set 5 (ad 5, .inl (cI.1, 24, .inl g)) = wR ad cI (sG w 5 g) := rfl
theorem awR_5 (ad : Nat → Nat) (cI : ClassId × ClassId) (w : St) (i x : Int32) : (wR ad cI w).set 5 (ad 5, .inl (cI.1, 24, .inl (upd (w.2 5) i.toNatClampNeg x))) = wR ad cI (sA w 5 i x) := rfl
theorem gwR_6 (ad : Nat → Nat) (cI : ClassId × ClassId) (w : St) (g : Nat → Int32) : (wR ad cI w).set 6 (ad 6, .inl (cI.1, 24, .inl g)) = wR ad cI (sG w 6 g) := rfl
theorem awR_6 (ad : Nat → Nat) (cI : ClassId × ClassId) (w : St) (i x : Int32) : (wR ad cI w).set 6 (ad 6, .inl (cI.1, 24, .inl (upd (w.2 6) i.toNatClampNeg x))) = wR ad cI (sA w 6 i x) := rfl
theorem gwR_7 (ad : Nat → Nat) (cI : ClassId × ClassId) (w : St) (g : Nat → Int32) : (wR ad cI w).set 7 (ad 7, .inl (cI.1, 8, .inl g)) = wR ad cI (sG w 7 g) := rfl
theorem awR_7 (ad : Nat → Nat) (cI : ClassId × ClassId) (w : St) (i x : Int32) : (wR ad cI w).set 7 (ad 7, .inl (cI.1, 8, .inl (upd (w.2 7) i.toNatClampNeg x))) = wR ad cI (sA w 7 i x) := rfl
def wC (ad : Nat → Nat) (cI : ClassId × ClassId) (w : St) : va_W := [(ad 0, .inr (5, [.ref (ad 1), .ref (ad 2), .ref (ad 10), .int (w.1 10), .int (w.1 11), .int (w.1 12)])), (ad 1, .inr (1, [.int (w.1 13), .int (w.1 14), .ref (ad 5), .ref (ad 6), .ref (ad 7), .ref (ad 3)])), (ad 2, .inr (4, [.int (w.1 15), .int (w.1 16), .int (w.1 17), .ref (ad 4), .int (w.1 18), .int (w.1 19), .int (w.1 20), .int (w.1 21), .int (w.1 22)])), (ad 3, .inr (3, [.ref (ad 8), .int (w.1 23)])), (ad 4, .inr (3, [.ref (ad 9), .int (w.1 24)])), (ad 5, .inl (cI.1, 72, .inl (w.2 1))), (ad 6, .inl (cI.1, 4, .inl (w.2 2))), (ad 7, .inl (cI.1, 4, .inl (w.2 3))), (ad 8, .inl (cI.1, 24, .inl (w.2 4))), (ad 9, .inl (cI.1, 24, .inl (w.2 5))), (ad 10, .inl (cI.1, 24, .inl (w.2 6))), (ad 11, .inr (5, [.ref (ad 12), .ref (ad 13), .ref (ad 21), .int (w.1 110), .int (w.1 111), .int (w.1 112)])), (ad 12, .inr (1, [.int (w.1 113), .int (w.1 114), .ref (ad 16), .ref (ad 17), .ref (ad 18), .ref (ad 14)])), (ad 13, .inr (4, [.int (w.1 115), .int (w.1 116), .int (w.1 117), .ref (ad 15), .int (w.1 118), .int (w.1 119), .int (w.1 120), .int (w.1 121), .int (w.1 122)])), (ad 14, .inr (3, [.ref (ad 19), .int (w.1 123)])), (ad 15, .inr (3, [.ref (ad 20), .int (w.1 124)])), (ad 16, .inl (cI.1, 72, .inl (w.2 101))), (ad 17, .inl (cI.1, 4, .inl (w.2 102))), (ad 18, .inl (cI.1, 4, .inl (w.2 103))), (ad 19, .inl (cI.1, 24, .inl (w.2 104))), (ad 20, .inl (cI.1, 24, .inl (w.2 105))), (ad 21, .inl (cI.1, 24, .inl (w.2 106)))]
theorem pwC_10 (ad : Nat → Nat) (cI : ClassId × ClassId) (w : St) (v : Int32) : (wC ad cI w).set 0 (ad 0, .inr (5, [.ref (ad 1), .ref (ad 2), .ref (ad 10), .int (w.1 10), .int (w.1 11), .int (w.1 12)].set 3 (.int v))) = wC ad cI (sR w 10 v) := rfl
theorem pwC_11 (ad : Nat → Nat) (cI : ClassId × ClassId) (w : St) (v : Int32) : (wC ad cI w).set 0 (ad 0, .inr (5, [.ref (ad 1), .ref (ad 2), .ref (ad 10), .int (w.1 10), .int (w.1 11), .int (w.1 12)].set 4 (.int v))) = wC ad cI (sR w 11 v) := rfl
theorem pwC_12 (ad : Nat → Nat) (cI : ClassId × ClassId) (w : St) (v : Int32) : (wC ad cI w).set 0 (ad 0, .inr (5, [.ref (ad 1), .ref (ad 2), .ref (ad 10), .int (w.1 10), .int (w.1 11), .int (w.1 12)].set 5 (.int v))) = wC ad cI (sR w 12 v) := rfl
theorem pwC_13 (ad : Nat → Nat) (cI : ClassId × ClassId) (w : St) (v : Int32) : (wC ad cI w).set 1 (ad 1, .inr (1, [.int (w.1 13), .int (w.1 14), .ref (ad 5), .ref (ad 6), .ref (ad 7), .ref (ad 3)].set 0 (.int v))) = wC ad cI (sR w 13 v) := rfl
theorem pwC_14 (ad : Nat → Nat) (cI : ClassId × ClassId) (w : St) (v : Int32) : (wC ad cI w).set 1 (ad 1, .inr (1, [.int (w.1 13), .int (w.1 14), .ref (ad 5), .ref (ad 6), .ref (ad 7), .ref (ad 3)].set 1 (.int v))) = wC ad cI (sR w 14 v) := rfl
theorem pwC_15 (ad : Nat → Nat) (cI : ClassId × ClassId) (w : St) (v : Int32) : (wC ad cI w).set 2 (ad 2, .inr (4, [.int (w.1 15), .int (w.1 16), .int (w.1 17), .ref (ad 4), .int (w.1 18), .int (w.1 19), .int (w.1 20), .int (w.1 21), .int (w.1 22)].set 0 (.int v))) = wC ad cI (sR w 15 v) := rfl
theorem pwC_16 (ad : Nat → Nat) (cI : ClassId × ClassId) (w : St) (v : Int32) : (wC ad cI w).set 2 (ad 2, .inr (4, [.int (w.1 15), .int (w.1 16), .int (w.1 17), .ref (ad 4), .int (w.1 18), .int (w.1 19), .int (w.1 20), .int (w.1 21), .int (w.1 22)].set 1 (.int v))) = wC ad cI (sR w 16 v) := rfl
theorem pwC_17 (ad : Nat → Nat) (cI : ClassId × ClassId) (w : St) (v : Int32) : (wC ad cI w).set 2 (ad 2, .inr (4, [.int (w.1 15), .int (w.1 16), .int (w.1 17), .ref (ad 4), .int (w.1 18), .int (w.1 19), .int (w.1 20), .int (w.1 21), .int (w.1 22)].set 2 (.int v))) = wC ad cI (sR w 17 v) := rfl
theorem pwC_18 (ad : Nat → Nat) (cI : ClassId × ClassId) (w : St) (v : Int32) : (wC ad cI w).set 2 (ad 2, .inr (4, [.int (w.1 15), .int (w.1 16), .int (w.1 17), .ref (ad 4), .int (w.1 18), .int (w.1 19), .int (w.1 20), .int (w.1 21), .int (w.1 22)].set 4 (.int v))) = wC ad cI (sR w 18 v) := rfl
theorem pwC_19 (ad : Nat → Nat) (cI : ClassId × ClassId) (w : St) (v : Int32) : (wC ad cI w).set 2 (ad 2, .inr (4, [.int (w.1 15), .int (w.1 16), .int (w.1 17), .ref (ad 4), .int (w.1 18), .int (w.1 19), .int (w.1 20), .int (w.1 21), .int (w.1 22)].set 5 (.int v))) = wC ad cI (sR w 19 v) := rfl
theorem pwC_20 (ad : Nat → Nat) (cI : ClassId × ClassId) (w : St) (v : Int32) : (wC ad cI w).set 2 (ad 2, .inr (4, [.int (w.1 15), .int (w.1 16), .int (w.1 17), .ref (ad 4), .int (w.1 18), .int (w.1 19), .int (w.1 20), .int (w.1 21), .int (w.1 22)].set 6 (.int v))) = wC ad cI (sR w 20 v) := rfl
theorem pwC_21 (ad : Nat → Nat) (cI : ClassId × ClassId) (w : St) (v : Int32) : (wC ad cI w).set 2 (ad 2, .inr (4, [.int (w.1 15), .int (w.1 16), .int (w.1 17), .ref (ad 4), .int (w.1 18), .int (w.1 19), .int (w.1 20), .int (w.1 21), .int (w.1 22)].set 7 (.int v))) = wC ad cI (sR w 21 v) := rfl
theorem pwC_22 (ad : Nat → Nat) (cI : ClassId × ClassId) (w : St) (v : Int32) : (wC ad cI w).set 2 (ad 2, .inr (4, [.int (w.1 15), .int (w.1 16), .int (w.1 17), .ref (ad 4), .int (w.1 18), .int (w.1 19), .int (w.1 20), .int (w.1 21), .int (w.1 22)].set 8 (.int v))) = wC ad cI (sR w 22 v) := rfl
theorem pwC_23 (ad : Nat → Nat) (cI : ClassId × ClassId) (w : St) (v : Int32) : (wC ad cI w).set 3 (ad 3, .inr (3, [.ref (ad 8), .int (w.1 23)].set 1 (.int v))) = wC ad cI (sR w 23 v) := rfl
theorem pwC_24 (ad : Nat → Nat) (cI : ClassId × ClassId) (w : St) (v : Int32) : (wC ad cI w).set 4 (ad 4, .inr (3, [.ref (ad 9), .int (w.1 24)].set 1 (.int v))) = wC ad cI (sR w 24 v) := rfl
theorem gwC_1 (ad : Nat → Nat) (cI : ClassId × ClassId) (w : St) (g : Nat → Int32) : (wC ad cI w).set 5 (ad 5, .inl (cI.1, 72, .inl g)) = wC ad cI (sG w 1 g) := rfl
theorem awC_1 (ad : Nat → Nat) (cI : ClassId × ClassId) (w : St) (i x : Int32) : (wC ad cI w).set 5 (ad 5, .inl (cI.1, 72, .inl (upd (w.2 1) i.toNatClampNeg x))) = wC ad cI (sA w 1 i x) := rfl
theorem gwC_2 (ad : Nat → Nat) (cI : ClassId × ClassId) (w : St) (g : Nat → Int32) : (wC ad cI w).set 6 (ad 6, .inl (cI.1, 4, .inl g)) = wC ad cI (sG w 2 g) := rfl
theorem awC_2 (ad : Nat → Nat) (cI : ClassId × ClassId) (w : St) (i x : Int32) : (wC ad cI w).set 6 (ad 6, .inl (cI.1, 4, .inl (upd (w.2 2) i.toNatClampNeg x))) = wC ad cI (sA w 2 i x) := rfl
theorem gwC_3 (ad : Nat → Nat) (cI : ClassId × ClassId) (w : St) (g : Nat → Int32) : (wC ad cI w).set 7 (ad 7, .inl (cI.1, 4, .inl g)) = wC ad cI (sG w 3 g) := rfl
theorem awC_3 (ad : Nat → Nat) (cI : ClassId × ClassId) (w : St) (i x : Int32) : (wC ad cI w).set 7 (ad 7, .inl (cI.1, 4, .inl (upd (w.2 3) i.toNatClampNeg x))) = wC ad cI (sA w 3 i x) := rfl
theorem gwC_4 (ad : Nat → Nat) (cI : ClassId × ClassId) (w : St) (g : Nat → Int32) : (wC ad cI w).set 8 (ad 8, .inl (cI.1, 24, .inl g)) = wC ad cI (sG w 4 g) := rfl
theorem awC_4 (ad : Nat → Nat) (cI : ClassId × ClassId) (w : St) (i x : Int32) : (wC ad cI w).set 8 (ad 8, .inl (cI.1, 24, .inl (upd (w.2 4) i.toNatClampNeg x))) = wC ad cI (sA w 4 i x) := rfl
theorem gwC_5 (ad : Nat → Nat) (cI : ClassId × ClassId) (w : St) (g : Nat → Int32) : (wC ad cI w).set 9 (ad 9, .inl (cI.1, 24, .inl g)) = wC ad cI (sG w 5 g) := rfl
theorem awC_5 (ad : Nat → Nat) (cI : ClassId × ClassId) (w : St) (i x : Int32) : (wC ad cI w).set 9 (ad 9, .inl (cI.1, 24, .inl (upd (w.2 5) i.toNatClampNeg x))) = wC ad cI (sA w 5 i x) := rfl
theorem gwC_6 (ad : Nat → Nat) (cI : ClassId × ClassId) (w : St) (g : Nat → Int32) : (wC ad cI w).set 10 (ad 10, .inl (cI.1, 24, .inl g)) = wC ad cI (sG w 6 g) := rfl
theorem awC_6 (ad : Nat → Nat) (cI : ClassId × ClassId) (w : St) (i x : Int32) : (wC ad cI w).set 10 (ad 10, .inl (cI.1, 24, .inl (upd (w.2 6) i.toNatClampNeg x))) = wC ad cI (sA w 6 i x) := rfl
theorem pwC_110 (ad : Nat → Nat) (cI : ClassId × ClassId) (w : St) (v : Int32) : (wC ad cI w).set 11 (ad 11, .inr (5, [.ref (ad 12), .ref (ad 13), .ref (ad 21), .int (w.1 110), .int (w.1 111), .int (w.1 112)].set 3 (.int v))) = wC ad cI (sR w 110 v) := rfl
theorem pwC_111 (ad : Nat → Nat) (cI : ClassId × ClassId) (w : St) (v : Int32) : (wC ad cI w).set 11 (ad 11, .inr (5, [.ref (ad 12), .ref (ad 13), .ref (ad 21), .int (w.1 110), .int (w.1 111), .int (w.1 112)].set 4 (.int v))) = wC ad cI (sR w 111 v) := rfl
theorem pwC_112 (ad : Nat → Nat) (cI : ClassId × ClassId) (w : St) (v : Int32) : (wC ad cI w).set 11 (ad 11, .inr (5, [.ref (ad 12), .ref (ad 13), .ref (ad 21), .int (w.1 110), .int (w.1 111), .int (w.1 112)].set 5 (.int v))) = wC ad cI (sR w 112 v) := rfl
theorem pwC_113 (ad : Nat → Nat) (cI : ClassId × ClassId) (w : St) (v : Int32) : (wC ad cI w).set 12 (ad 12, .inr (1, [.int (w.1 113), .int (w.1 114), .ref (ad 16), .ref (ad 17), .ref (ad 18), .ref (ad 14)].set 0 (.int v))) = wC ad cI (sR w 113 v) := rfl
theorem pwC_114 (ad : Nat → Nat) (cI : ClassId × ClassId) (w : St) (v : Int32) : (wC ad cI w).set 12 (ad 12, .inr (1, [.int (w.1 113), .int (w.1 114), .ref (ad 16), .ref (ad 17), .ref (ad 18), .ref (ad 14)].set 1 (.int v))) = wC ad cI (sR w 114 v) := rfl
theorem pwC_115 (ad : Nat → Nat) (cI : ClassId × ClassId) (w : St) (v : Int32) : (wC ad cI w).set 13 (ad 13, .inr (4, [.int (w.1 115), .int (w.1 116), .int (w.1 117), .ref (ad 15), .int (w.1 118), .int (w.1 119), .int (w.1 120), .int (w.1 121), .int (w.1 122)].set 0 (.int v))) = wC ad cI (sR w 115 v) := rfl
theorem pwC_116 (ad : Nat → Nat) (cI : ClassId × ClassId) (w : St) (v : Int32) : (wC ad cI w).set 13 (ad 13, .inr (4, [.int (w.1 115), .int (w.1 116), .int (w.1 117), .ref (ad 15), .int (w.1 118), .int (w.1 119), .int (w.1 120), .int (w.1 121), .int (w.1 122)].set 1 (.int v))) = wC ad cI (sR w 116 v) := rfl
theorem pwC_117 (ad : Nat → Nat) (cI : ClassId × ClassId) (w : St) (v : Int32) : (wC ad cI w).set 13 (ad 13, .inr (4, [.int (w.1 115), .int (w.1 116), .int (w.1 117), .ref (ad 15), .int (w.1 118), .int (w.1 119), .int (w.1 120), .int (w.1 121), .int (w.1 122)].set 2 (.int v))) = wC ad cI (sR w 117 v) := rfl
theorem pwC_118 (ad : Nat → Nat) (cI : ClassId × ClassId) (w : St) (v : Int32) : (wC ad cI w).set 13 (ad 13, .inr (4, [.int (w.1 115), .int (w.1 116), .int (w.1 117), .ref (ad 15), .int (w.1 118), .int (w.1 119), .int (w.1 120), .int (w.1 121), .int (w.1 122)].set 4 (.int v))) = wC ad cI (sR w 118 v) := rfl
theorem pwC_119 (ad : Nat → Nat) (cI : ClassId × ClassId) (w : St) (v : Int32) : (wC ad cI w).set 13 (ad 13, .inr (4, [.int (w.1 115), .int (w.1 116), .int (w.1 117), .ref (ad 15), .int (w.1 118), .int (w.1 119), .int (w.1 120), .int (w.1 121), .int (w.1 122)].set 5 (.int v))) = wC ad cI (sR w 119 v) := rfl
theorem pwC_120 (ad : Nat → Nat) (cI : ClassId × ClassId) (w : St) (v : Int32) : (wC ad cI w).set 13 (ad 13, .inr (4, [.int (w.1 115), .int (w.1 116), .int (w.1 117), .ref (ad 15), .int (w.1 118), .int (w.1 119), .int (w.1 120), .int (w.1 121), .int (w.1 122)].set 6 (.int v))) = wC ad cI (sR w 120 v) := rfl
theorem pwC_121 (ad : Nat → Nat) (cI : ClassId × ClassId) (w : St) (v : Int32) : (wC ad cI w).set 13 (ad 13, .inr (4, [.int (w.1 115), .int (w.1 116), .int (w.1 117), .ref (ad 15), .int (w.1 118), .int (w.1 119), .int (w.1 120), .int (w.1 121), .int (w.1 122)].set 7 (.int v))) = wC ad cI (sR w 121 v) := rfl
theorem pwC_122 (ad : Nat → Nat) (cI : ClassId × ClassId) (w : St) (v : Int32) : (wC ad cI w).set 13 (ad 13, .inr (4, [.int (w.1 115), .int (w.1 116), .int (w.1 117), .ref (ad 15), .int (w.1 118), .int (w.1 119), .int (w.1 120), .int (w.1 121), .int (w.1 122)].set 8 (.int v))) = wC ad cI (sR w 122 v) := rfl
theorem pwC_123 (ad : Nat → Nat) (cI : ClassId × ClassId) (w : St) (v : Int32) : (wC ad cI w).set 14 (ad 14, .inr (3, [.ref (ad 19), .int (w.1 123)].set 1 (.int v))) = wC ad cI (sR w 123 v) := rfl
theorem pwC_124 (ad : Nat → Nat) (cI : ClassId × ClassId) (w : St) (v : Int32) : (wC ad cI w).set 15 (ad 15, .inr (3, [.ref (ad 20), .int (w.1 124)].set 1 (.int v))) = wC ad cI (sR w 124 v) := rfl
theorem gwC_101 (ad : Nat → Nat) (cI : ClassId × ClassId) (w : St) (g : Nat → Int32) : (wC ad cI w).set 16 (ad 16, .inl (cI.1, 72, .inl g)) = wC ad cI (sG w 101 g) := rfl
theorem awC_101 (ad : Nat → Nat) (cI : ClassId × ClassId) (w : St) (i x : Int32) : (wC ad cI w).set 16 (ad 16, .inl (cI.1, 72, .inl (upd (w.2 101) i.toNatClampNeg x))) = wC ad cI (sA w 101 i x) := rfl
theorem gwC_102 (ad : Nat → Nat) (cI : ClassId × ClassId) (w : St) (g : Nat → Int32) : (wC ad cI w).set 17 (ad 17, .inl (cI.1, 4, .inl g)) = wC ad cI (sG w 102 g) := rfl
theorem awC_102 (ad : Nat → Nat) (cI : ClassId × ClassId) (w : St) (i x : Int32) : (wC ad cI w).set 17 (ad 17, .inl (cI.1, 4, .inl (upd (w.2 102) i.toNatClampNeg x))) = wC ad cI (sA w 102 i x) := rfl
theorem gwC_103 (ad : Nat → Nat) (cI : ClassId × ClassId) (w : St) (g : Nat → Int32) : (wC ad cI w).set 18 (ad 18, .inl (cI.1, 4, .inl g)) = wC ad cI (sG w 103 g) := rfl
theorem awC_103 (ad : Nat → Nat) (cI : ClassId × ClassId) (w : St) (i x : Int32) : (wC ad cI w).set 18 (ad 18, .inl (cI.1, 4, .inl (upd (w.2 103) i.toNatClampNeg x))) = wC ad cI (sA w 103 i x) := rfl
theorem gwC_104 (ad : Nat → Nat) (cI : ClassId × ClassId) (w : St) (g : Nat → Int32) : (wC ad cI w).set 19 (ad 19, .inl (cI.1, 24, .inl g)) = wC ad cI (sG w 104 g) := rfl
theorem awC_104 (ad : Nat → Nat) (cI : ClassId × ClassId) (w : St) (i x : Int32) : (wC ad cI w).set 19 (ad 19, .inl (cI.1, 24, .inl (upd (w.2 104) i.toNatClampNeg x))) = wC ad cI (sA w 104 i x) := rfl
theorem gwC_105 (ad : Nat → Nat) (cI : ClassId × ClassId) (w : St) (g : Nat → Int32) : (wC ad cI w).set 20 (ad 20, .inl (cI.1, 24, .inl g)) = wC ad cI (sG w 105 g) := rfl
theorem awC_105 (ad : Nat → Nat) (cI : ClassId × ClassId) (w : St) (i x : Int32) : (wC ad cI w).set 20 (ad 20, .inl (cI.1, 24, .inl (upd (w.2 105) i.toNatClampNeg x))) = wC ad cI (sA w 105 i x) := rfl
theorem gwC_106 (ad : Nat → Nat) (cI : ClassId × ClassId) (w : St) (g : Nat → Int32) : (wC ad cI w).set 21 (ad 21, .inl (cI.1, 24, .inl g)) = wC ad cI (sG w 106 g) := rfl
theorem awC_106 (ad : Nat → Nat) (cI : ClassId × ClassId) (w : St) (i x : Int32) : (wC ad cI w).set 21 (ad 21, .inl (cI.1, 24, .inl (upd (w.2 106) i.toNatClampNeg x))) = wC ad cI (sA w 106 i x) := rfl
