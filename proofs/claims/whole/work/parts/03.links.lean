/-! LINKS: the words of the tables, by their places; rooms; decode rows -/
theorem fl_X6_10 : Cond.fieldLink RX6 10 "ReachedHeap" "state" "LReachedHeap$State;" ∈ lw_g := tb1 210 rfl
theorem fl_X6_16 : Cond.fieldLink RX6 16 "ReachedHeap" "ahead" "LReachedHeap$State;" ∈ lw_g := tb1 211 rfl
theorem fl_X6_19 : Cond.fieldLink RX6 19 "ReachedHeap" "kept" "LReachedHeap$State;" ∈ lw_g := tb1 212 rfl
theorem fl_X6_25 : Cond.fieldLink RX6 25 "ReachedHeap" "history" "LReachedHeap$History;" ∈ lw_g := tb1 213 rfl
theorem fl_X6_32 : Cond.fieldLink RX6 32 "ReachedHeap" "commands" "LReachedHeap$Commands;" ∈ lw_g := tb1 214 rfl
theorem fl_X6_36 : Cond.fieldLink RX6 36 "ReachedHeap" "isKept" "Z" ∈ lw_g := tb1 215 rfl
theorem fl_X6_87 : Cond.fieldLink RX6 87 "ReachedHeap$State" "graph" "LReachedHeap$Graph;" ∈ lw_g := tb1 127 rfl
theorem fl_X6_96 : Cond.fieldLink RX6 96 "ReachedHeap$State" "search" "LReachedHeap$Search;" ∈ lw_g := tb1 129 rfl
theorem fl_X6_100 : Cond.fieldLink RX6 100 "ReachedHeap$Search" "row" "LReachedHeap$Line;" ∈ lw_g := tb1 96 rfl
theorem fl_X6_114 : Cond.fieldLink RX6 114 "ReachedHeap$History" "size" "I" ∈ lw_g := tb1 159 rfl
theorem fl_X6_118 : Cond.fieldLink RX6 118 "ReachedHeap$Commands" "length" "I" ∈ lw_g := tb1 175 rfl
theorem fl_X6_146 : Cond.fieldLink RX6 146 "ReachedHeap$Graph" "present" "I" ∈ lw_g := tb1 55 rfl
theorem fl_X6_175 : Cond.fieldLink RX6 175 "ReachedHeap$Commands" "reason" "I" ∈ lw_g := tb1 185 rfl
theorem fl_X6_178 : Cond.fieldLink RX6 178 "ReachedHeap$Commands" "done" "I" ∈ lw_g := tb1 182 rfl
theorem fl_X0_9 : Cond.fieldLink RX0 9 "ReachedHeap$Commands" "signs" "[I" ∈ lw_g := tb1 173 rfl
theorem fl_X0_15 : Cond.fieldLink RX0 15 "ReachedHeap$Commands" "length" "I" ∈ lw_g := tb1 174 rfl
theorem fl_X0_19 : Cond.fieldLink RX0 19 "ReachedHeap$Commands" "next" "I" ∈ lw_g := tb1 176 rfl
theorem fl_X0_22 : Cond.fieldLink RX0 22 "ReachedHeap$Commands" "done" "I" ∈ lw_g := tb1 181 rfl
theorem fl_X0_25 : Cond.fieldLink RX0 25 "ReachedHeap$Commands" "reason" "I" ∈ lw_g := tb1 184 rfl
theorem fl_X0_28 : Cond.fieldLink RX0 28 "ReachedHeap$Commands" "position" "I" ∈ lw_g := tb1 183 rfl
theorem fl_X0_35 : Cond.fieldLink RX0 35 "ReachedHeap$Commands" "kind" "I" ∈ lw_g := tb1 177 rfl
theorem fl_X0_38 : Cond.fieldLink RX0 38 "ReachedHeap$Commands" "first" "I" ∈ lw_g := tb1 178 rfl
theorem fl_X0_47 : Cond.fieldLink RX0 47 "ReachedHeap$Commands" "cause" "I" ∈ lw_g := tb1 186 rfl
theorem fl_X0_50 : Cond.fieldLink RX0 50 "ReachedHeap$Commands" "second" "I" ∈ lw_g := tb1 179 rfl
theorem fl_X0_53 : Cond.fieldLink RX0 53 "ReachedHeap$Commands" "third" "I" ∈ lw_g := tb1 180 rfl
theorem fl_X1_9 : Cond.fieldLink RX1 9 "ReachedHeap$Graph" "fields" "[I" ∈ lw_g := tb1 59 rfl
theorem fl_X1_15 : Cond.fieldLink RX1 15 "ReachedHeap$Graph" "roots" "[I" ∈ lw_g := tb1 60 rfl
theorem fl_X1_18 : Cond.fieldLink RX1 18 "ReachedHeap$Graph" "holders" "[I" ∈ lw_g := tb1 62 rfl
theorem fl_X1_24 : Cond.fieldLink RX1 24 "ReachedHeap$Graph" "toFinish" "LReachedHeap$Line;" ∈ lw_g := tb1 64 rfl
theorem fl_X1_34 : Cond.fieldLink RX1 34 "ReachedHeap$Graph" "present" "I" ∈ lw_g := tb1 52 rfl
theorem fl_X1_65 : Cond.fieldLink RX1 65 "ReachedHeap$Graph" "wanting" "I" ∈ lw_g := tb1 57 rfl
theorem fl_X2_11 : Cond.fieldLink RX2 11 "ReachedHeap$History" "states" "[LReachedHeap$State;" ∈ lw_g := tb1 156 rfl
theorem fl_X2_18 : Cond.fieldLink RX2 18 "ReachedHeap$History" "first" "I" ∈ lw_g := tb1 157 rfl
theorem fl_X2_28 : Cond.fieldLink RX2 28 "ReachedHeap$History" "size" "I" ∈ lw_g := tb1 158 rfl
theorem fl_X3_9 : Cond.fieldLink RX3 9 "ReachedHeap$Line" "numbers" "[I" ∈ lw_g := tb1 39 rfl
theorem fl_X3_15 : Cond.fieldLink RX3 15 "ReachedHeap$Line" "length" "I" ∈ lw_g := tb1 40 rfl
theorem fl_X4_9 : Cond.fieldLink RX4 9 "ReachedHeap$Search" "part" "I" ∈ lw_g := tb1 88 rfl
theorem fl_X4_18 : Cond.fieldLink RX4 18 "ReachedHeap$Search" "row" "LReachedHeap$Line;" ∈ lw_g := tb1 94 rfl
theorem fl_X4_22 : Cond.fieldLink RX4 22 "ReachedHeap$Search" "blackOnes" "I" ∈ lw_g := tb1 92 rfl
theorem fl_X4_33 : Cond.fieldLink RX4 33 "ReachedHeap$Search" "greyOnes" "I" ∈ lw_g := tb1 90 rfl
theorem fl_X4_36 : Cond.fieldLink RX4 36 "ReachedHeap$Graph" "present" "I" ∈ lw_g := tb1 53 rfl
theorem fl_X4_49 : Cond.fieldLink RX4 49 "ReachedHeap$Search" "sweepFrom" "I" ∈ lw_g := tb1 97 rfl
theorem fl_X4_52 : Cond.fieldLink RX4 52 "ReachedHeap$Search" "began" "I" ∈ lw_g := tb1 100 rfl
theorem fl_X4_55 : Cond.fieldLink RX4 55 "ReachedHeap$Search" "steps" "I" ∈ lw_g := tb1 101 rfl
theorem fl_X4_58 : Cond.fieldLink RX4 58 "ReachedHeap$Search" "goneNow" "I" ∈ lw_g := tb1 103 rfl
theorem fl_X4_67 : Cond.fieldLink RX4 67 "ReachedHeap$Graph" "toFinish" "LReachedHeap$Line;" ∈ lw_g := tb1 66 rfl
theorem fl_X4_70 : Cond.fieldLink RX4 70 "ReachedHeap$Line" "length" "I" ∈ lw_g := tb1 41 rfl
theorem fl_X4_101 : Cond.fieldLink RX4 101 "ReachedHeap$Graph" "wanting" "I" ∈ lw_g := tb1 58 rfl
theorem fl_X4_110 : Cond.fieldLink RX4 110 "ReachedHeap$Search" "goneEver" "I" ∈ lw_g := tb1 106 rfl
theorem fl_X5_12 : Cond.fieldLink RX5 12 "ReachedHeap$State" "graph" "LReachedHeap$Graph;" ∈ lw_g := tb1 126 rfl
theorem fl_X5_21 : Cond.fieldLink RX5 21 "ReachedHeap$State" "search" "LReachedHeap$Search;" ∈ lw_g := tb1 128 rfl
theorem fl_X5_25 : Cond.fieldLink RX5 25 "ReachedHeap$State" "beganBefore" "[I" ∈ lw_g := tb1 130 rfl
theorem fl_X5_29 : Cond.fieldLink RX5 29 "ReachedHeap$State" "care" "I" ∈ lw_g := tb1 131 rfl
theorem fl_X5_41 : Cond.fieldLink RX5 41 "ReachedHeap$State" "came" "I" ∈ lw_g := tb1 132 rfl
theorem fl_X5_44 : Cond.fieldLink RX5 44 "ReachedHeap$Search" "began" "I" ∈ lw_g := tb1 99 rfl
theorem fl_X5_90 : Cond.fieldLink RX5 90 "ReachedHeap$Graph" "holders" "[I" ∈ lw_g := tb1 63 rfl
theorem fl_X5_96 : Cond.fieldLink RX5 96 "ReachedHeap$Graph" "wanting" "I" ∈ lw_g := tb1 56 rfl
theorem fl_X5_104 : Cond.fieldLink RX5 104 "ReachedHeap$Graph" "toFinish" "LReachedHeap$Line;" ∈ lw_g := tb1 65 rfl
theorem fl_X5_113 : Cond.fieldLink RX5 113 "ReachedHeap$State" "finished" "I" ∈ lw_g := tb1 133 rfl
theorem fl_X5_116 : Cond.fieldLink RX5 116 "ReachedHeap$Graph" "roots" "[I" ∈ lw_g := tb1 61 rfl
theorem fl_X5_133 : Cond.fieldLink RX5 133 "ReachedHeap$Search" "row" "LReachedHeap$Line;" ∈ lw_g := tb1 95 rfl
theorem fl_X5_136 : Cond.fieldLink RX5 136 "ReachedHeap$Line" "length" "I" ∈ lw_g := tb1 42 rfl
theorem fl_X5_139 : Cond.fieldLink RX5 139 "ReachedHeap$Search" "goneEver" "I" ∈ lw_g := tb1 105 rfl
theorem fl_X5_154 : Cond.fieldLink RX5 154 "ReachedHeap$Graph" "present" "I" ∈ lw_g := tb1 54 rfl
theorem fl_X5_161 : Cond.fieldLink RX5 161 "ReachedHeap$Search" "greyOnes" "I" ∈ lw_g := tb1 91 rfl
theorem fl_X5_164 : Cond.fieldLink RX5 164 "ReachedHeap$Search" "blackOnes" "I" ∈ lw_g := tb1 93 rfl
theorem fl_X5_167 : Cond.fieldLink RX5 167 "ReachedHeap$Search" "goneNow" "I" ∈ lw_g := tb1 104 rfl
theorem fl_X5_173 : Cond.fieldLink RX5 173 "ReachedHeap$Search" "part" "I" ∈ lw_g := tb1 89 rfl
theorem fl_X5_176 : Cond.fieldLink RX5 176 "ReachedHeap$Search" "sweepFrom" "I" ∈ lw_g := tb1 98 rfl
theorem fl_X5_179 : Cond.fieldLink RX5 179 "ReachedHeap$Search" "steps" "I" ∈ lw_g := tb1 102 rfl
theorem fl_X7_7 : Cond.fieldLink RX7 7 "ReachedHeapModel" "s" "[I" ∈ lw_g := tb3 208 rfl
theorem fl_X7_13 : Cond.fieldLink RX7 13 "ReachedHeapModel" "past" "[I" ∈ lw_g := tb3 209 rfl
theorem fl_X7_16 : Cond.fieldLink RX7 16 "ReachedHeapModel" "held" "[I" ∈ lw_g := tb3 210 rfl
theorem fl_X7_19 : Cond.fieldLink RX7 19 "ReachedHeapModel" "tried" "[I" ∈ lw_g := tb3 211 rfl
theorem fl_X7_22 : Cond.fieldLink RX7 22 "ReachedHeapModel" "kept" "[I" ∈ lw_g := tb3 212 rfl
theorem fl_X7_25 : Cond.fieldLink RX7 25 "ReachedHeapModel" "text" "[I" ∈ lw_g := tb3 216 rfl
theorem fl_X7_28 : Cond.fieldLink RX7 28 "ReachedHeapModel" "told" "[I" ∈ lw_g := tb3 222 rfl
theorem fl_X7_31 : Cond.fieldLink RX7 31 "ReachedHeapModel" "runs" "Z" ∈ lw_g := tb3 215 rfl
theorem fl_X7_35 : Cond.fieldLink RX7 35 "ReachedHeapModel" "pasts" "I" ∈ lw_g := tb3 214 rfl
theorem fl_X7_132 : Cond.fieldLink RX7 132 "ReachedHeapModel" "typed" "I" ∈ lw_g := tb3 217 rfl
theorem fl_X7_135 : Cond.fieldLink RX7 135 "ReachedHeapModel" "isKept" "Z" ∈ lw_g := tb3 213 rfl
theorem fl_X7_145 : Cond.fieldLink RX7 145 "ReachedHeapModel" "spot" "I" ∈ lw_g := tb3 218 rfl
theorem fl_X7_158 : Cond.fieldLink RX7 158 "ReachedHeapModel" "order" "I" ∈ lw_g := tb3 221 rfl
theorem fl_X7_180 : Cond.fieldLink RX7 180 "ReachedHeapModel" "commands" "I" ∈ lw_g := tb3 220 rfl
theorem fl_X7_189 : Cond.fieldLink RX7 189 "ReachedHeapModel" "cause" "I" ∈ lw_g := tb3 219 rfl
theorem ml_X6_1 : Cond.methodLink RX6 1 objectInit ∈ lw_g := tb1 18 rfl
theorem ml_X6_24 : Cond.methodLink RX6 24 yX2_init ∈ lw_g := tb1 149 rfl
theorem ml_X6_40 : Cond.methodLink RX6 40 yX2_note ∈ lw_g := tb1 233 rfl
theorem ml_X6_44 : Cond.methodLink RX6 44 yX5_create ∈ lw_g := tb2 26 rfl
theorem ml_X6_48 : Cond.methodLink RX6 48 yX2_settle ∈ lw_g := tb2 73 rfl
theorem ml_X6_51 : Cond.methodLink RX6 51 yX5_writeField ∈ lw_g := tb2 84 rfl
theorem ml_X6_55 : Cond.methodLink RX6 55 yX5_writeRoot ∈ lw_g := tb2 136 rfl
theorem ml_X6_59 : Cond.methodLink RX6 59 yX5_writeHolder ∈ lw_g := tb2 148 rfl
theorem ml_X6_62 : Cond.methodLink RX6 62 yX5_askHolder ∈ lw_g := tb2 160 rfl
theorem ml_X6_65 : Cond.methodLink RX6 65 yX5_wishFinish ∈ lw_g := tb2 172 rfl
theorem ml_X6_68 : Cond.methodLink RX6 68 yX5_finishFirst ∈ lw_g := tb2 186 rfl
theorem ml_X6_71 : Cond.methodLink RX6 71 yX5_beginSearch ∈ lw_g := tb2 198 rfl
theorem ml_X6_75 : Cond.methodLink RX6 75 yX5_doSteps ∈ lw_g := tb2 221 rfl
theorem ml_X6_78 : Cond.methodLink RX6 78 yX5_doAllSteps ∈ lw_g := tb3 24 rfl
theorem ml_X6_81 : Cond.methodLink RX6 81 yX5_setCare ∈ lw_g := tb3 32 rfl
theorem ml_X6_84 : Cond.methodLink RX6 84 yX5_tellObject ∈ lw_g := tb3 40 rfl
theorem ml_X6_91 : Cond.methodLink RX6 91 yX1_tellReferred ∈ lw_g := tb3 61 rfl
theorem ml_X6_106 : Cond.methodLink RX6 106 yX3_at ∈ lw_g := tb3 71 rfl
theorem ml_X6_111 : Cond.methodLink RX6 111 yX5_tellSet ∈ lw_g := tb3 76 rfl
theorem ml_X6_121 : Cond.methodLink RX6 121 yX5_tellNumber ∈ lw_g := tb3 85 rfl
theorem ml_X6_124 : Cond.methodLink RX6 124 yX1_has ∈ lw_g := tb3 98 rfl
theorem ml_X6_128 : Cond.methodLink RX6 128 yX1_distanceTo ∈ lw_g := tb3 99 rfl
theorem ml_X6_131 : Cond.methodLink RX6 131 yX1_reachedByRoots ∈ lw_g := tb3 107 rfl
theorem ml_X6_134 : Cond.methodLink RX6 134 yX6_bit ∈ lw_g := tb2 43 rfl
theorem ml_X6_137 : Cond.methodLink RX6 137 yX1_setOfRoots ∈ lw_g := tb3 108 rfl
theorem ml_X6_140 : Cond.methodLink RX6 140 yX1_reachedFrom ∈ lw_g := tb3 109 rfl
theorem ml_X6_143 : Cond.methodLink RX6 143 yX5_copyFrom ∈ lw_g := tb3 114 rfl
theorem ml_X6_149 : Cond.methodLink RX6 149 yX5_lateOnes ∈ lw_g := tb3 119 rfl
theorem ml_X6_152 : Cond.methodLink RX6 152 yJ6_bitCount_0f7a4 ∈ lw_g := tb3 123 rfl
theorem ml_X6_157 : Cond.methodLink RX6 157 yX1_size ∈ lw_g := tb3 128 rfl
theorem ml_X6_159 : Cond.methodLink RX6 159 yX2_takeBack ∈ lw_g := tb3 137 rfl
theorem ml_X6_163 : Cond.methodLink RX6 163 yX0_append ∈ lw_g := tb3 145 rfl
theorem ml_X6_166 : Cond.methodLink RX6 166 yX0_empty ∈ lw_g := tb3 153 rfl
theorem ml_X6_169 : Cond.methodLink RX6 169 yX0_tryOn ∈ lw_g := tb3 161 rfl
theorem ml_X6_172 : Cond.methodLink RX6 172 yX0_tellFault ∈ lw_g := tb3 194 rfl
theorem ml_X6_181 : Cond.methodLink RX6 181 Lib.Math.max.name ∈ lw_g := tb2 40 rfl
theorem ml_X0_3 : Cond.methodLink RX0 3 objectInit ∈ lw_g := tb1 172 rfl
theorem ml_X0_31 : Cond.methodLink RX0 31 yX0_readCommand ∈ lw_g := tb3 165 rfl
theorem ml_X0_41 : Cond.methodLink RX0 41 yX5_create ∈ lw_g := tb3 188 rfl
theorem ml_X0_56 : Cond.methodLink RX0 56 yX5_writeField ∈ lw_g := tb3 189 rfl
theorem ml_X0_60 : Cond.methodLink RX0 60 yX5_writeRoot ∈ lw_g := tb3 190 rfl
theorem ml_X0_64 : Cond.methodLink RX0 64 yX5_beginSearch ∈ lw_g := tb3 191 rfl
theorem ml_X0_68 : Cond.methodLink RX0 68 yX5_doSteps ∈ lw_g := tb3 192 rfl
theorem ml_X0_75 : Cond.methodLink RX0 75 yX0_signAt ∈ lw_g := tb3 169 rfl
theorem ml_X0_78 : Cond.methodLink RX0 78 yX0_read ∈ lw_g := tb3 173 rfl
theorem ml_X0_81 : Cond.methodLink RX0 81 yX0_readNumber ∈ lw_g := tb3 177 rfl
theorem ml_X0_84 : Cond.methodLink RX0 84 yX0_readTarget ∈ lw_g := tb3 184 rfl
theorem ml_X0_87 : Cond.methodLink RX0 87 yX0_isDigit ∈ lw_g := tb3 181 rfl
theorem ml_X1_3 : Cond.methodLink RX1 3 objectInit ∈ lw_g := tb1 32 rfl
theorem ml_X1_28 : Cond.methodLink RX1 28 yJ7_fill_53178 ∈ lw_g := tb1 49 rfl
theorem ml_X1_42 : Cond.methodLink RX1 42 yX1_has ∈ lw_g := tb2 96 rfl
theorem ml_X1_46 : Cond.methodLink RX1 46 yJ6_bitCount_0f7a4 ∈ lw_g := tb3 93 rfl
theorem ml_X1_55 : Cond.methodLink RX1 55 yX1_rootAt ∈ lw_g := tb3 65 rfl
theorem ml_X1_58 : Cond.methodLink RX1 58 yX1_holderAt ∈ lw_g := tb3 66 rfl
theorem ml_X1_68 : Cond.methodLink RX1 68 yX1_setField ∈ lw_g := tb3 2 rfl
theorem ml_X1_72 : Cond.methodLink RX1 72 yX1_forget ∈ lw_g := tb3 3 rfl
theorem ml_X1_75 : Cond.methodLink RX1 75 yX1_behind ∈ lw_g := tb2 115 rfl
theorem ml_X1_78 : Cond.methodLink RX1 78 yX1_setOfRoots ∈ lw_g := tb2 102 rfl
theorem ml_X1_82 : Cond.methodLink RX1 82 yX1_reachedFrom ∈ lw_g := tb2 111 rfl
theorem ml_X1_85 : Cond.methodLink RX1 85 yX3_asSet ∈ lw_g := tb2 106 rfl
theorem ml_X1_88 : Cond.methodLink RX1 88 arraycopyName ∈ lw_g := tb2 12 rfl
theorem ml_X1_94 : Cond.methodLink RX1 94 yX3_copyFrom ∈ lw_g := tb2 15 rfl
theorem ml_X2_3 : Cond.methodLink RX2 3 objectInit ∈ lw_g := tb1 152 rfl
theorem ml_X2_22 : Cond.methodLink RX2 22 yJ9_floorMod_7cf53 ∈ lw_g := tb2 1 rfl
theorem ml_X2_31 : Cond.methodLink RX2 31 yX2_stateAt ∈ lw_g := tb1 237 rfl
theorem ml_X2_35 : Cond.methodLink RX2 35 yX5_copyFrom ∈ lw_g := tb2 4 rfl
theorem ml_X3_3 : Cond.methodLink RX3 3 objectInit ∈ lw_g := tb1 38 rfl
theorem ml_X3_23 : Cond.methodLink RX3 23 arraycopyName ∈ lw_g := tb2 19 rfl
theorem ml_X4_3 : Cond.methodLink RX4 3 objectInit ∈ lw_g := tb1 85 rfl
theorem ml_X4_29 : Cond.methodLink RX4 29 yX4_isBlack ∈ lw_g := tb3 48 rfl
theorem ml_X4_41 : Cond.methodLink RX4 41 yX3_append ∈ lw_g := tb2 69 rfl
theorem ml_X4_45 : Cond.methodLink RX4 45 yX4_needsCare ∈ lw_g := tb2 51 rfl
theorem ml_X4_61 : Cond.methodLink RX4 61 yX1_rootAt ∈ lw_g := tb2 210 rfl
theorem ml_X4_64 : Cond.methodLink RX4 64 yX4_shade ∈ lw_g := tb2 211 rfl
theorem ml_X4_73 : Cond.methodLink RX4 73 yX3_at ∈ lw_g := tb2 212 rfl
theorem ml_X4_76 : Cond.methodLink RX4 76 yX4_sweep ∈ lw_g := tb2 229 rfl
theorem ml_X4_80 : Cond.methodLink RX4 80 yX4_markFirst ∈ lw_g := tb3 6 rfl
theorem ml_X4_83 : Cond.methodLink RX4 83 yX4_whiteOnes ∈ lw_g := tb2 234 rfl
theorem ml_X4_87 : Cond.methodLink RX4 87 yX1_emptyHoldersOf ∈ lw_g := tb3 12 rfl
theorem ml_X4_90 : Cond.methodLink RX4 90 yX4_findToFinish ∈ lw_g := tb3 16 rfl
theorem ml_X4_93 : Cond.methodLink RX4 93 yX3_takeFirst ∈ lw_g := tb3 10 rfl
theorem ml_X4_97 : Cond.methodLink RX4 97 yX1_fieldOf ∈ lw_g := tb3 11 rfl
theorem ml_X4_107 : Cond.methodLink RX4 107 yX1_letGo ∈ lw_g := tb2 238 rfl
theorem ml_X4_113 : Cond.methodLink RX4 113 yX3_copyFrom ∈ lw_g := tb2 24 rfl
theorem ml_X5_3 : Cond.methodLink RX5 3 objectInit ∈ lw_g := tb1 26 rfl
theorem ml_X5_11 : Cond.methodLink RX5 11 yX1_init ∈ lw_g := tb1 29 rfl
theorem ml_X5_37 : Cond.methodLink RX5 37 yX1_bring ∈ lw_g := tb2 33 rfl
theorem ml_X5_47 : Cond.methodLink RX5 47 yX4_colourNewOne ∈ lw_g := tb2 47 rfl
theorem ml_X5_51 : Cond.methodLink RX5 51 yX5_referRoot ∈ lw_g := tb2 56 rfl
theorem ml_X5_55 : Cond.methodLink RX5 55 yX1_has ∈ lw_g := tb2 88 rfl
theorem ml_X5_59 : Cond.methodLink RX5 59 yX1_hasOrNone ∈ lw_g := tb2 92 rfl
theorem ml_X5_66 : Cond.methodLink RX5 66 yX1_reachedByAll ∈ lw_g := tb2 98 rfl
theorem ml_X5_69 : Cond.methodLink RX5 69 yX1_fieldOf ∈ lw_g := tb2 119 rfl
theorem ml_X5_73 : Cond.methodLink RX5 73 yX1_setField ∈ lw_g := tb2 124 rfl
theorem ml_X5_77 : Cond.methodLink RX5 77 yX4_isBlack ∈ lw_g := tb2 128 rfl
theorem ml_X5_80 : Cond.methodLink RX5 80 yX5_takeCare ∈ lw_g := tb2 60 rfl
theorem ml_X5_84 : Cond.methodLink RX5 84 yX1_rootAt ∈ lw_g := tb2 140 rfl
theorem ml_X5_87 : Cond.methodLink RX5 87 yX1_holderAt ∈ lw_g := tb2 152 rfl
theorem ml_X5_93 : Cond.methodLink RX5 93 yX5_shadeIfCareIsNeeded ∈ lw_g := tb2 164 rfl
theorem ml_X5_99 : Cond.methodLink RX5 99 yJ6_bitCount_0f7a4 ∈ lw_g := tb2 176 rfl
theorem ml_X5_108 : Cond.methodLink RX5 108 yX3_takeFirst ∈ lw_g := tb2 190 rfl
theorem ml_X5_119 : Cond.methodLink RX5 119 yX4_needsCare ∈ lw_g := tb2 64 rfl
theorem ml_X5_123 : Cond.methodLink RX5 123 yX4_shade ∈ lw_g := tb2 65 rfl
theorem ml_X5_126 : Cond.methodLink RX5 126 yX4_isThere ∈ lw_g := tb2 202 rfl
theorem ml_X5_129 : Cond.methodLink RX5 129 yX4_open ∈ lw_g := tb2 206 rfl
theorem ml_X5_142 : Cond.methodLink RX5 142 yX4_advance ∈ lw_g := tb2 225 rfl
theorem ml_X5_145 : Cond.methodLink RX5 145 yX4_colourOf ∈ lw_g := tb3 44 rfl
theorem ml_X5_148 : Cond.methodLink RX5 148 yX1_reachedByRoots ∈ lw_g := tb3 49 rfl
theorem ml_X5_151 : Cond.methodLink RX5 151 yX3_placeOf ∈ lw_g := tb3 53 rfl
theorem ml_X5_157 : Cond.methodLink RX5 157 yX4_whiteOnes ∈ lw_g := tb3 80 rfl
theorem ml_X5_170 : Cond.methodLink RX5 170 yX1_size ∈ lw_g := tb3 89 rfl
theorem ml_X5_182 : Cond.methodLink RX5 182 yX1_copyFrom ∈ lw_g := tb2 8 rfl
theorem ml_X5_185 : Cond.methodLink RX5 185 yX4_copyFrom ∈ lw_g := tb2 20 rfl
theorem ml_X5_188 : Cond.methodLink RX5 188 arraycopyName ∈ lw_g := tb2 25 rfl
theorem ml_L_9 : Cond.methodLink RL 9 yX6_init ∈ lw_g := tb1 15 rfl
theorem ml_L_12 : Cond.methodLink RL 12 yX7_init ∈ lw_g := tb3 204 rfl
theorem ml_L_13 : Cond.methodLink RL 13 yX6_make ∈ lw_g := tb1 229 rfl
theorem ml_L_17 : Cond.methodLink RL 17 yX7_make ∈ lw_g := tb4 14 rfl
theorem ml_L_18 : Cond.methodLink RL 18 yX6_field ∈ lw_g := tb2 80 rfl
theorem ml_L_22 : Cond.methodLink RL 22 yX7_field ∈ lw_g := tb4 56 rfl
theorem ml_L_23 : Cond.methodLink RL 23 yX6_root ∈ lw_g := tb2 132 rfl
theorem ml_L_27 : Cond.methodLink RL 27 yX7_root ∈ lw_g := tb4 80 rfl
theorem ml_L_28 : Cond.methodLink RL 28 yX6_weak ∈ lw_g := tb2 144 rfl
theorem ml_L_31 : Cond.methodLink RL 31 yX7_weak ∈ lw_g := tb4 84 rfl
theorem ml_L_32 : Cond.methodLink RL 32 yX6_ask ∈ lw_g := tb2 156 rfl
theorem ml_L_35 : Cond.methodLink RL 35 yX7_ask ∈ lw_g := tb4 88 rfl
theorem ml_L_36 : Cond.methodLink RL 36 yX6_want ∈ lw_g := tb2 168 rfl
theorem ml_L_39 : Cond.methodLink RL 39 yX7_want ∈ lw_g := tb4 92 rfl
theorem ml_L_40 : Cond.methodLink RL 40 yX6_finish ∈ lw_g := tb2 182 rfl
theorem ml_L_43 : Cond.methodLink RL 43 yX7_finish ∈ lw_g := tb4 100 rfl
theorem ml_L_44 : Cond.methodLink RL 44 yX6_begin ∈ lw_g := tb2 194 rfl
theorem ml_L_48 : Cond.methodLink RL 48 yX7_begin ∈ lw_g := tb4 108 rfl
theorem ml_L_49 : Cond.methodLink RL 49 yX6_step ∈ lw_g := tb2 217 rfl
theorem ml_L_52 : Cond.methodLink RL 52 yX7_step ∈ lw_g := tb4 116 rfl
theorem ml_L_53 : Cond.methodLink RL 53 yX6_all ∈ lw_g := tb3 20 rfl
theorem ml_L_56 : Cond.methodLink RL 56 yX7_all ∈ lw_g := tb4 144 rfl
theorem ml_L_57 : Cond.methodLink RL 57 yX6_set ∈ lw_g := tb3 28 rfl
theorem ml_L_60 : Cond.methodLink RL 60 yX7_set ∈ lw_g := tb4 152 rfl
theorem ml_L_61 : Cond.methodLink RL 61 yX6_objectOf ∈ lw_g := tb3 36 rfl
theorem ml_L_64 : Cond.methodLink RL 64 yX7_objectOf ∈ lw_g := tb4 156 rfl
theorem ml_L_65 : Cond.methodLink RL 65 yX6_refers ∈ lw_g := tb3 57 rfl
theorem ml_L_68 : Cond.methodLink RL 68 yX7_refers ∈ lw_g := tb4 164 rfl
theorem ml_L_69 : Cond.methodLink RL 69 yX6_grey ∈ lw_g := tb3 67 rfl
theorem ml_L_72 : Cond.methodLink RL 72 yX7_grey ∈ lw_g := tb4 168 rfl
theorem ml_L_73 : Cond.methodLink RL 73 yX6_objects ∈ lw_g := tb3 72 rfl
theorem ml_L_76 : Cond.methodLink RL 76 yX7_objects ∈ lw_g := tb4 172 rfl
theorem ml_L_77 : Cond.methodLink RL 77 yX6_count ∈ lw_g := tb3 81 rfl
theorem ml_L_80 : Cond.methodLink RL 80 yX7_count ∈ lw_g := tb4 180 rfl
theorem ml_L_81 : Cond.methodLink RL 81 yX6_far ∈ lw_g := tb3 94 rfl
theorem ml_L_84 : Cond.methodLink RL 84 yX7_far ∈ lw_g := tb4 187 rfl
theorem ml_L_85 : Cond.methodLink RL 85 yX6_hangs ∈ lw_g := tb3 103 rfl
theorem ml_L_88 : Cond.methodLink RL 88 yX7_hangs ∈ lw_g := tb4 191 rfl
theorem ml_L_89 : Cond.methodLink RL 89 yX6_wouldGo ∈ lw_g := tb3 110 rfl
theorem ml_L_92 : Cond.methodLink RL 92 yX7_wouldGo ∈ lw_g := tb4 195 rfl
theorem ml_L_93 : Cond.methodLink RL 93 yX6_late ∈ lw_g := tb3 115 rfl
theorem ml_L_96 : Cond.methodLink RL 96 yX7_late ∈ lw_g := tb4 202 rfl
theorem ml_L_97 : Cond.methodLink RL 97 yX6_keep ∈ lw_g := tb3 124 rfl
theorem ml_L_100 : Cond.methodLink RL 100 yX7_keep ∈ lw_g := tb4 206 rfl
theorem ml_L_101 : Cond.methodLink RL 101 yX6_restore ∈ lw_g := tb3 129 rfl
theorem ml_L_104 : Cond.methodLink RL 104 yX7_restore ∈ lw_g := tb4 211 rfl
theorem ml_L_105 : Cond.methodLink RL 105 yX6_undo ∈ lw_g := tb3 133 rfl
theorem ml_L_108 : Cond.methodLink RL 108 yX7_undo ∈ lw_g := tb4 215 rfl
theorem ml_L_109 : Cond.methodLink RL 109 yX6_type ∈ lw_g := tb3 141 rfl
theorem ml_L_112 : Cond.methodLink RL 112 yX7_type ∈ lw_g := tb4 219 rfl
theorem ml_L_113 : Cond.methodLink RL 113 yX6_clearText ∈ lw_g := tb3 149 rfl
theorem ml_L_116 : Cond.methodLink RL 116 yX7_clearText ∈ lw_g := tb4 223 rfl
theorem ml_L_117 : Cond.methodLink RL 117 yX6_fault ∈ lw_g := tb3 157 rfl
theorem ml_L_120 : Cond.methodLink RL 120 yX7_fault ∈ lw_g := tb4 227 rfl
theorem ml_L_121 : Cond.methodLink RL 121 yX6_play ∈ lw_g := tb3 198 rfl
theorem ml_L_124 : Cond.methodLink RL 124 yX7_play ∈ lw_g := tb5 24 rfl
theorem ml_X7_1 : Cond.methodLink RX7 1 objectInit ∈ lw_g := tb3 207 rfl
theorem ml_X7_39 : Cond.methodLink RX7 39 yX7_in ∈ lw_g := tb4 21 rfl
theorem ml_X7_43 : Cond.methodLink RX7 43 yX7_of ∈ lw_g := tb4 28 rfl
theorem ml_X7_47 : Cond.methodLink RX7 47 yX7_spreads ∈ lw_g := tb4 76 rfl
theorem ml_X7_50 : Cond.methodLink RX7 50 yX7_rooted ∈ lw_g := tb4 72 rfl
theorem ml_X7_54 : Cond.methodLink RX7 54 yX7_reached ∈ lw_g := tb4 68 rfl
theorem ml_X7_58 : Cond.methodLink RX7 58 yX7_sets ∈ lw_g := tb4 36 rfl
theorem ml_X7_62 : Cond.methodLink RX7 62 yX7_isMarking ∈ lw_g := tb4 40 rfl
theorem ml_X7_66 : Cond.methodLink RX7 66 yX7_shades ∈ lw_g := tb4 52 rfl
theorem ml_X7_70 : Cond.methodLink RX7 70 yX7_cares ∈ lw_g := tb4 48 rfl
theorem ml_X7_74 : Cond.methodLink RX7 74 yX7_isRoot ∈ lw_g := tb4 18 rfl
theorem ml_X7_78 : Cond.methodLink RX7 78 yX7_lowestFree ∈ lw_g := tb4 24 rfl
theorem ml_X7_81 : Cond.methodLink RX7 81 yX7_changes ∈ lw_g := tb4 32 rfl
theorem ml_X7_84 : Cond.methodLink RX7 84 yX7_writesRoot ∈ lw_g := tb4 44 rfl
theorem ml_X7_87 : Cond.methodLink RX7 87 yX7_isObject ∈ lw_g := tb4 60 rfl
theorem ml_X7_90 : Cond.methodLink RX7 90 yX7_isReached ∈ lw_g := tb4 64 rfl
theorem ml_X7_93 : Cond.methodLink RX7 93 yX7_wanting ∈ lw_g := tb4 96 rfl
theorem ml_X7_96 : Cond.methodLink RX7 96 yX7_takes ∈ lw_g := tb4 104 rfl
theorem ml_X7_99 : Cond.methodLink RX7 99 yX7_begins ∈ lw_g := tb4 112 rfl
theorem ml_X7_102 : Cond.methodLink RX7 102 yX7_clears ∈ lw_g := tb4 136 rfl
theorem ml_X7_105 : Cond.methodLink RX7 105 yX7_letsGo ∈ lw_g := tb4 128 rfl
theorem ml_X7_108 : Cond.methodLink RX7 108 yX7_sweeps ∈ lw_g := tb4 124 rfl
theorem ml_X7_111 : Cond.methodLink RX7 111 yX7_blackens ∈ lw_g := tb4 132 rfl
theorem ml_X7_114 : Cond.methodLink RX7 114 yX7_looksForFinish ∈ lw_g := tb4 140 rfl
theorem ml_X7_117 : Cond.methodLink RX7 117 yX7_steps ∈ lw_g := tb4 120 rfl
theorem ml_X7_120 : Cond.methodLink RX7 120 yX7_doesAll ∈ lw_g := tb4 148 rfl
theorem ml_X7_123 : Cond.methodLink RX7 123 yX7_placeIn ∈ lw_g := tb4 160 rfl
theorem ml_X7_126 : Cond.methodLink RX7 126 yX7_those ∈ lw_g := tb4 176 rfl
theorem ml_X7_129 : Cond.methodLink RX7 129 yX7_ones ∈ lw_g := tb4 184 rfl
theorem ml_X7_138 : Cond.methodLink RX7 138 yX7_copies ∈ lw_g := tb4 199 rfl
theorem ml_X7_142 : Cond.methodLink RX7 142 yX7_count ∈ lw_g := tb4 210 rfl
theorem ml_X7_148 : Cond.methodLink RX7 148 yX7_isAt ∈ lw_g := tb5 3 rfl
theorem ml_X7_152 : Cond.methodLink RX7 152 yX7_sign ∈ lw_g := tb4 239 rfl
theorem ml_X7_155 : Cond.methodLink RX7 155 yX7_number ∈ lw_g := tb5 7 rfl
theorem ml_X7_161 : Cond.methodLink RX7 161 yX7_target ∈ lw_g := tb5 11 rfl
theorem ml_X7_164 : Cond.methodLink RX7 164 yX7_begin ∈ lw_g := tb5 19 rfl
theorem ml_X7_167 : Cond.methodLink RX7 167 yX7_make ∈ lw_g := tb5 20 rfl
theorem ml_X7_170 : Cond.methodLink RX7 170 yX7_step ∈ lw_g := tb5 21 rfl
theorem ml_X7_173 : Cond.methodLink RX7 173 yX7_root ∈ lw_g := tb5 22 rfl
theorem ml_X7_176 : Cond.methodLink RX7 176 yX7_field ∈ lw_g := tb5 23 rfl
theorem ml_X7_183 : Cond.methodLink RX7 183 yX7_reads ∈ lw_g := tb4 235 rfl
theorem ml_X7_186 : Cond.methodLink RX7 186 yX7_calls ∈ lw_g := tb5 15 rfl
theorem ml_X7_192 : Cond.methodLink RX7 192 yX7_plays ∈ lw_g := tb4 231 rfl
theorem ml_X6_9 : (RX6, 9, yX5_init, "ReachedHeap") ∈ nsts := List.mem_of_getElem? (i := 0) rfl
theorem ml_X6_31 : (RX6, 31, yX0_init, "ReachedHeap") ∈ nsts := List.mem_of_getElem? (i := 1) rfl
theorem ml_X0_71 : (RX0, 71, yX6_isError, "ReachedHeap") ∈ nsts := List.mem_of_getElem? (i := 2) rfl
theorem ml_X1_23 : (RX1, 23, yX3_init, "ReachedHeap") ∈ nsts := List.mem_of_getElem? (i := 3) rfl
theorem ml_X1_38 : (RX1, 38, yX6_bit, "ReachedHeap") ∈ nsts := List.mem_of_getElem? (i := 4) rfl
theorem ml_X1_51 : (RX1, 51, yX6_isIn, "ReachedHeap") ∈ nsts := List.mem_of_getElem? (i := 5) rfl
theorem ml_X1_61 : (RX1, 61, yX6_lowestOf, "ReachedHeap") ∈ nsts := List.mem_of_getElem? (i := 6) rfl
theorem ml_X2_17 : (RX2, 17, yX5_init, "ReachedHeap") ∈ nsts := List.mem_of_getElem? (i := 7) rfl
theorem ml_X2_39 : (RX2, 39, yX6_isError, "ReachedHeap") ∈ nsts := List.mem_of_getElem? (i := 8) rfl
theorem ml_X3_19 : (RX3, 19, yX6_isIn, "ReachedHeap") ∈ nsts := List.mem_of_getElem? (i := 9) rfl
theorem ml_X3_29 : (RX3, 29, yX6_bit, "ReachedHeap") ∈ nsts := List.mem_of_getElem? (i := 10) rfl
theorem ml_X4_17 : (RX4, 17, yX3_init, "ReachedHeap") ∈ nsts := List.mem_of_getElem? (i := 11) rfl
theorem ml_X4_25 : (RX4, 25, yX6_bit, "ReachedHeap") ∈ nsts := List.mem_of_getElem? (i := 12) rfl
theorem ml_X4_104 : (RX4, 104, yX6_lowestOf, "ReachedHeap") ∈ nsts := List.mem_of_getElem? (i := 13) rfl
theorem ml_X5_20 : (RX5, 20, yX4_init, "ReachedHeap") ∈ nsts := List.mem_of_getElem? (i := 14) rfl
theorem ml_X5_33 : (RX5, 33, yX6_isIn, "ReachedHeap") ∈ nsts := List.mem_of_getElem? (i := 15) rfl
theorem ml_X5_62 : (RX5, 62, yX6_bit, "ReachedHeap") ∈ nsts := List.mem_of_getElem? (i := 16) rfl
abbrev rm_X6_bit : Room := { frames := 0, cells := 0, slots := 0, locals := 0 }
abbrev rm_X6_isIn : Room := { frames := 0, cells := 0, slots := 0, locals := 0 }
abbrev rm_X6_isError : Room := { frames := 0, cells := 0, slots := 0, locals := 0 }
abbrev rm_X6_lowestOf : Room := { frames := 1, cells := 0, slots := 0, locals := 21 }
abbrev rm_X0_isDigit : Room := { frames := 0, cells := 0, slots := 0, locals := 0 }
abbrev rm_J6_bitCount_0f7a4 : Room := { frames := 0, cells := 0, slots := 0, locals := 0 }
abbrev rm_X7_in : Room := { frames := 0, cells := 0, slots := 0, locals := 0 }
abbrev rm_X7_isRoot : Room := { frames := 1, cells := 0, slots := 0, locals := 22 }
abbrev rm_X7_ones : Room := { frames := 0, cells := 0, slots := 0, locals := 0 }
abbrev rm_X3_append : Room := { frames := 0, cells := 0, slots := 0, locals := 0 }
abbrev rm_X3_at : Room := { frames := 1, cells := 0, slots := 0, locals := 21 }
abbrev rm_X3_takeFirst : Room := { frames := 1, cells := 0, slots := 0, locals := 26 }
abbrev rm_X3_placeOf : Room := { frames := 0, cells := 0, slots := 0, locals := 0 }
abbrev rm_X3_asSet : Room := { frames := 1, cells := 0, slots := 0, locals := 20 }
abbrev rm_X1_has : Room := { frames := 1, cells := 0, slots := 0, locals := 20 }
abbrev rm_X1_hasOrNone : Room := { frames := 2, cells := 0, slots := 0, locals := 41 }
abbrev rm_X1_size : Room := { frames := 1, cells := 0, slots := 0, locals := 20 }
abbrev rm_X1_fieldOf : Room := { frames := 1, cells := 0, slots := 0, locals := 21 }
abbrev rm_X1_setField : Room := { frames := 0, cells := 0, slots := 0, locals := 0 }
abbrev rm_X1_rootAt : Room := { frames := 1, cells := 0, slots := 0, locals := 21 }
abbrev rm_X1_holderAt : Room := { frames := 1, cells := 0, slots := 0, locals := 21 }
abbrev rm_X1_tellReferred : Room := { frames := 2, cells := 0, slots := 0, locals := 42 }
abbrev rm_X1_bring : Room := { frames := 2, cells := 0, slots := 0, locals := 43 }
abbrev rm_X1_forget : Room := { frames := 0, cells := 0, slots := 0, locals := 0 }
abbrev rm_X1_letGo : Room := { frames := 1, cells := 0, slots := 0, locals := 23 }
abbrev rm_X1_emptyHoldersOf : Room := { frames := 1, cells := 0, slots := 0, locals := 20 }
abbrev rm_X1_setOfRoots : Room := { frames := 1, cells := 0, slots := 0, locals := 20 }
abbrev rm_X1_behind : Room := { frames := 1, cells := 0, slots := 0, locals := 20 }
abbrev rm_X1_reachedFrom : Room := { frames := 2, cells := 0, slots := 0, locals := 43 }
abbrev rm_X1_reachedByRoots : Room := { frames := 3, cells := 0, slots := 0, locals := 68 }
abbrev rm_X1_reachedByAll : Room := { frames := 3, cells := 0, slots := 0, locals := 68 }
abbrev rm_X1_distanceTo : Room := { frames := 2, cells := 0, slots := 0, locals := 43 }
abbrev rm_X4_isThere : Room := { frames := 0, cells := 0, slots := 0, locals := 0 }
abbrev rm_X4_needsCare : Room := { frames := 0, cells := 0, slots := 0, locals := 0 }
abbrev rm_X4_isBlack : Room := { frames := 1, cells := 0, slots := 0, locals := 20 }
abbrev rm_X4_colourOf : Room := { frames := 2, cells := 0, slots := 0, locals := 41 }
abbrev rm_X4_shade : Room := { frames := 1, cells := 0, slots := 0, locals := 21 }
abbrev rm_X4_colourNewOne : Room := { frames := 1, cells := 0, slots := 0, locals := 20 }
abbrev rm_X4_whiteOnes : Room := { frames := 0, cells := 0, slots := 0, locals := 0 }
abbrev rm_X4_open : Room := { frames := 2, cells := 0, slots := 0, locals := 43 }
abbrev rm_X4_findToFinish : Room := { frames := 2, cells := 0, slots := 0, locals := 43 }
abbrev rm_X4_markFirst : Room := { frames := 2, cells := 0, slots := 0, locals := 47 }
abbrev rm_X4_sweep : Room := { frames := 2, cells := 0, slots := 0, locals := 45 }
abbrev rm_X4_advance : Room := { frames := 3, cells := 0, slots := 0, locals := 70 }
abbrev rm_X5_takeCare : Room := { frames := 2, cells := 0, slots := 0, locals := 43 }
abbrev rm_X5_referRoot : Room := { frames := 3, cells := 0, slots := 0, locals := 66 }
abbrev rm_X5_create : Room := { frames := 4, cells := 0, slots := 0, locals := 89 }
abbrev rm_X5_writeField : Room := { frames := 4, cells := 0, slots := 0, locals := 88 }
abbrev rm_X5_writeRoot : Room := { frames := 4, cells := 0, slots := 0, locals := 89 }
abbrev rm_X5_writeHolder : Room := { frames := 4, cells := 0, slots := 0, locals := 88 }
abbrev rm_X5_shadeIfCareIsNeeded : Room := { frames := 2, cells := 0, slots := 0, locals := 43 }
abbrev rm_X5_askHolder : Room := { frames := 4, cells := 0, slots := 0, locals := 89 }
abbrev rm_X5_wishFinish : Room := { frames := 4, cells := 0, slots := 0, locals := 88 }
abbrev rm_X5_finishFirst : Room := { frames := 4, cells := 0, slots := 0, locals := 89 }
abbrev rm_X5_beginSearch : Room := { frames := 3, cells := 0, slots := 0, locals := 65 }
abbrev rm_X5_doSteps : Room := { frames := 4, cells := 0, slots := 0, locals := 91 }
abbrev rm_X5_doAllSteps : Room := { frames := 4, cells := 0, slots := 0, locals := 91 }
abbrev rm_X5_setCare : Room := { frames := 1, cells := 0, slots := 0, locals := 20 }
abbrev rm_X5_tellObject : Room := { frames := 4, cells := 0, slots := 0, locals := 88 }
abbrev rm_X5_tellSet : Room := { frames := 4, cells := 0, slots := 0, locals := 88 }
abbrev rm_X5_tellNumber : Room := { frames := 2, cells := 0, slots := 0, locals := 40 }
abbrev rm_X5_lateOnes : Room := { frames := 4, cells := 0, slots := 0, locals := 88 }
abbrev rm_X0_append : Room := { frames := 0, cells := 0, slots := 0, locals := 0 }
abbrev rm_X0_empty : Room := { frames := 0, cells := 0, slots := 0, locals := 0 }
abbrev rm_X0_tellFault : Room := { frames := 0, cells := 0, slots := 0, locals := 0 }
abbrev rm_X0_signAt : Room := { frames := 0, cells := 0, slots := 0, locals := 0 }
abbrev rm_X0_read : Room := { frames := 1, cells := 0, slots := 0, locals := 21 }
abbrev rm_X0_readNumber : Room := { frames := 1, cells := 0, slots := 0, locals := 21 }
abbrev rm_X0_readTarget : Room := { frames := 2, cells := 0, slots := 0, locals := 43 }
abbrev rm_X0_readCommand : Room := { frames := 3, cells := 0, slots := 0, locals := 63 }
abbrev rm_X0_tryOn : Room := { frames := 5, cells := 0, slots := 0, locals := 114 }
abbrev rm_J9_floorMod_7cf53 : Room := { frames := 0, cells := 0, slots := 0, locals := 0 }
abbrev rm_X2_settle : Room := { frames := 1, cells := 0, slots := 0, locals := 22 }
abbrev rm_X6_all : Room := { frames := 5, cells := 0, slots := 0, locals := 112 }
abbrev rm_X6_ask : Room := { frames := 5, cells := 0, slots := 0, locals := 112 }
abbrev rm_X6_begin : Room := { frames := 5, cells := 0, slots := 0, locals := 110 }
abbrev rm_X6_clearText : Room := { frames := 1, cells := 0, slots := 0, locals := 21 }
abbrev rm_X6_count : Room := { frames := 3, cells := 0, slots := 0, locals := 61 }
abbrev rm_X6_far : Room := { frames := 3, cells := 0, slots := 0, locals := 66 }
abbrev rm_X6_fault : Room := { frames := 6, cells := 0, slots := 0, locals := 136 }
abbrev rm_X6_field : Room := { frames := 5, cells := 0, slots := 0, locals := 112 }
abbrev rm_X6_finish : Room := { frames := 5, cells := 0, slots := 0, locals := 111 }
abbrev rm_X6_grey : Room := { frames := 2, cells := 0, slots := 0, locals := 42 }
abbrev rm_X6_hangs : Room := { frames := 4, cells := 0, slots := 0, locals := 88 }
abbrev rm_X6_keep : Room := { frames := 4, cells := 0, slots := 0, locals := 89 }
abbrev rm_X6_late : Room := { frames := 5, cells := 0, slots := 0, locals := 109 }
abbrev rm_X6_make : Room := { frames := 5, cells := 0, slots := 0, locals := 111 }
abbrev rm_X6_objectOf : Room := { frames := 5, cells := 0, slots := 0, locals := 110 }
abbrev rm_X6_objects : Room := { frames := 5, cells := 0, slots := 0, locals := 109 }
abbrev rm_X6_play : Room := { frames := 6, cells := 0, slots := 0, locals := 136 }
abbrev rm_X6_refers : Room := { frames := 3, cells := 0, slots := 0, locals := 65 }
abbrev rm_X6_restore : Room := { frames := 5, cells := 0, slots := 0, locals := 110 }
abbrev rm_X6_root : Room := { frames := 5, cells := 0, slots := 0, locals := 112 }
abbrev rm_X6_set : Room := { frames := 5, cells := 0, slots := 0, locals := 110 }
abbrev rm_X6_step : Room := { frames := 5, cells := 0, slots := 0, locals := 114 }
abbrev rm_X6_type : Room := { frames := 1, cells := 0, slots := 0, locals := 21 }
abbrev rm_X6_undo : Room := { frames := 5, cells := 0, slots := 0, locals := 110 }
abbrev rm_X6_want : Room := { frames := 5, cells := 0, slots := 0, locals := 110 }
abbrev rm_X6_weak : Room := { frames := 5, cells := 0, slots := 0, locals := 111 }
abbrev rm_X6_wouldGo : Room := { frames := 5, cells := 0, slots := 0, locals := 112 }
abbrev rm_X7_copies : Room := { frames := 0, cells := 0, slots := 0, locals := 0 }
abbrev rm_X7_changes : Room := { frames := 0, cells := 0, slots := 0, locals := 0 }
abbrev rm_X7_of : Room := { frames := 0, cells := 0, slots := 0, locals := 0 }
abbrev rm_X7_sets : Room := { frames := 0, cells := 0, slots := 0, locals := 0 }
abbrev rm_X7_shades : Room := { frames := 1, cells := 0, slots := 0, locals := 23 }
abbrev rm_X7_begins : Room := { frames := 2, cells := 0, slots := 0, locals := 44 }
abbrev rm_X7_takes : Room := { frames := 0, cells := 0, slots := 0, locals := 0 }
abbrev rm_X7_blackens : Room := { frames := 2, cells := 0, slots := 0, locals := 44 }
abbrev rm_X7_clears : Room := { frames := 1, cells := 0, slots := 0, locals := 22 }
abbrev rm_X7_isObject : Room := { frames := 1, cells := 0, slots := 0, locals := 22 }
abbrev rm_X7_looksForFinish : Room := { frames := 2, cells := 0, slots := 0, locals := 44 }
abbrev rm_X7_letsGo : Room := { frames := 1, cells := 0, slots := 0, locals := 23 }
abbrev rm_X7_sweeps : Room := { frames := 2, cells := 0, slots := 0, locals := 46 }
abbrev rm_X7_steps : Room := { frames := 3, cells := 0, slots := 0, locals := 67 }
abbrev rm_X7_doesAll : Room := { frames := 4, cells := 0, slots := 0, locals := 87 }
abbrev rm_X7_all : Room := { frames := 5, cells := 0, slots := 0, locals := 108 }
abbrev rm_X7_isMarking : Room := { frames := 0, cells := 0, slots := 0, locals := 0 }
abbrev rm_X7_cares : Room := { frames := 2, cells := 0, slots := 0, locals := 44 }
abbrev rm_X7_writesRoot : Room := { frames := 3, cells := 0, slots := 0, locals := 67 }
abbrev rm_X7_ask : Room := { frames := 4, cells := 0, slots := 0, locals := 90 }
abbrev rm_X7_begin : Room := { frames := 3, cells := 0, slots := 0, locals := 65 }
abbrev rm_X7_spreads : Room := { frames := 1, cells := 0, slots := 0, locals := 22 }
abbrev rm_X7_rooted : Room := { frames := 2, cells := 0, slots := 0, locals := 50 }
abbrev rm_X7_reached : Room := { frames := 3, cells := 0, slots := 0, locals := 74 }
abbrev rm_X7_isReached : Room := { frames := 4, cells := 0, slots := 0, locals := 96 }
abbrev rm_X7_field : Room := { frames := 5, cells := 0, slots := 0, locals := 117 }
abbrev rm_X7_lowestFree : Room := { frames := 1, cells := 0, slots := 0, locals := 22 }
abbrev rm_X7_make : Room := { frames := 4, cells := 0, slots := 0, locals := 90 }
abbrev rm_X7_root : Room := { frames := 5, cells := 0, slots := 0, locals := 117 }
abbrev rm_X7_step : Room := { frames := 4, cells := 0, slots := 0, locals := 87 }
abbrev rm_X7_calls : Room := { frames := 6, cells := 0, slots := 0, locals := 141 }
abbrev rm_X7_clearText : Room := { frames := 0, cells := 0, slots := 0, locals := 0 }
abbrev rm_X7_those : Room := { frames := 2, cells := 0, slots := 0, locals := 43 }
abbrev rm_X7_count : Room := { frames := 3, cells := 0, slots := 0, locals := 67 }
abbrev rm_X7_far : Room := { frames := 2, cells := 0, slots := 0, locals := 43 }
abbrev rm_X7_isAt : Room := { frames := 1, cells := 0, slots := 0, locals := 22 }
abbrev rm_X7_number : Room := { frames := 2, cells := 0, slots := 0, locals := 44 }
abbrev rm_X7_sign : Room := { frames := 2, cells := 0, slots := 0, locals := 44 }
abbrev rm_X7_target : Room := { frames := 3, cells := 0, slots := 0, locals := 66 }
abbrev rm_X7_reads : Room := { frames := 4, cells := 0, slots := 0, locals := 87 }
abbrev rm_X7_plays : Room := { frames := 7, cells := 0, slots := 0, locals := 161 }
abbrev rm_X7_fault : Room := { frames := 8, cells := 0, slots := 0, locals := 184 }
abbrev rm_X7_finish : Room := { frames := 4, cells := 0, slots := 0, locals := 90 }
abbrev rm_X7_grey : Room := { frames := 0, cells := 0, slots := 0, locals := 0 }
abbrev rm_X7_hangs : Room := { frames := 3, cells := 0, slots := 0, locals := 74 }
abbrev rm_X7_keep : Room := { frames := 4, cells := 0, slots := 0, locals := 88 }
abbrev rm_X7_late : Room := { frames := 4, cells := 0, slots := 0, locals := 96 }
abbrev rm_X7_placeIn : Room := { frames := 0, cells := 0, slots := 0, locals := 0 }
abbrev rm_X7_objectOf : Room := { frames := 3, cells := 0, slots := 0, locals := 74 }
abbrev rm_X7_objects : Room := { frames := 4, cells := 0, slots := 0, locals := 96 }
abbrev rm_X7_play : Room := { frames := 8, cells := 0, slots := 0, locals := 184 }
abbrev rm_X7_refers : Room := { frames := 2, cells := 0, slots := 0, locals := 42 }
abbrev rm_X7_restore : Room := { frames := 4, cells := 0, slots := 0, locals := 88 }
abbrev rm_X7_set : Room := { frames := 1, cells := 0, slots := 0, locals := 22 }
abbrev rm_X7_type : Room := { frames := 1, cells := 0, slots := 0, locals := 22 }
abbrev rm_X7_undo : Room := { frames := 0, cells := 0, slots := 0, locals := 0 }
abbrev rm_X7_wanting : Room := { frames := 1, cells := 0, slots := 0, locals := 22 }
abbrev rm_X7_want : Room := { frames := 5, cells := 0, slots := 0, locals := 117 }
abbrev rm_X7_weak : Room := { frames := 5, cells := 0, slots := 0, locals := 117 }
abbrev rm_X7_wouldGo : Room := { frames := 5, cells := 0, slots := 0, locals := 108 }
abbrev rm_X3_copyFrom : Room := { frames := 1, cells := 0, slots := 0, locals := 26 }
abbrev rm_X1_copyFrom : Room := { frames := 2, cells := 0, slots := 0, locals := 47 }
abbrev rm_X4_copyFrom : Room := { frames := 2, cells := 0, slots := 0, locals := 47 }
abbrev rm_X5_copyFrom : Room := { frames := 3, cells := 0, slots := 0, locals := 68 }
abbrev rm_X2_stateAt : Room := { frames := 1, cells := 0, slots := 0, locals := 22 }
abbrev rm_X2_note : Room := { frames := 4, cells := 0, slots := 0, locals := 89 }
abbrev rm_X2_takeBack : Room := { frames := 4, cells := 0, slots := 0, locals := 89 }
theorem yv_X6_bit : yS yX6_bit cX6_bit 1 (some .int) 1 := ⟨⟨tb2 44 rfl, tb1 1 rfl, tb2 45 rfl⟩, by decide +kernel, by decide +kernel, by decide +kernel⟩
theorem yv_X6_isIn : yS yX6_isIn cX6_isIn 2 (some .boolean) 2 := ⟨⟨tb2 31 rfl, tb1 1 rfl, tb2 32 rfl⟩, by decide +kernel, by decide +kernel, by decide +kernel⟩
theorem yv_X6_isError : yS yX6_isError cX6_isError 1 (some .boolean) 1 := ⟨⟨tb2 78 rfl, tb1 1 rfl, tb2 79 rfl⟩, by decide +kernel, by decide +kernel, by decide +kernel⟩
theorem yv_X6_lowestOf : yS yX6_lowestOf cX6_lowestOf 3 (some .int) 2 := ⟨⟨tb2 38 rfl, tb1 1 rfl, tb2 39 rfl⟩, by decide +kernel, by decide +kernel, by decide +kernel⟩
theorem yv_X0_isDigit : yS yX0_isDigit cX0_isDigit 1 (some .boolean) 1 := ⟨⟨tb3 182 rfl, tb1 8 rfl, tb3 183 rfl⟩, by decide +kernel, by decide +kernel, by decide +kernel⟩
theorem yv_J6_bitCount_0f7a4 : yS yJ6_bitCount_0f7a4 cJ6_bitCount_0f7a4 1 (some .int) 1 := ⟨⟨tb2 177 rfl, tb1 12 rfl, tb2 178 rfl⟩, by decide +kernel, by decide +kernel, by decide +kernel⟩
theorem yv_X7_in : yS yX7_in cX7_in 3 (some .boolean) 3 := ⟨⟨tb4 22 rfl, tb1 9 rfl, tb4 23 rfl⟩, by decide +kernel, by decide +kernel, by decide +kernel⟩
theorem yv_X7_isRoot : yS yX7_isRoot cX7_isRoot 1 (some .boolean) 1 := ⟨⟨tb4 19 rfl, tb1 9 rfl, tb4 20 rfl⟩, by decide +kernel, by decide +kernel, by decide +kernel⟩
theorem yv_X7_ones : yS yX7_ones cX7_ones 3 (some .int) 1 := ⟨⟨tb4 185 rfl, tb1 9 rfl, tb4 186 rfl⟩, by decide +kernel, by decide +kernel, by decide +kernel⟩
theorem yv_X3_append : yV yX3_append RX3 cX3_append 2 (none) 1 := ⟨⟨tb2 70 rfl, tb2 71 rfl, tb1 4 rfl, tb2 72 rfl⟩, rfl, by decide +kernel, by decide +kernel, by decide +kernel⟩
theorem yv_X3_at : yV yX3_at RX3 cX3_at 2 (some .int) 1 := ⟨⟨tb2 213 rfl, tb2 214 rfl, tb1 4 rfl, tb2 215 rfl⟩, rfl, by decide +kernel, by decide +kernel, by decide +kernel⟩
theorem yv_X3_takeFirst : yV yX3_takeFirst RX3 cX3_takeFirst 2 (some .int) 0 := ⟨⟨tb2 191 rfl, tb2 192 rfl, tb1 4 rfl, tb2 193 rfl⟩, rfl, by decide +kernel, by decide +kernel, by decide +kernel⟩
theorem yv_X3_placeOf : yV yX3_placeOf RX3 cX3_placeOf 3 (some .int) 1 := ⟨⟨tb3 54 rfl, tb3 55 rfl, tb1 4 rfl, tb3 56 rfl⟩, rfl, by decide +kernel, by decide +kernel, by decide +kernel⟩
theorem yv_X3_asSet : yV yX3_asSet RX3 cX3_asSet 3 (some .int) 0 := ⟨⟨tb2 107 rfl, tb2 108 rfl, tb1 4 rfl, tb2 109 rfl⟩, rfl, by decide +kernel, by decide +kernel, by decide +kernel⟩
theorem yv_X1_has : yV yX1_has RX1 cX1_has 2 (some .boolean) 1 := ⟨⟨tb2 89 rfl, tb2 90 rfl, tb1 3 rfl, tb2 91 rfl⟩, rfl, by decide +kernel, by decide +kernel, by decide +kernel⟩
theorem yv_X1_hasOrNone : yV yX1_hasOrNone RX1 cX1_hasOrNone 2 (some .boolean) 1 := ⟨⟨tb2 93 rfl, tb2 94 rfl, tb1 3 rfl, tb2 95 rfl⟩, rfl, by decide +kernel, by decide +kernel, by decide +kernel⟩
theorem yv_X1_size : yV yX1_size RX1 cX1_size 1 (some .int) 0 := ⟨⟨tb3 90 rfl, tb3 91 rfl, tb1 3 rfl, tb3 92 rfl⟩, rfl, by decide +kernel, by decide +kernel, by decide +kernel⟩
theorem yv_X1_fieldOf : yV yX1_fieldOf RX1 cX1_fieldOf 3 (some .int) 2 := ⟨⟨tb2 120 rfl, tb2 121 rfl, tb1 3 rfl, tb2 122 rfl⟩, rfl, by decide +kernel, by decide +kernel, by decide +kernel⟩
theorem yv_X1_setField : yV yX1_setField RX1 cX1_setField 4 (none) 3 := ⟨⟨tb2 125 rfl, tb2 126 rfl, tb1 3 rfl, tb2 127 rfl⟩, rfl, by decide +kernel, by decide +kernel, by decide +kernel⟩
theorem yv_X1_rootAt : yV yX1_rootAt RX1 cX1_rootAt 2 (some .int) 1 := ⟨⟨tb2 141 rfl, tb2 142 rfl, tb1 3 rfl, tb2 143 rfl⟩, rfl, by decide +kernel, by decide +kernel, by decide +kernel⟩
theorem yv_X1_holderAt : yV yX1_holderAt RX1 cX1_holderAt 2 (some .int) 1 := ⟨⟨tb2 153 rfl, tb2 154 rfl, tb1 3 rfl, tb2 155 rfl⟩, rfl, by decide +kernel, by decide +kernel, by decide +kernel⟩
theorem yv_X1_tellReferred : yV yX1_tellReferred RX1 cX1_tellReferred 4 (some .int) 2 := ⟨⟨tb3 62 rfl, tb3 63 rfl, tb1 3 rfl, tb3 64 rfl⟩, rfl, by decide +kernel, by decide +kernel, by decide +kernel⟩
theorem yv_X1_bring : yV yX1_bring RX1 cX1_bring 2 (some .int) 0 := ⟨⟨tb2 34 rfl, tb2 35 rfl, tb1 3 rfl, tb2 36 rfl⟩, rfl, by decide +kernel, by decide +kernel, by decide +kernel⟩
theorem yv_X1_forget : yS yX1_forget cX1_forget 3 (none) 2 := ⟨⟨tb3 4 rfl, tb1 3 rfl, tb3 5 rfl⟩, by decide +kernel, by decide +kernel, by decide +kernel⟩
theorem yv_X1_letGo : yV yX1_letGo RX1 cX1_letGo 3 (none) 1 := ⟨⟨tb2 239 rfl, tb3 0 rfl, tb1 3 rfl, tb3 1 rfl⟩, rfl, by decide +kernel, by decide +kernel, by decide +kernel⟩
theorem yv_X1_emptyHoldersOf : yV yX1_emptyHoldersOf RX1 cX1_emptyHoldersOf 3 (none) 1 := ⟨⟨tb3 13 rfl, tb3 14 rfl, tb1 3 rfl, tb3 15 rfl⟩, rfl, by decide +kernel, by decide +kernel, by decide +kernel⟩
theorem yv_X1_setOfRoots : yV yX1_setOfRoots RX1 cX1_setOfRoots 3 (some .int) 0 := ⟨⟨tb2 103 rfl, tb2 104 rfl, tb1 3 rfl, tb2 105 rfl⟩, rfl, by decide +kernel, by decide +kernel, by decide +kernel⟩
theorem yv_X1_behind : yV yX1_behind RX1 cX1_behind 4 (some .int) 1 := ⟨⟨tb2 116 rfl, tb2 117 rfl, tb1 3 rfl, tb2 118 rfl⟩, rfl, by decide +kernel, by decide +kernel, by decide +kernel⟩
theorem yv_X1_reachedFrom : yV yX1_reachedFrom RX1 cX1_reachedFrom 6 (some .int) 2 := ⟨⟨tb2 112 rfl, tb2 113 rfl, tb1 3 rfl, tb2 114 rfl⟩, rfl, by decide +kernel, by decide +kernel, by decide +kernel⟩
theorem yv_X1_reachedByRoots : yV yX1_reachedByRoots RX1 cX1_reachedByRoots 1 (some .int) 0 := ⟨⟨tb3 50 rfl, tb3 51 rfl, tb1 3 rfl, tb3 52 rfl⟩, rfl, by decide +kernel, by decide +kernel, by decide +kernel⟩
theorem yv_X1_reachedByAll : yV yX1_reachedByAll RX1 cX1_reachedByAll 1 (some .int) 0 := ⟨⟨tb2 99 rfl, tb2 100 rfl, tb1 3 rfl, tb2 101 rfl⟩, rfl, by decide +kernel, by decide +kernel, by decide +kernel⟩
theorem yv_X1_distanceTo : yV yX1_distanceTo RX1 cX1_distanceTo 4 (some .int) 1 := ⟨⟨tb3 100 rfl, tb3 101 rfl, tb1 3 rfl, tb3 102 rfl⟩, rfl, by decide +kernel, by decide +kernel, by decide +kernel⟩
theorem yv_X4_isThere : yV yX4_isThere RX4 cX4_isThere 1 (some .boolean) 0 := ⟨⟨tb2 203 rfl, tb2 204 rfl, tb1 6 rfl, tb2 205 rfl⟩, rfl, by decide +kernel, by decide +kernel, by decide +kernel⟩
theorem yv_X4_needsCare : yV yX4_needsCare RX4 cX4_needsCare 1 (some .boolean) 0 := ⟨⟨tb2 52 rfl, tb2 53 rfl, tb1 6 rfl, tb2 54 rfl⟩, rfl, by decide +kernel, by decide +kernel, by decide +kernel⟩
theorem yv_X4_isBlack : yV yX4_isBlack RX4 cX4_isBlack 2 (some .boolean) 1 := ⟨⟨tb2 129 rfl, tb2 130 rfl, tb1 6 rfl, tb2 131 rfl⟩, rfl, by decide +kernel, by decide +kernel, by decide +kernel⟩
theorem yv_X4_colourOf : yV yX4_colourOf RX4 cX4_colourOf 2 (some .int) 1 := ⟨⟨tb3 45 rfl, tb3 46 rfl, tb1 6 rfl, tb3 47 rfl⟩, rfl, by decide +kernel, by decide +kernel, by decide +kernel⟩
theorem yv_X4_shade : yV yX4_shade RX4 cX4_shade 3 (none) 1 := ⟨⟨tb2 66 rfl, tb2 67 rfl, tb1 6 rfl, tb2 68 rfl⟩, rfl, by decide +kernel, by decide +kernel, by decide +kernel⟩
theorem yv_X4_colourNewOne : yV yX4_colourNewOne RX4 cX4_colourNewOne 2 (none) 1 := ⟨⟨tb2 48 rfl, tb2 49 rfl, tb1 6 rfl, tb2 50 rfl⟩, rfl, by decide +kernel, by decide +kernel, by decide +kernel⟩
theorem yv_X4_whiteOnes : yV yX4_whiteOnes RX4 cX4_whiteOnes 2 (some .int) 1 := ⟨⟨tb2 235 rfl, tb2 236 rfl, tb1 6 rfl, tb2 237 rfl⟩, rfl, by decide +kernel, by decide +kernel, by decide +kernel⟩
theorem yv_X4_open : yV yX4_open RX4 cX4_open 3 (none) 1 := ⟨⟨tb2 207 rfl, tb2 208 rfl, tb1 6 rfl, tb2 209 rfl⟩, rfl, by decide +kernel, by decide +kernel, by decide +kernel⟩
theorem yv_X4_findToFinish : yV yX4_findToFinish RX4 cX4_findToFinish 3 (none) 1 := ⟨⟨tb3 18 rfl, tbs (yX4_findToFinish, 9) (List.mem_of_getElem? (i := 6) rfl), tb1 6 rfl, tb3 19 rfl⟩, rfl, by decide +kernel, by decide +kernel, by decide +kernel⟩
theorem yv_X4_markFirst : yV yX4_markFirst RX4 cX4_markFirst 4 (none) 1 := ⟨⟨tb3 8 rfl, tbs (yX4_markFirst, 9) (List.mem_of_getElem? (i := 5) rfl), tb1 6 rfl, tb3 9 rfl⟩, rfl, by decide +kernel, by decide +kernel, by decide +kernel⟩
theorem yv_X4_sweep : yV yX4_sweep RX4 cX4_sweep 4 (none) 1 := ⟨⟨tb2 231 rfl, tbs (yX4_sweep, 9) (List.mem_of_getElem? (i := 4) rfl), tb1 6 rfl, tb2 232 rfl⟩, rfl, by decide +kernel, by decide +kernel, by decide +kernel⟩
theorem yv_X4_advance : yV yX4_advance RX4 cX4_advance 2 (none) 1 := ⟨⟨tb2 226 rfl, tb2 227 rfl, tb1 6 rfl, tb2 228 rfl⟩, rfl, by decide +kernel, by decide +kernel, by decide +kernel⟩
theorem yv_X5_takeCare : yV yX5_takeCare RX5 cX5_takeCare 4 (none) 3 := ⟨⟨tb2 62 rfl, tbs (yX5_takeCare, 6) (List.mem_of_getElem? (i := 2) rfl), tb1 2 rfl, tb2 63 rfl⟩, rfl, by decide +kernel, by decide +kernel, by decide +kernel⟩
theorem yv_X5_referRoot : yV yX5_referRoot RX5 cX5_referRoot 4 (none) 2 := ⟨⟨tb2 58 rfl, tbs (yX5_referRoot, 6) (List.mem_of_getElem? (i := 1) rfl), tb1 2 rfl, tb2 59 rfl⟩, rfl, by decide +kernel, by decide +kernel, by decide +kernel⟩
theorem yv_X5_create : yV yX5_create RX5 cX5_create 3 (some .int) 1 := ⟨⟨tb2 27 rfl, tb2 28 rfl, tb1 2 rfl, tb2 29 rfl⟩, rfl, by decide +kernel, by decide +kernel, by decide +kernel⟩
theorem yv_X5_writeField : yV yX5_writeField RX5 cX5_writeField 5 (some .int) 3 := ⟨⟨tb2 85 rfl, tb2 86 rfl, tb1 2 rfl, tb2 87 rfl⟩, rfl, by decide +kernel, by decide +kernel, by decide +kernel⟩
theorem yv_X5_writeRoot : yV yX5_writeRoot RX5 cX5_writeRoot 4 (some .int) 2 := ⟨⟨tb2 137 rfl, tb2 138 rfl, tb1 2 rfl, tb2 139 rfl⟩, rfl, by decide +kernel, by decide +kernel, by decide +kernel⟩
theorem yv_X5_writeHolder : yV yX5_writeHolder RX5 cX5_writeHolder 4 (some .int) 2 := ⟨⟨tb2 149 rfl, tb2 150 rfl, tb1 2 rfl, tb2 151 rfl⟩, rfl, by decide +kernel, by decide +kernel, by decide +kernel⟩
theorem yv_X5_shadeIfCareIsNeeded : yV yX5_shadeIfCareIsNeeded RX5 cX5_shadeIfCareIsNeeded 2 (none) 1 := ⟨⟨tb2 166 rfl, tbs (yX5_shadeIfCareIsNeeded, 6) (List.mem_of_getElem? (i := 3) rfl), tb1 2 rfl, tb2 167 rfl⟩, rfl, by decide +kernel, by decide +kernel, by decide +kernel⟩
theorem yv_X5_askHolder : yV yX5_askHolder RX5 cX5_askHolder 4 (some .int) 2 := ⟨⟨tb2 161 rfl, tb2 162 rfl, tb1 2 rfl, tb2 163 rfl⟩, rfl, by decide +kernel, by decide +kernel, by decide +kernel⟩
theorem yv_X5_wishFinish : yV yX5_wishFinish RX5 cX5_wishFinish 2 (some .int) 1 := ⟨⟨tb2 173 rfl, tb2 174 rfl, tb1 2 rfl, tb2 175 rfl⟩, rfl, by decide +kernel, by decide +kernel, by decide +kernel⟩
theorem yv_X5_finishFirst : yV yX5_finishFirst RX5 cX5_finishFirst 3 (some .int) 1 := ⟨⟨tb2 187 rfl, tb2 188 rfl, tb1 2 rfl, tb2 189 rfl⟩, rfl, by decide +kernel, by decide +kernel, by decide +kernel⟩
theorem yv_X5_beginSearch : yV yX5_beginSearch RX5 cX5_beginSearch 1 (some .int) 0 := ⟨⟨tb2 199 rfl, tb2 200 rfl, tb1 2 rfl, tb2 201 rfl⟩, rfl, by decide +kernel, by decide +kernel, by decide +kernel⟩
theorem yv_X5_doSteps : yV yX5_doSteps RX5 cX5_doSteps 4 (some .int) 1 := ⟨⟨tb2 222 rfl, tb2 223 rfl, tb1 2 rfl, tb2 224 rfl⟩, rfl, by decide +kernel, by decide +kernel, by decide +kernel⟩
theorem yv_X5_doAllSteps : yV yX5_doAllSteps RX5 cX5_doAllSteps 2 (some .int) 0 := ⟨⟨tb3 25 rfl, tb3 26 rfl, tb1 2 rfl, tb3 27 rfl⟩, rfl, by decide +kernel, by decide +kernel, by decide +kernel⟩
theorem yv_X5_setCare : yV yX5_setCare RX5 cX5_setCare 3 (some .int) 1 := ⟨⟨tb3 33 rfl, tb3 34 rfl, tb1 2 rfl, tb3 35 rfl⟩, rfl, by decide +kernel, by decide +kernel, by decide +kernel⟩
theorem yv_X5_tellObject : yV yX5_tellObject RX5 cX5_tellObject 3 (some .int) 2 := ⟨⟨tb3 41 rfl, tb3 42 rfl, tb1 2 rfl, tb3 43 rfl⟩, rfl, by decide +kernel, by decide +kernel, by decide +kernel⟩
theorem yv_X5_tellSet : yV yX5_tellSet RX5 cX5_tellSet 2 (some .int) 1 := ⟨⟨tb3 77 rfl, tb3 78 rfl, tb1 2 rfl, tb3 79 rfl⟩, rfl, by decide +kernel, by decide +kernel, by decide +kernel⟩
theorem yv_X5_tellNumber : yV yX5_tellNumber RX5 cX5_tellNumber 2 (some .int) 1 := ⟨⟨tb3 86 rfl, tb3 87 rfl, tb1 2 rfl, tb3 88 rfl⟩, rfl, by decide +kernel, by decide +kernel, by decide +kernel⟩
theorem yv_X5_lateOnes : yV yX5_lateOnes RX5 cX5_lateOnes 2 (some .int) 0 := ⟨⟨tb3 120 rfl, tb3 121 rfl, tb1 2 rfl, tb3 122 rfl⟩, rfl, by decide +kernel, by decide +kernel, by decide +kernel⟩
theorem yv_X0_append : yV yX0_append RX0 cX0_append 2 (some .int) 1 := ⟨⟨tb3 146 rfl, tb3 147 rfl, tb1 8 rfl, tb3 148 rfl⟩, rfl, by decide +kernel, by decide +kernel, by decide +kernel⟩
theorem yv_X0_empty : yV yX0_empty RX0 cX0_empty 2 (some .int) 0 := ⟨⟨tb3 154 rfl, tb3 155 rfl, tb1 8 rfl, tb3 156 rfl⟩, rfl, by decide +kernel, by decide +kernel, by decide +kernel⟩
theorem yv_X0_tellFault : yV yX0_tellFault RX0 cX0_tellFault 2 (some .int) 1 := ⟨⟨tb3 195 rfl, tb3 196 rfl, tb1 8 rfl, tb3 197 rfl⟩, rfl, by decide +kernel, by decide +kernel, by decide +kernel⟩
theorem yv_X0_signAt : yV yX0_signAt RX0 cX0_signAt 2 (some .int) 1 := ⟨⟨tb3 171 rfl, tbs (yX0_signAt, 11) (List.mem_of_getElem? (i := 8) rfl), tb1 8 rfl, tb3 172 rfl⟩, rfl, by decide +kernel, by decide +kernel, by decide +kernel⟩
theorem yv_X0_read : yV yX0_read RX0 cX0_read 2 (some .boolean) 1 := ⟨⟨tb3 175 rfl, tbs (yX0_read, 11) (List.mem_of_getElem? (i := 9) rfl), tb1 8 rfl, tb3 176 rfl⟩, rfl, by decide +kernel, by decide +kernel, by decide +kernel⟩
theorem yv_X0_readNumber : yV yX0_readNumber RX0 cX0_readNumber 3 (some .int) 0 := ⟨⟨tb3 179 rfl, tbs (yX0_readNumber, 11) (List.mem_of_getElem? (i := 10) rfl), tb1 8 rfl, tb3 180 rfl⟩, rfl, by decide +kernel, by decide +kernel, by decide +kernel⟩
theorem yv_X0_readTarget : yV yX0_readTarget RX0 cX0_readTarget 1 (some .int) 0 := ⟨⟨tb3 186 rfl, tbs (yX0_readTarget, 11) (List.mem_of_getElem? (i := 11) rfl), tb1 8 rfl, tb3 187 rfl⟩, rfl, by decide +kernel, by decide +kernel, by decide +kernel⟩
theorem yv_X0_readCommand : yV yX0_readCommand RX0 cX0_readCommand 1 (some .boolean) 0 := ⟨⟨tb3 167 rfl, tbs (yX0_readCommand, 11) (List.mem_of_getElem? (i := 7) rfl), tb1 8 rfl, tb3 168 rfl⟩, rfl, by decide +kernel, by decide +kernel, by decide +kernel⟩
theorem yv_X0_tryOn : yV yX0_tryOn RX0 cX0_tryOn 3 (none) 1 := ⟨⟨tb3 162 rfl, tb3 163 rfl, tb1 8 rfl, tb3 164 rfl⟩, rfl, by decide +kernel, by decide +kernel, by decide +kernel⟩
theorem yv_J9_floorMod_7cf53 : yS yJ9_floorMod_7cf53 cJ9_floorMod_7cf53 3 (some .int) 2 := ⟨⟨tb2 2 rfl, tb1 10 rfl, tb2 3 rfl⟩, by decide +kernel, by decide +kernel, by decide +kernel⟩
theorem yv_X2_settle : yV yX2_settle RX2 cX2_settle 2 (some .int) 1 := ⟨⟨tb2 74 rfl, tb2 75 rfl, tb1 7 rfl, tb2 76 rfl⟩, rfl, by decide +kernel, by decide +kernel, by decide +kernel⟩
theorem yv_X6_all : yV yX6_all RX6 cX6_all 1 (some .int) 0 := ⟨⟨tb3 21 rfl, tb3 22 rfl, tb1 1 rfl, tb3 23 rfl⟩, rfl, by decide +kernel, by decide +kernel, by decide +kernel⟩
theorem yv_X6_ask : yV yX6_ask RX6 cX6_ask 3 (some .int) 2 := ⟨⟨tb2 157 rfl, tb2 158 rfl, tb1 1 rfl, tb2 159 rfl⟩, rfl, by decide +kernel, by decide +kernel, by decide +kernel⟩
theorem yv_X6_begin : yV yX6_begin RX6 cX6_begin 1 (some .int) 0 := ⟨⟨tb2 195 rfl, tb2 196 rfl, tb1 1 rfl, tb2 197 rfl⟩, rfl, by decide +kernel, by decide +kernel, by decide +kernel⟩
theorem yv_X6_clearText : yV yX6_clearText RX6 cX6_clearText 1 (some .int) 0 := ⟨⟨tb3 150 rfl, tb3 151 rfl, tb1 1 rfl, tb3 152 rfl⟩, rfl, by decide +kernel, by decide +kernel, by decide +kernel⟩
theorem yv_X6_count : yV yX6_count RX6 cX6_count 2 (some .int) 1 := ⟨⟨tb3 82 rfl, tb3 83 rfl, tb1 1 rfl, tb3 84 rfl⟩, rfl, by decide +kernel, by decide +kernel, by decide +kernel⟩
theorem yv_X6_far : yV yX6_far RX6 cX6_far 3 (some .int) 1 := ⟨⟨tb3 95 rfl, tb3 96 rfl, tb1 1 rfl, tb3 97 rfl⟩, rfl, by decide +kernel, by decide +kernel, by decide +kernel⟩
theorem yv_X6_fault : yV yX6_fault RX6 cX6_fault 2 (some .int) 1 := ⟨⟨tb3 158 rfl, tb3 159 rfl, tb1 1 rfl, tb3 160 rfl⟩, rfl, by decide +kernel, by decide +kernel, by decide +kernel⟩
theorem yv_X6_field : yV yX6_field RX6 cX6_field 4 (some .int) 3 := ⟨⟨tb2 81 rfl, tb2 82 rfl, tb1 1 rfl, tb2 83 rfl⟩, rfl, by decide +kernel, by decide +kernel, by decide +kernel⟩
theorem yv_X6_finish : yV yX6_finish RX6 cX6_finish 2 (some .int) 1 := ⟨⟨tb2 183 rfl, tb2 184 rfl, tb1 1 rfl, tb2 185 rfl⟩, rfl, by decide +kernel, by decide +kernel, by decide +kernel⟩
theorem yv_X6_grey : yV yX6_grey RX6 cX6_grey 3 (some .int) 1 := ⟨⟨tb3 68 rfl, tb3 69 rfl, tb1 1 rfl, tb3 70 rfl⟩, rfl, by decide +kernel, by decide +kernel, by decide +kernel⟩
theorem yv_X6_hangs : yV yX6_hangs RX6 cX6_hangs 4 (some .int) 1 := ⟨⟨tb3 104 rfl, tb3 105 rfl, tb1 1 rfl, tb3 106 rfl⟩, rfl, by decide +kernel, by decide +kernel, by decide +kernel⟩
theorem yv_X6_keep : yV yX6_keep RX6 cX6_keep 1 (some .int) 0 := ⟨⟨tb3 125 rfl, tb3 126 rfl, tb1 1 rfl, tb3 127 rfl⟩, rfl, by decide +kernel, by decide +kernel, by decide +kernel⟩
theorem yv_X6_late : yV yX6_late RX6 cX6_late 1 (some .int) 0 := ⟨⟨tb3 116 rfl, tb3 117 rfl, tb1 1 rfl, tb3 118 rfl⟩, rfl, by decide +kernel, by decide +kernel, by decide +kernel⟩
theorem yv_X6_make : yV yX6_make RX6 cX6_make 2 (some .int) 1 := ⟨⟨tb1 230 rfl, tb1 231 rfl, tb1 1 rfl, tb1 232 rfl⟩, rfl, by decide +kernel, by decide +kernel, by decide +kernel⟩
theorem yv_X6_objectOf : yV yX6_objectOf RX6 cX6_objectOf 3 (some .int) 2 := ⟨⟨tb3 37 rfl, tb3 38 rfl, tb1 1 rfl, tb3 39 rfl⟩, rfl, by decide +kernel, by decide +kernel, by decide +kernel⟩
theorem yv_X6_objects : yV yX6_objects RX6 cX6_objects 2 (some .int) 1 := ⟨⟨tb3 73 rfl, tb3 74 rfl, tb1 1 rfl, tb3 75 rfl⟩, rfl, by decide +kernel, by decide +kernel, by decide +kernel⟩
theorem yv_X6_play : yV yX6_play RX6 cX6_play 1 (some .int) 0 := ⟨⟨tb3 199 rfl, tb3 200 rfl, tb1 1 rfl, tb3 201 rfl⟩, rfl, by decide +kernel, by decide +kernel, by decide +kernel⟩
theorem yv_X6_refers : yV yX6_refers RX6 cX6_refers 3 (some .int) 2 := ⟨⟨tb3 58 rfl, tb3 59 rfl, tb1 1 rfl, tb3 60 rfl⟩, rfl, by decide +kernel, by decide +kernel, by decide +kernel⟩
theorem yv_X6_restore : yV yX6_restore RX6 cX6_restore 1 (some .int) 0 := ⟨⟨tb3 130 rfl, tb3 131 rfl, tb1 1 rfl, tb3 132 rfl⟩, rfl, by decide +kernel, by decide +kernel, by decide +kernel⟩
theorem yv_X6_root : yV yX6_root RX6 cX6_root 3 (some .int) 2 := ⟨⟨tb2 133 rfl, tb2 134 rfl, tb1 1 rfl, tb2 135 rfl⟩, rfl, by decide +kernel, by decide +kernel, by decide +kernel⟩
theorem yv_X6_set : yV yX6_set RX6 cX6_set 2 (some .int) 1 := ⟨⟨tb3 29 rfl, tb3 30 rfl, tb1 1 rfl, tb3 31 rfl⟩, rfl, by decide +kernel, by decide +kernel, by decide +kernel⟩
theorem yv_X6_step : yV yX6_step RX6 cX6_step 2 (some .int) 1 := ⟨⟨tb2 218 rfl, tb2 219 rfl, tb1 1 rfl, tb2 220 rfl⟩, rfl, by decide +kernel, by decide +kernel, by decide +kernel⟩
theorem yv_X6_type : yV yX6_type RX6 cX6_type 2 (some .int) 1 := ⟨⟨tb3 142 rfl, tb3 143 rfl, tb1 1 rfl, tb3 144 rfl⟩, rfl, by decide +kernel, by decide +kernel, by decide +kernel⟩
theorem yv_X6_undo : yV yX6_undo RX6 cX6_undo 1 (some .int) 0 := ⟨⟨tb3 134 rfl, tb3 135 rfl, tb1 1 rfl, tb3 136 rfl⟩, rfl, by decide +kernel, by decide +kernel, by decide +kernel⟩
theorem yv_X6_want : yV yX6_want RX6 cX6_want 2 (some .int) 1 := ⟨⟨tb2 169 rfl, tb2 170 rfl, tb1 1 rfl, tb2 171 rfl⟩, rfl, by decide +kernel, by decide +kernel, by decide +kernel⟩
theorem yv_X6_weak : yV yX6_weak RX6 cX6_weak 3 (some .int) 2 := ⟨⟨tb2 145 rfl, tb2 146 rfl, tb1 1 rfl, tb2 147 rfl⟩, rfl, by decide +kernel, by decide +kernel, by decide +kernel⟩
theorem yv_X6_wouldGo : yV yX6_wouldGo RX6 cX6_wouldGo 1 (some .int) 0 := ⟨⟨tb3 111 rfl, tb3 112 rfl, tb1 1 rfl, tb3 113 rfl⟩, rfl, by decide +kernel, by decide +kernel, by decide +kernel⟩
theorem yv_X7_copies : yS yX7_copies cX7_copies 3 (none) 2 := ⟨⟨tb4 200 rfl, tb1 9 rfl, tb4 201 rfl⟩, by decide +kernel, by decide +kernel, by decide +kernel⟩
theorem yv_X7_changes : yV yX7_changes RX7 cX7_changes 2 (none) 0 := ⟨⟨tb4 34 rfl, tbs (yX7_changes, 15) (List.mem_of_getElem? (i := 14) rfl), tb1 9 rfl, tb4 35 rfl⟩, rfl, by decide +kernel, by decide +kernel, by decide +kernel⟩
theorem yv_X7_of : yV yX7_of RX7 cX7_of 3 (some .int) 2 := ⟨⟨tb4 30 rfl, tbs (yX7_of, 15) (List.mem_of_getElem? (i := 13) rfl), tb1 9 rfl, tb4 31 rfl⟩, rfl, by decide +kernel, by decide +kernel, by decide +kernel⟩
theorem yv_X7_sets : yV yX7_sets RX7 cX7_sets 4 (none) 3 := ⟨⟨tb4 38 rfl, tbs (yX7_sets, 15) (List.mem_of_getElem? (i := 15) rfl), tb1 9 rfl, tb4 39 rfl⟩, rfl, by decide +kernel, by decide +kernel, by decide +kernel⟩
theorem yv_X7_shades : yV yX7_shades RX7 cX7_shades 2 (none) 1 := ⟨⟨tb4 54 rfl, tbs (yX7_shades, 15) (List.mem_of_getElem? (i := 19) rfl), tb1 9 rfl, tb4 55 rfl⟩, rfl, by decide +kernel, by decide +kernel, by decide +kernel⟩
theorem yv_X7_begins : yV yX7_begins RX7 cX7_begins 2 (none) 0 := ⟨⟨tb4 114 rfl, tbs (yX7_begins, 15) (List.mem_of_getElem? (i := 27) rfl), tb1 9 rfl, tb4 115 rfl⟩, rfl, by decide +kernel, by decide +kernel, by decide +kernel⟩
theorem yv_X7_takes : yV yX7_takes RX7 cX7_takes 4 (some .int) 1 := ⟨⟨tb4 106 rfl, tbs (yX7_takes, 15) (List.mem_of_getElem? (i := 26) rfl), tb1 9 rfl, tb4 107 rfl⟩, rfl, by decide +kernel, by decide +kernel, by decide +kernel⟩
theorem yv_X7_blackens : yV yX7_blackens RX7 cX7_blackens 3 (none) 0 := ⟨⟨tb4 134 rfl, tbs (yX7_blackens, 15) (List.mem_of_getElem? (i := 31) rfl), tb1 9 rfl, tb4 135 rfl⟩, rfl, by decide +kernel, by decide +kernel, by decide +kernel⟩
theorem yv_X7_clears : yV yX7_clears RX7 cX7_clears 3 (none) 0 := ⟨⟨tb4 138 rfl, tbs (yX7_clears, 15) (List.mem_of_getElem? (i := 32) rfl), tb1 9 rfl, tb4 139 rfl⟩, rfl, by decide +kernel, by decide +kernel, by decide +kernel⟩
theorem yv_X7_isObject : yV yX7_isObject RX7 cX7_isObject 2 (some .boolean) 1 := ⟨⟨tb4 62 rfl, tbs (yX7_isObject, 15) (List.mem_of_getElem? (i := 20) rfl), tb1 9 rfl, tb4 63 rfl⟩, rfl, by decide +kernel, by decide +kernel, by decide +kernel⟩
theorem yv_X7_looksForFinish : yV yX7_looksForFinish RX7 cX7_looksForFinish 3 (none) 0 := ⟨⟨tb4 142 rfl, tbs (yX7_looksForFinish, 15) (List.mem_of_getElem? (i := 33) rfl), tb1 9 rfl, tb4 143 rfl⟩, rfl, by decide +kernel, by decide +kernel, by decide +kernel⟩
theorem yv_X7_letsGo : yV yX7_letsGo RX7 cX7_letsGo 4 (none) 1 := ⟨⟨tb4 130 rfl, tbs (yX7_letsGo, 15) (List.mem_of_getElem? (i := 30) rfl), tb1 9 rfl, tb4 131 rfl⟩, rfl, by decide +kernel, by decide +kernel, by decide +kernel⟩
theorem yv_X7_sweeps : yV yX7_sweeps RX7 cX7_sweeps 2 (none) 0 := ⟨⟨tb4 126 rfl, tbs (yX7_sweeps, 15) (List.mem_of_getElem? (i := 29) rfl), tb1 9 rfl, tb4 127 rfl⟩, rfl, by decide +kernel, by decide +kernel, by decide +kernel⟩
theorem yv_X7_steps : yV yX7_steps RX7 cX7_steps 1 (none) 0 := ⟨⟨tb4 122 rfl, tbs (yX7_steps, 15) (List.mem_of_getElem? (i := 28) rfl), tb1 9 rfl, tb4 123 rfl⟩, rfl, by decide +kernel, by decide +kernel, by decide +kernel⟩
theorem yv_X7_doesAll : yV yX7_doesAll RX7 cX7_doesAll 2 (some .int) 0 := ⟨⟨tb4 150 rfl, tbs (yX7_doesAll, 15) (List.mem_of_getElem? (i := 34) rfl), tb1 9 rfl, tb4 151 rfl⟩, rfl, by decide +kernel, by decide +kernel, by decide +kernel⟩
theorem yv_X7_all : yV yX7_all RX7 cX7_all 1 (some .int) 0 := ⟨⟨tb4 145 rfl, tb4 146 rfl, tb1 9 rfl, tb4 147 rfl⟩, rfl, by decide +kernel, by decide +kernel, by decide +kernel⟩
theorem yv_X7_isMarking : yV yX7_isMarking RX7 cX7_isMarking 1 (some .boolean) 0 := ⟨⟨tb4 42 rfl, tbs (yX7_isMarking, 15) (List.mem_of_getElem? (i := 16) rfl), tb1 9 rfl, tb4 43 rfl⟩, rfl, by decide +kernel, by decide +kernel, by decide +kernel⟩
theorem yv_X7_cares : yV yX7_cares RX7 cX7_cares 4 (none) 3 := ⟨⟨tb4 50 rfl, tbs (yX7_cares, 15) (List.mem_of_getElem? (i := 18) rfl), tb1 9 rfl, tb4 51 rfl⟩, rfl, by decide +kernel, by decide +kernel, by decide +kernel⟩
theorem yv_X7_writesRoot : yV yX7_writesRoot RX7 cX7_writesRoot 4 (some .int) 2 := ⟨⟨tb4 46 rfl, tbs (yX7_writesRoot, 15) (List.mem_of_getElem? (i := 17) rfl), tb1 9 rfl, tb4 47 rfl⟩, rfl, by decide +kernel, by decide +kernel, by decide +kernel⟩
theorem yv_X7_ask : yV yX7_ask RX7 cX7_ask 5 (some .int) 2 := ⟨⟨tb4 89 rfl, tb4 90 rfl, tb1 9 rfl, tb4 91 rfl⟩, rfl, by decide +kernel, by decide +kernel, by decide +kernel⟩
theorem yv_X7_begin : yV yX7_begin RX7 cX7_begin 1 (some .int) 0 := ⟨⟨tb4 109 rfl, tb4 110 rfl, tb1 9 rfl, tb4 111 rfl⟩, rfl, by decide +kernel, by decide +kernel, by decide +kernel⟩
theorem yv_X7_spreads : yV yX7_spreads RX7 cX7_spreads 9 (some .int) 2 := ⟨⟨tb4 78 rfl, tbs (yX7_spreads, 15) (List.mem_of_getElem? (i := 24) rfl), tb1 9 rfl, tb4 79 rfl⟩, rfl, by decide +kernel, by decide +kernel, by decide +kernel⟩
theorem yv_X7_rooted : yV yX7_rooted RX7 cX7_rooted 5 (some .int) 1 := ⟨⟨tb4 74 rfl, tbs (yX7_rooted, 15) (List.mem_of_getElem? (i := 23) rfl), tb1 9 rfl, tb4 75 rfl⟩, rfl, by decide +kernel, by decide +kernel, by decide +kernel⟩
theorem yv_X7_reached : yV yX7_reached RX7 cX7_reached 3 (some .int) 0 := ⟨⟨tb4 70 rfl, tbs (yX7_reached, 15) (List.mem_of_getElem? (i := 22) rfl), tb1 9 rfl, tb4 71 rfl⟩, rfl, by decide +kernel, by decide +kernel, by decide +kernel⟩
theorem yv_X7_isReached : yV yX7_isReached RX7 cX7_isReached 2 (some .boolean) 1 := ⟨⟨tb4 66 rfl, tbs (yX7_isReached, 15) (List.mem_of_getElem? (i := 21) rfl), tb1 9 rfl, tb4 67 rfl⟩, rfl, by decide +kernel, by decide +kernel, by decide +kernel⟩
theorem yv_X7_field : yV yX7_field RX7 cX7_field 5 (some .int) 3 := ⟨⟨tb4 57 rfl, tb4 58 rfl, tb1 9 rfl, tb4 59 rfl⟩, rfl, by decide +kernel, by decide +kernel, by decide +kernel⟩
theorem yv_X7_lowestFree : yV yX7_lowestFree RX7 cX7_lowestFree 2 (some .int) 0 := ⟨⟨tb4 26 rfl, tbs (yX7_lowestFree, 15) (List.mem_of_getElem? (i := 12) rfl), tb1 9 rfl, tb4 27 rfl⟩, rfl, by decide +kernel, by decide +kernel, by decide +kernel⟩
theorem yv_X7_make : yV yX7_make RX7 cX7_make 4 (some .int) 1 := ⟨⟨tb4 15 rfl, tb4 16 rfl, tb1 9 rfl, tb4 17 rfl⟩, rfl, by decide +kernel, by decide +kernel, by decide +kernel⟩
theorem yv_X7_root : yV yX7_root RX7 cX7_root 3 (some .int) 2 := ⟨⟨tb4 81 rfl, tb4 82 rfl, tb1 9 rfl, tb4 83 rfl⟩, rfl, by decide +kernel, by decide +kernel, by decide +kernel⟩
theorem yv_X7_step : yV yX7_step RX7 cX7_step 4 (some .int) 1 := ⟨⟨tb4 117 rfl, tb4 118 rfl, tb1 9 rfl, tb4 119 rfl⟩, rfl, by decide +kernel, by decide +kernel, by decide +kernel⟩
theorem yv_X7_calls : yV yX7_calls RX7 cX7_calls 1 (some .int) 0 := ⟨⟨tb5 17 rfl, tbs (yX7_calls, 15) (List.mem_of_getElem? (i := 43) rfl), tb1 9 rfl, tb5 18 rfl⟩, rfl, by decide +kernel, by decide +kernel, by decide +kernel⟩
theorem yv_X7_clearText : yV yX7_clearText RX7 cX7_clearText 2 (some .int) 0 := ⟨⟨tb4 224 rfl, tb4 225 rfl, tb1 9 rfl, tb4 226 rfl⟩, rfl, by decide +kernel, by decide +kernel, by decide +kernel⟩
theorem yv_X7_those : yV yX7_those RX7 cX7_those 5 (some .int) 2 := ⟨⟨tb4 178 rfl, tbs (yX7_those, 15) (List.mem_of_getElem? (i := 36) rfl), tb1 9 rfl, tb4 179 rfl⟩, rfl, by decide +kernel, by decide +kernel, by decide +kernel⟩
theorem yv_X7_count : yV yX7_count RX7 cX7_count 2 (some .int) 1 := ⟨⟨tb4 181 rfl, tb4 182 rfl, tb1 9 rfl, tb4 183 rfl⟩, rfl, by decide +kernel, by decide +kernel, by decide +kernel⟩
theorem yv_X7_far : yV yX7_far RX7 cX7_far 8 (some .int) 1 := ⟨⟨tb4 188 rfl, tb4 189 rfl, tb1 9 rfl, tb4 190 rfl⟩, rfl, by decide +kernel, by decide +kernel, by decide +kernel⟩
theorem yv_X7_isAt : yV yX7_isAt RX7 cX7_isAt 3 (some .boolean) 2 := ⟨⟨tb5 5 rfl, tbs (yX7_isAt, 15) (List.mem_of_getElem? (i := 40) rfl), tb1 9 rfl, tb5 6 rfl⟩, rfl, by decide +kernel, by decide +kernel, by decide +kernel⟩
theorem yv_X7_number : yV yX7_number RX7 cX7_number 3 (some .boolean) 1 := ⟨⟨tb5 9 rfl, tbs (yX7_number, 15) (List.mem_of_getElem? (i := 41) rfl), tb1 9 rfl, tb5 10 rfl⟩, rfl, by decide +kernel, by decide +kernel, by decide +kernel⟩
theorem yv_X7_sign : yV yX7_sign RX7 cX7_sign 3 (some .boolean) 1 := ⟨⟨tb5 1 rfl, tbs (yX7_sign, 15) (List.mem_of_getElem? (i := 39) rfl), tb1 9 rfl, tb5 2 rfl⟩, rfl, by decide +kernel, by decide +kernel, by decide +kernel⟩
theorem yv_X7_target : yV yX7_target RX7 cX7_target 2 (some .boolean) 1 := ⟨⟨tb5 13 rfl, tbs (yX7_target, 15) (List.mem_of_getElem? (i := 42) rfl), tb1 9 rfl, tb5 14 rfl⟩, rfl, by decide +kernel, by decide +kernel, by decide +kernel⟩
theorem yv_X7_reads : yV yX7_reads RX7 cX7_reads 1 (some .boolean) 0 := ⟨⟨tb4 237 rfl, tbs (yX7_reads, 15) (List.mem_of_getElem? (i := 38) rfl), tb1 9 rfl, tb4 238 rfl⟩, rfl, by decide +kernel, by decide +kernel, by decide +kernel⟩
theorem yv_X7_plays : yV yX7_plays RX7 cX7_plays 4 (some .int) 0 := ⟨⟨tb4 233 rfl, tbs (yX7_plays, 15) (List.mem_of_getElem? (i := 37) rfl), tb1 9 rfl, tb4 234 rfl⟩, rfl, by decide +kernel, by decide +kernel, by decide +kernel⟩
theorem yv_X7_fault : yV yX7_fault RX7 cX7_fault 3 (some .int) 1 := ⟨⟨tb4 228 rfl, tb4 229 rfl, tb1 9 rfl, tb4 230 rfl⟩, rfl, by decide +kernel, by decide +kernel, by decide +kernel⟩
theorem yv_X7_finish : yV yX7_finish RX7 cX7_finish 4 (some .int) 1 := ⟨⟨tb4 101 rfl, tb4 102 rfl, tb1 9 rfl, tb4 103 rfl⟩, rfl, by decide +kernel, by decide +kernel, by decide +kernel⟩
theorem yv_X7_grey : yV yX7_grey RX7 cX7_grey 2 (some .int) 1 := ⟨⟨tb4 169 rfl, tb4 170 rfl, tb1 9 rfl, tb4 171 rfl⟩, rfl, by decide +kernel, by decide +kernel, by decide +kernel⟩
theorem yv_X7_hangs : yV yX7_hangs RX7 cX7_hangs 3 (some .int) 1 := ⟨⟨tb4 192 rfl, tb4 193 rfl, tb1 9 rfl, tb4 194 rfl⟩, rfl, by decide +kernel, by decide +kernel, by decide +kernel⟩
theorem yv_X7_keep : yV yX7_keep RX7 cX7_keep 1 (some .int) 0 := ⟨⟨tb4 207 rfl, tb4 208 rfl, tb1 9 rfl, tb4 209 rfl⟩, rfl, by decide +kernel, by decide +kernel, by decide +kernel⟩
theorem yv_X7_late : yV yX7_late RX7 cX7_late 5 (some .int) 0 := ⟨⟨tb4 203 rfl, tb4 204 rfl, tb1 9 rfl, tb4 205 rfl⟩, rfl, by decide +kernel, by decide +kernel, by decide +kernel⟩
theorem yv_X7_placeIn : yV yX7_placeIn RX7 cX7_placeIn 3 (some .int) 1 := ⟨⟨tb4 162 rfl, tbs (yX7_placeIn, 15) (List.mem_of_getElem? (i := 35) rfl), tb1 9 rfl, tb4 163 rfl⟩, rfl, by decide +kernel, by decide +kernel, by decide +kernel⟩
theorem yv_X7_objectOf : yV yX7_objectOf RX7 cX7_objectOf 3 (some .int) 2 := ⟨⟨tb4 157 rfl, tb4 158 rfl, tb1 9 rfl, tb4 159 rfl⟩, rfl, by decide +kernel, by decide +kernel, by decide +kernel⟩
theorem yv_X7_objects : yV yX7_objects RX7 cX7_objects 2 (some .int) 1 := ⟨⟨tb4 173 rfl, tb4 174 rfl, tb1 9 rfl, tb4 175 rfl⟩, rfl, by decide +kernel, by decide +kernel, by decide +kernel⟩
theorem yv_X7_play : yV yX7_play RX7 cX7_play 2 (some .int) 0 := ⟨⟨tb5 25 rfl, tb5 26 rfl, tb1 9 rfl, tb5 27 rfl⟩, rfl, by decide +kernel, by decide +kernel, by decide +kernel⟩
theorem yv_X7_refers : yV yX7_refers RX7 cX7_refers 4 (some .int) 2 := ⟨⟨tb4 165 rfl, tb4 166 rfl, tb1 9 rfl, tb4 167 rfl⟩, rfl, by decide +kernel, by decide +kernel, by decide +kernel⟩
theorem yv_X7_restore : yV yX7_restore RX7 cX7_restore 1 (some .int) 0 := ⟨⟨tb4 212 rfl, tb4 213 rfl, tb1 9 rfl, tb4 214 rfl⟩, rfl, by decide +kernel, by decide +kernel, by decide +kernel⟩
theorem yv_X7_set : yV yX7_set RX7 cX7_set 3 (some .int) 1 := ⟨⟨tb4 153 rfl, tb4 154 rfl, tb1 9 rfl, tb4 155 rfl⟩, rfl, by decide +kernel, by decide +kernel, by decide +kernel⟩
theorem yv_X7_type : yV yX7_type RX7 cX7_type 2 (some .int) 1 := ⟨⟨tb4 220 rfl, tb4 221 rfl, tb1 9 rfl, tb4 222 rfl⟩, rfl, by decide +kernel, by decide +kernel, by decide +kernel⟩
theorem yv_X7_undo : yV yX7_undo RX7 cX7_undo 2 (some .int) 0 := ⟨⟨tb4 216 rfl, tb4 217 rfl, tb1 9 rfl, tb4 218 rfl⟩, rfl, by decide +kernel, by decide +kernel, by decide +kernel⟩
theorem yv_X7_wanting : yV yX7_wanting RX7 cX7_wanting 3 (some .int) 0 := ⟨⟨tb4 98 rfl, tbs (yX7_wanting, 15) (List.mem_of_getElem? (i := 25) rfl), tb1 9 rfl, tb4 99 rfl⟩, rfl, by decide +kernel, by decide +kernel, by decide +kernel⟩
theorem yv_X7_want : yV yX7_want RX7 cX7_want 2 (some .int) 1 := ⟨⟨tb4 93 rfl, tb4 94 rfl, tb1 9 rfl, tb4 95 rfl⟩, rfl, by decide +kernel, by decide +kernel, by decide +kernel⟩
theorem yv_X7_weak : yV yX7_weak RX7 cX7_weak 4 (some .int) 2 := ⟨⟨tb4 85 rfl, tb4 86 rfl, tb1 9 rfl, tb4 87 rfl⟩, rfl, by decide +kernel, by decide +kernel, by decide +kernel⟩
theorem yv_X7_wouldGo : yV yX7_wouldGo RX7 cX7_wouldGo 4 (some .int) 0 := ⟨⟨tb4 196 rfl, tb4 197 rfl, tb1 9 rfl, tb4 198 rfl⟩, rfl, by decide +kernel, by decide +kernel, by decide +kernel⟩
theorem yv_X3_copyFrom : yV yX3_copyFrom RX3 cX3_copyFrom 2 (none) 1 := ⟨⟨tb2 16 rfl, tb2 17 rfl, tb1 4 rfl, tb2 18 rfl⟩, rfl, by decide +kernel, by decide +kernel, by decide +kernel⟩
theorem yv_X1_copyFrom : yV yX1_copyFrom RX1 cX1_copyFrom 2 (none) 1 := ⟨⟨tb2 9 rfl, tb2 10 rfl, tb1 3 rfl, tb2 11 rfl⟩, rfl, by decide +kernel, by decide +kernel, by decide +kernel⟩
theorem yv_X4_copyFrom : yV yX4_copyFrom RX4 cX4_copyFrom 2 (none) 1 := ⟨⟨tb2 21 rfl, tb2 22 rfl, tb1 6 rfl, tb2 23 rfl⟩, rfl, by decide +kernel, by decide +kernel, by decide +kernel⟩
theorem yv_X5_copyFrom : yV yX5_copyFrom RX5 cX5_copyFrom 2 (none) 1 := ⟨⟨tb2 5 rfl, tb2 6 rfl, tb1 2 rfl, tb2 7 rfl⟩, rfl, by decide +kernel, by decide +kernel, by decide +kernel⟩
theorem yv_X2_stateAt : yV yX2_stateAt RX2 cX2_stateAt 2 (some (.object "ReachedHeap$State")) 1 := ⟨⟨tb1 239 rfl, tbs (yX2_stateAt, 3) (List.mem_of_getElem? (i := 0) rfl), tb1 7 rfl, tb2 0 rfl⟩, rfl, by decide +kernel, by decide +kernel, by decide +kernel⟩
theorem yv_X2_note : yV yX2_note RX2 cX2_note 2 (none) 1 := ⟨⟨tb1 234 rfl, tb1 235 rfl, tb1 7 rfl, tb1 236 rfl⟩, rfl, by decide +kernel, by decide +kernel, by decide +kernel⟩
theorem yv_X2_takeBack : yV yX2_takeBack RX2 cX2_takeBack 2 (some .int) 1 := ⟨⟨tb3 138 rfl, tb3 139 rfl, tb1 7 rfl, tb3 140 rfl⟩, rfl, by decide +kernel, by decide +kernel, by decide +kernel⟩
theorem gC_X0 : gC RX0 TX0 11 tyX0 := ⟨inX0, tyX0_ok, nmX0⟩
theorem gC_X1 : gC RX1 TX1 6 tyX1 := ⟨inX1, tyX1_ok, nmX1⟩
theorem gC_X2 : gC RX2 TX2 3 tyX2 := ⟨inX2, tyX2_ok, nmX2⟩
theorem gC_X3 : gC RX3 TX3 2 tyX3 := ⟨inX3, tyX3_ok, nmX3⟩
theorem gC_X4 : gC RX4 TX4 9 tyX4 := ⟨inX4, tyX4_ok, nmX4⟩
theorem gC_X5 : gC RX5 TX5 6 tyX5 := ⟨inX5, tyX5_ok, nmX5⟩
theorem gC_X6 : gC RX6 TX6 6 tyX6 := ⟨inX6, tyX6_ok, nmX6⟩
theorem gC_X7 : gC RX7 TX7 15 tyX7 := ⟨inX7, tyX7_ok, nmX7⟩
theorem nat_cp : Cond.native arraycopyName ∈ lw_g := tb2 14 rfl
theorem st_cp : Cond.static arraycopyName ∈ lw_g := tb2 13 rfl
theorem ini_cp : Cond.initialized "java/lang/System" ∈ lw_g := tb1 11 rfl
theorem st_max : Cond.static Lib.Math.max.name ∈ lw_g := tb2 41 rfl
theorem ini_max : Cond.initialized "java/lang/Math" ∈ lw_g := tb1 10 rfl
theorem co_max : Cond.code Lib.Math.max.name Lib.Math.max.code 2 (some .int) ∈ lw_g := tb2 42 rfl
def wS (ad : Nat → Nat) (cI : ClassId × ClassId) (w : St) : va_W := [(ad 0, .inr (0, [.ref (ad 1), .int (w.1 0), .int (w.1 1), .int (w.1 2), .int (w.1 3), .int (w.1 4), .int (w.1 5), .int (w.1 6), .int (w.1 7), .int (w.1 8), .int (w.1 9)])), (ad 1, .inl (cI.1, 60, .inl (w.2 0))), (ad 2, .inr (5, [.ref (ad 3), .ref (ad 4), .ref (ad 12), .int (w.1 10), .int (w.1 11), .int (w.1 12)])), (ad 3, .inr (1, [.int (w.1 13), .int (w.1 14), .ref (ad 7), .ref (ad 8), .ref (ad 9), .ref (ad 5)])), (ad 4, .inr (4, [.int (w.1 15), .int (w.1 16), .int (w.1 17), .ref (ad 6), .int (w.1 18), .int (w.1 19), .int (w.1 20), .int (w.1 21), .int (w.1 22)])), (ad 5, .inr (3, [.ref (ad 10), .int (w.1 23)])), (ad 6, .inr (3, [.ref (ad 11), .int (w.1 24)])), (ad 7, .inl (cI.1, 72, .inl (w.2 1))), (ad 8, .inl (cI.1, 4, .inl (w.2 2))), (ad 9, .inl (cI.1, 4, .inl (w.2 3))), (ad 10, .inl (cI.1, 24, .inl (w.2 4))), (ad 11, .inl (cI.1, 24, .inl (w.2 5))), (ad 12, .inl (cI.1, 24, .inl (w.2 6)))]
theorem pwS_0 (ad : Nat → Nat) (cI : ClassId × ClassId) (w : St) (v : Int32) : (wS ad cI w).set 0 (ad 0, .inr (0, [.ref (ad 1), .int (w.1 0), .int (w.1 1), .int (w.1 2), .int (w.1 3), .int (w.1 4), .int (w.1 5), .int (w.1 6), .int (w.1 7), .int (w.1 8), .int (w.1 9)].set 1 (.int v))) = wS ad cI (sR w 0 v) := rfl
theorem pwS_1 (ad : Nat → Nat) (cI : ClassId × ClassId) (w : St) (v : Int32) : (wS ad cI w).set 0 (ad 0, .inr (0, [.ref (ad 1), .int (w.1 0), .int (w.1 1), .int (w.1 2), .int (w.1 3), .int (w.1 4), .int (w.1 5), .int (w.1 6), .int (w.1 7), .int (w.1 8), .int (w.1 9)].set 2 (.int v))) = wS ad cI (sR w 1 v) := rfl
theorem pwS_2 (ad : Nat → Nat) (cI : ClassId × ClassId) (w : St) (v : Int32) : (wS ad cI w).set 0 (ad 0, .inr (0, [.ref (ad 1), .int (w.1 0), .int (w.1 1), .int (w.1 2), .int (w.1 3), .int (w.1 4), .int (w.1 5), .int (w.1 6), .int (w.1 7), .int (w.1 8), .int (w.1 9)].set 3 (.int v))) = wS ad cI (sR w 2 v) := rfl
theorem pwS_3 (ad : Nat → Nat) (cI : ClassId × ClassId) (w : St) (v : Int32) : (wS ad cI w).set 0 (ad 0, .inr (0, [.ref (ad 1), .int (w.1 0), .int (w.1 1), .int (w.1 2), .int (w.1 3), .int (w.1 4), .int (w.1 5), .int (w.1 6), .int (w.1 7), .int (w.1 8), .int (w.1 9)].set 4 (.int v))) = wS ad cI (sR w 3 v) := rfl
theorem pwS_4 (ad : Nat → Nat) (cI : ClassId × ClassId) (w : St) (v : Int32) : (wS ad cI w).set 0 (ad 0, .inr (0, [.ref (ad 1), .int (w.1 0), .int (w.1 1), .int (w.1 2), .int (w.1 3), .int (w.1 4), .int (w.1 5), .int (w.1 6), .int (w.1 7), .int (w.1 8), .int (w.1 9)].set 5 (.int v))) = wS ad cI (sR w 4 v) := rfl
theorem pwS_5 (ad : Nat → Nat) (cI : ClassId × ClassId) (w : St) (v : Int32) : (wS ad cI w).set 0 (ad 0, .inr (0, [.ref (ad 1), .int (w.1 0), .int (w.1 1), .int (w.1 2), .int (w.1 3), .int (w.1 4), .int (w.1 5), .int (w.1 6), .int (w.1 7), .int (w.1 8), .int (w.1 9)].set 6 (.int v))) = wS ad cI (sR w 5 v) := rfl
theorem pwS_6 (ad : Nat → Nat) (cI : ClassId × ClassId) (w : St) (v : Int32) : (wS ad cI w).set 0 (ad 0, .inr (0, [.ref (ad 1), .int (w.1 0), .int (w.1 1), .int (w.1 2), .int (w.1 3), .int (w.1 4), .int (w.1 5), .int (w.1 6), .int (w.1 7), .int (w.1 8), .int (w.1 9)].set 7 (.int v))) = wS ad cI (sR w 6 v) := rfl
theorem pwS_7 (ad : Nat → Nat) (cI : ClassId × ClassId) (w : St) (v : Int32) : (wS ad cI w).set 0 (ad 0, .inr (0, [.ref (ad 1), .int (w.1 0), .int (w.1 1), .int (w.1 2), .int (w.1 3), .int (w.1 4), .int (w.1 5), .int (w.1 6), .int (w.1 7), .int (w.1 8), .int (w.1 9)].set 8 (.int v))) = wS ad cI (sR w 7 v) := rfl
theorem pwS_8 (ad : Nat → Nat) (cI : ClassId × ClassId) (w : St) (v : Int32) : (wS ad cI w).set 0 (ad 0, .inr (0, [.ref (ad 1), .int (w.1 0), .int (w.1 1), .int (w.1 2), .int (w.1 3), .int (w.1 4), .int (w.1 5), .int (w.1 6), .int (w.1 7), .int (w.1 8), .int (w.1 9)].set 9 (.int v))) = wS ad cI (sR w 8 v) := rfl
theorem pwS_9 (ad : Nat → Nat) (cI : ClassId × ClassId) (w : St) (v : Int32) : (wS ad cI w).set 0 (ad 0, .inr (0, [.ref (ad 1), .int (w.1 0), .int (w.1 1), .int (w.1 2), .int (w.1 3), .int (w.1 4), .int (w.1 5), .int (w.1 6), .int (w.1 7), .int (w.1 8), .int (w.1 9)].set 10 (.int v))) = wS ad cI (sR w 9 v) := rfl
theorem gwS_0 (ad : Nat → Nat) (cI : ClassId × ClassId) (w : St) (g : Nat → Int32) : (wS ad cI w).set 1 (ad 1, .inl (cI.1, 60, .inl g)) = wS ad cI (sG w 0 g) := rfl
theorem awS_0 (ad : Nat → Nat) (cI : ClassId × ClassId) (w : St) (i x : Int32) : (wS ad cI w).set 1 (ad 1, .inl (cI.1, 60, .inl (upd (w.2 0) i.toNatClampNeg x))) = wS ad cI (sA w 0 i x) := rfl
theorem pwS_10 (ad : Nat → Nat) (cI : ClassId × ClassId) (w : St) (v : Int32) : (wS ad cI w).set 2 (ad 2, .inr (5, [.ref (ad 3), .ref (ad 4), .ref (ad 12), .int (w.1 10), .int (w.1 11), .int (w.1 12)].set 3 (.int v))) = wS ad cI (sR w 10 v) := rfl
theorem pwS_11 (ad : Nat → Nat) (cI : ClassId × ClassId) (w : St) (v : Int32) : (wS ad cI w).set 2 (ad 2, .inr (5, [.ref (ad 3), .ref (ad 4), .ref (ad 12), .int (w.1 10), .int (w.1 11), .int (w.1 12)].set 4 (.int v))) = wS ad cI (sR w 11 v) := rfl
theorem pwS_12 (ad : Nat → Nat) (cI : ClassId × ClassId) (w : St) (v : Int32) : (wS ad cI w).set 2 (ad 2, .inr (5, [.ref (ad 3), .ref (ad 4), .ref (ad 12), .int (w.1 10), .int (w.1 11), .int (w.1 12)].set 5 (.int v))) = wS ad cI (sR w 12 v) := rfl
theorem pwS_13 (ad : Nat → Nat) (cI : ClassId × ClassId) (w : St) (v : Int32) : (wS ad cI w).set 3 (ad 3, .inr (1, [.int (w.1 13), .int (w.1 14), .ref (ad 7), .ref (ad 8), .ref (ad 9), .ref (ad 5)].set 0 (.int v))) = wS ad cI (sR w 13 v) := rfl
theorem pwS_14 (ad : Nat → Nat) (cI : ClassId × ClassId) (w : St) (v : Int32) : (wS ad cI w).set 3 (ad 3, .inr (1, [.int (w.1 13), .int (w.1 14), .ref (ad 7), .ref (ad 8), .ref (ad 9), .ref (ad 5)].set 1 (.int v))) = wS ad cI (sR w 14 v) := rfl
theorem pwS_15 (ad : Nat → Nat) (cI : ClassId × ClassId) (w : St) (v : Int32) : (wS ad cI w).set 4 (ad 4, .inr (4, [.int (w.1 15), .int (w.1 16), .int (w.1 17), .ref (ad 6), .int (w.1 18), .int (w.1 19), .int (w.1 20), .int (w.1 21), .int (w.1 22)].set 0 (.int v))) = wS ad cI (sR w 15 v) := rfl
theorem pwS_16 (ad : Nat → Nat) (cI : ClassId × ClassId) (w : St) (v : Int32) : (wS ad cI w).set 4 (ad 4, .inr (4, [.int (w.1 15), .int (w.1 16), .int (w.1 17), .ref (ad 6), .int (w.1 18), .int (w.1 19), .int (w.1 20), .int (w.1 21), .int (w.1 22)].set 1 (.int v))) = wS ad cI (sR w 16 v) := rfl
theorem pwS_17 (ad : Nat → Nat) (cI : ClassId × ClassId) (w : St) (v : Int32) : (wS ad cI w).set 4 (ad 4, .inr (4, [.int (w.1 15), .int (w.1 16), .int (w.1 17), .ref (ad 6), .int (w.1 18), .int (w.1 19), .int (w.1 20), .int (w.1 21), .int (w.1 22)].set 2 (.int v))) = wS ad cI (sR w 17 v) := rfl
theorem pwS_18 (ad : Nat → Nat) (cI : ClassId × ClassId) (w : St) (v : Int32) : (wS ad cI w).set 4 (ad 4, .inr (4, [.int (w.1 15), .int (w.1 16), .int (w.1 17), .ref (ad 6), .int (w.1 18), .int (w.1 19), .int (w.1 20), .int (w.1 21), .int (w.1 22)].set 4 (.int v))) = wS ad cI (sR w 18 v) := rfl
theorem pwS_19 (ad : Nat → Nat) (cI : ClassId × ClassId) (w : St) (v : Int32) : (wS ad cI w).set 4 (ad 4, .inr (4, [.int (w.1 15), .int (w.1 16), .int (w.1 17), .ref (ad 6), .int (w.1 18), .int (w.1 19), .int (w.1 20), .int (w.1 21), .int (w.1 22)].set 5 (.int v))) = wS ad cI (sR w 19 v) := rfl
theorem pwS_20 (ad : Nat → Nat) (cI : ClassId × ClassId) (w : St) (v : Int32) : (wS ad cI w).set 4 (ad 4, .inr (4, [.int (w.1 15), .int (w.1 16), .int (w.1 17), .ref (ad 6), .int (w.1 18), .int (w.1 19), .int (w.1 20), .int (w.1 21), .int (w.1 22)].set 6 (.int v))) = wS ad cI (sR w 20 v) := rfl
theorem pwS_21 (ad : Nat → Nat) (cI : ClassId × ClassId) (w : St) (v : Int32) : (wS ad cI w).set 4 (ad 4, .inr (4, [.int (w.1 15), .int (w.1 16), .int (w.1 17), .ref (ad 6), .int (w.1 18), .int (w.1 19), .int (w.1 20), .int (w.1 21), .int (w.1 22)].set 7 (.int v))) = wS ad cI (sR w 21 v) := rfl
theorem pwS_22 (ad : Nat → Nat) (cI : ClassId × ClassId) (w : St) (v : Int32) : (wS ad cI w).set 4 (ad 4, .inr (4, [.int (w.1 15), .int (w.1 16), .int (w.1 17), .ref (ad 6), .int (w.1 18), .int (w.1 19), .int (w.1 20), .int (w.1 21), .int (w.1 22)].set 8 (.int v))) = wS ad cI (sR w 22 v) := rfl
theorem pwS_23 (ad : Nat → Nat) (cI : ClassId × ClassId) (w : St) (v : Int32) : (wS ad cI w).set 5 (ad 5, .inr (3, [.ref (ad 10), .int (w.1 23)].set 1 (.int v))) = wS ad cI (sR w 23 v) := rfl
theorem pwS_24 (ad : Nat → Nat) (cI : ClassId × ClassId) (w : St) (v : Int32) : (wS ad cI w).set 6 (ad 6, .inr (3, [.ref (ad 11), .int (w.1 24)].set 1 (.int v))) = wS ad cI (sR w 24 v) := rfl
theorem gwS_1 (ad : Nat → Nat) (cI : ClassId × ClassId) (w : St) (g : Nat → Int32) : (wS ad cI w).set 7 (ad 7, .inl (cI.1, 72, .inl g)) = wS ad cI (sG w 1 g) := rfl
theorem awS_1 (ad : Nat → Nat) (cI : ClassId × ClassId) (w : St) (i x : Int32) : (wS ad cI w).set 7 (ad 7, .inl (cI.1, 72, .inl (upd (w.2 1) i.toNatClampNeg x))) = wS ad cI (sA w 1 i x) := rfl
theorem gwS_2 (ad : Nat → Nat) (cI : ClassId × ClassId) (w : St) (g : Nat → Int32) : (wS ad cI w).set 8 (ad 8, .inl (cI.1, 4, .inl g)) = wS ad cI (sG w 2 g) := rfl
theorem awS_2 (ad : Nat → Nat) (cI : ClassId × ClassId) (w : St) (i x : Int32) : (wS ad cI w).set 8 (ad 8, .inl (cI.1, 4, .inl (upd (w.2 2) i.toNatClampNeg x))) = wS ad cI (sA w 2 i x) := rfl
theorem gwS_3 (ad : Nat → Nat) (cI : ClassId × ClassId) (w : St) (g : Nat → Int32) : (wS ad cI w).set 9 (ad 9, .inl (cI.1, 4, .inl g)) = wS ad cI (sG w 3 g) := rfl
theorem awS_3 (ad : Nat → Nat) (cI : ClassId × ClassId) (w : St) (i x : Int32) : (wS ad cI w).set 9 (ad 9, .inl (cI.1, 4, .inl (upd (w.2 3) i.toNatClampNeg x))) = wS ad cI (sA w 3 i x) := rfl
theorem gwS_4 (ad : Nat → Nat) (cI : ClassId × ClassId) (w : St) (g : Nat → Int32) : (wS ad cI w).set 10 (ad 10, .inl (cI.1, 24, .inl g)) = wS ad cI (sG w 4 g) := rfl
theorem awS_4 (ad : Nat → Nat) (cI : ClassId × ClassId) (w : St) (i x : Int32) : (wS ad cI w).set 10 (ad 10, .inl (cI.1, 24, .inl (upd (w.2 4) i.toNatClampNeg x))) = wS ad cI (sA w 4 i x) := rfl
theorem gwS_5 (ad : Nat → Nat) (cI : ClassId × ClassId) (w : St) (g : Nat → Int32) : (wS ad cI w).set 11 (ad 11, .inl (cI.1, 24, .inl g)) = wS ad cI (sG w 5 g) := rfl
theorem awS_5 (ad : Nat → Nat) (cI : ClassId × ClassId) (w : St) (i x : Int32) : (wS ad cI w).set 11 (ad 11, .inl (cI.1, 24, .inl (upd (w.2 5) i.toNatClampNeg x))) = wS ad cI (sA w 5 i x) := rfl
theorem gwS_6 (ad : Nat → Nat) (cI : ClassId × ClassId) (w : St) (g : Nat → Int32) : (wS ad cI w).set 12 (ad 12, .inl (cI.1, 24, .inl g)) = wS ad cI (sG w 6 g) := rfl
theorem awS_6 (ad : Nat → Nat) (cI : ClassId × ClassId) (w : St) (i x : Int32) : (wS ad cI w).set 12 (ad 12, .inl (cI.1, 24, .inl (upd (w.2 6) i.toNatClampNeg x))) = wS ad cI (sA w 6 i x) := rfl
def wM (ad : Nat → Nat) (cI : ClassId × ClassId) (w : St) : va_W := [(ad 0, .inr (7, [.ref (ad 1), .ref (ad 2), .ref (ad 3), .ref (ad 4), .ref (ad 5), .int (w.1 0), .int (w.1 1), .int (w.1 2), .ref (ad 6), .int (w.1 3), .int (w.1 4), .int (w.1 5), .int (w.1 6), .int (w.1 7), .ref (ad 7)])), (ad 1, .inl (cI.1, 235, .inl (w.2 0))), (ad 2, .inl (cI.1, 940, .inl (w.2 1))), (ad 3, .inl (cI.1, 235, .inl (w.2 2))), (ad 4, .inl (cI.1, 235, .inl (w.2 3))), (ad 5, .inl (cI.1, 235, .inl (w.2 4))), (ad 6, .inl (cI.1, 60, .inl (w.2 5))), (ad 7, .inl (cI.1, 3, .inl (w.2 6)))]
theorem pwM_0 (ad : Nat → Nat) (cI : ClassId × ClassId) (w : St) (v : Int32) : (wM ad cI w).set 0 (ad 0, .inr (7, [.ref (ad 1), .ref (ad 2), .ref (ad 3), .ref (ad 4), .ref (ad 5), .int (w.1 0), .int (w.1 1), .int (w.1 2), .ref (ad 6), .int (w.1 3), .int (w.1 4), .int (w.1 5), .int (w.1 6), .int (w.1 7), .ref (ad 7)].set 5 (.int v))) = wM ad cI (sR w 0 v) := rfl
theorem pwM_1 (ad : Nat → Nat) (cI : ClassId × ClassId) (w : St) (v : Int32) : (wM ad cI w).set 0 (ad 0, .inr (7, [.ref (ad 1), .ref (ad 2), .ref (ad 3), .ref (ad 4), .ref (ad 5), .int (w.1 0), .int (w.1 1), .int (w.1 2), .ref (ad 6), .int (w.1 3), .int (w.1 4), .int (w.1 5), .int (w.1 6), .int (w.1 7), .ref (ad 7)].set 6 (.int v))) = wM ad cI (sR w 1 v) := rfl
theorem pwM_2 (ad : Nat → Nat) (cI : ClassId × ClassId) (w : St) (v : Int32) : (wM ad cI w).set 0 (ad 0, .inr (7, [.ref (ad 1), .ref (ad 2), .ref (ad 3), .ref (ad 4), .ref (ad 5), .int (w.1 0), .int (w.1 1), .int (w.1 2), .ref (ad 6), .int (w.1 3), .int (w.1 4), .int (w.1 5), .int (w.1 6), .int (w.1 7), .ref (ad 7)].set 7 (.int v))) = wM ad cI (sR w 2 v) := rfl
theorem pwM_3 (ad : Nat → Nat) (cI : ClassId × ClassId) (w : St) (v : Int32) : (wM ad cI w).set 0 (ad 0, .inr (7, [.ref (ad 1), .ref (ad 2), .ref (ad 3), .ref (ad 4), .ref (ad 5), .int (w.1 0), .int (w.1 1), .int (w.1 2), .ref (ad 6), .int (w.1 3), .int (w.1 4), .int (w.1 5), .int (w.1 6), .int (w.1 7), .ref (ad 7)].set 9 (.int v))) = wM ad cI (sR w 3 v) := rfl
theorem pwM_4 (ad : Nat → Nat) (cI : ClassId × ClassId) (w : St) (v : Int32) : (wM ad cI w).set 0 (ad 0, .inr (7, [.ref (ad 1), .ref (ad 2), .ref (ad 3), .ref (ad 4), .ref (ad 5), .int (w.1 0), .int (w.1 1), .int (w.1 2), .ref (ad 6), .int (w.1 3), .int (w.1 4), .int (w.1 5), .int (w.1 6), .int (w.1 7), .ref (ad 7)].set 10 (.int v))) = wM ad cI (sR w 4 v) := rfl
theorem pwM_5 (ad : Nat → Nat) (cI : ClassId × ClassId) (w : St) (v : Int32) : (wM ad cI w).set 0 (ad 0, .inr (7, [.ref (ad 1), .ref (ad 2), .ref (ad 3), .ref (ad 4), .ref (ad 5), .int (w.1 0), .int (w.1 1), .int (w.1 2), .ref (ad 6), .int (w.1 3), .int (w.1 4), .int (w.1 5), .int (w.1 6), .int (w.1 7), .ref (ad 7)].set 11 (.int v))) = wM ad cI (sR w 5 v) := rfl
theorem pwM_6 (ad : Nat → Nat) (cI : ClassId × ClassId) (w : St) (v : Int32) : (wM ad cI w).set 0 (ad 0, .inr (7, [.ref (ad 1), .ref (ad 2), .ref (ad 3), .ref (ad 4), .ref (ad 5), .int (w.1 0), .int (w.1 1), .int (w.1 2), .ref (ad 6), .int (w.1 3), .int (w.1 4), .int (w.1 5), .int (w.1 6), .int (w.1 7), .ref (ad 7)].set 12 (.int v))) = wM ad cI (sR w 6 v) := rfl
theorem pwM_7 (ad : Nat → Nat) (cI : ClassId × ClassId) (w : St) (v : Int32) : (wM ad cI w).set 0 (ad 0, .inr (7, [.ref (ad 1), .ref (ad 2), .ref (ad 3), .ref (ad 4), .ref (ad 5), .int (w.1 0), .int (w.1 1), .int (w.1 2), .ref (ad 6), .int (w.1 3), .int (w.1 4), .int (w.1 5), .int (w.1 6), .int (w.1 7), .ref (ad 7)].set 13 (.int v))) = wM ad cI (sR w 7 v) := rfl
theorem gwM_0 (ad : Nat → Nat) (cI : ClassId × ClassId) (w : St) (g : Nat → Int32) : (wM ad cI w).set 1 (ad 1, .inl (cI.1, 235, .inl g)) = wM ad cI (sG w 0 g) := rfl
theorem awM_0 (ad : Nat → Nat) (cI : ClassId × ClassId) (w : St) (i x : Int32) : (wM ad cI w).set 1 (ad 1, .inl (cI.1, 235, .inl (upd (w.2 0) i.toNatClampNeg x))) = wM ad cI (sA w 0 i x) := rfl
theorem gwM_1 (ad : Nat → Nat) (cI : ClassId × ClassId) (w : St) (g : Nat → Int32) : (wM ad cI w).set 2 (ad 2, .inl (cI.1, 940, .inl g)) = wM ad cI (sG w 1 g) := rfl
theorem awM_1 (ad : Nat → Nat) (cI : ClassId × ClassId) (w : St) (i x : Int32) : (wM ad cI w).set 2 (ad 2, .inl (cI.1, 940, .inl (upd (w.2 1) i.toNatClampNeg x))) = wM ad cI (sA w 1 i x) := rfl
theorem gwM_2 (ad : Nat → Nat) (cI : ClassId × ClassId) (w : St) (g : Nat → Int32) : (wM ad cI w).set 3 (ad 3, .inl (cI.1, 235, .inl g)) = wM ad cI (sG w 2 g) := rfl
theorem awM_2 (ad : Nat → Nat) (cI : ClassId × ClassId) (w : St) (i x : Int32) : (wM ad cI w).set 3 (ad 3, .inl (cI.1, 235, .inl (upd (w.2 2) i.toNatClampNeg x))) = wM ad cI (sA w 2 i x) := rfl
theorem gwM_3 (ad : Nat → Nat) (cI : ClassId × ClassId) (w : St) (g : Nat → Int32) : (wM ad cI w).set 4 (ad 4, .inl (cI.1, 235, .inl g)) = wM ad cI (sG w 3 g) := rfl
theorem awM_3 (ad : Nat → Nat) (cI : ClassId × ClassId) (w : St) (i x : Int32) : (wM ad cI w).set 4 (ad 4, .inl (cI.1, 235, .inl (upd (w.2 3) i.toNatClampNeg x))) = wM ad cI (sA w 3 i x) := rfl
theorem gwM_4 (ad : Nat → Nat) (cI : ClassId × ClassId) (w : St) (g : Nat → Int32) : (wM ad cI w).set 5 (ad 5, .inl (cI.1, 235, .inl g)) = wM ad cI (sG w 4 g) := rfl
theorem awM_4 (ad : Nat → Nat) (cI : ClassId × ClassId) (w : St) (i x : Int32) : (wM ad cI w).set 5 (ad 5, .inl (cI.1, 235, .inl (upd (w.2 4) i.toNatClampNeg x))) = wM ad cI (sA w 4 i x) := rfl
theorem gwM_5 (ad : Nat → Nat) (cI : ClassId × ClassId) (w : St) (g : Nat → Int32) : (wM ad cI w).set 6 (ad 6, .inl (cI.1, 60, .inl g)) = wM ad cI (sG w 5 g) := rfl
theorem awM_5 (ad : Nat → Nat) (cI : ClassId × ClassId) (w : St) (i x : Int32) : (wM ad cI w).set 6 (ad 6, .inl (cI.1, 60, .inl (upd (w.2 5) i.toNatClampNeg x))) = wM ad cI (sA w 5 i x) := rfl
theorem gwM_6 (ad : Nat → Nat) (cI : ClassId × ClassId) (w : St) (g : Nat → Int32) : (wM ad cI w).set 7 (ad 7, .inl (cI.1, 3, .inl g)) = wM ad cI (sG w 6 g) := rfl
theorem awM_6 (ad : Nat → Nat) (cI : ClassId × ClassId) (w : St) (i x : Int32) : (wM ad cI w).set 7 (ad 7, .inl (cI.1, 3, .inl (upd (w.2 6) i.toNatClampNeg x))) = wM ad cI (sA w 6 i x) := rfl
def wC (ad : Nat → Nat) (cI : ClassId × ClassId) (w : St) : va_W := [(ad 0, .inr (5, [.ref (ad 1), .ref (ad 2), .ref (ad 10), .int (w.1 10), .int (w.1 11), .int (w.1 12)])), (ad 1, .inr (1, [.int (w.1 13), .int (w.1 14), .ref (ad 5), .ref (ad 6), .ref (ad 7), .ref (ad 3)])), (ad 2, .inr (4, [.int (w.1 15), .int (w.1 16), .int (w.1 17), .ref (ad 4), .int (w.1 18), .int (w.1 19), .int (w.1 20), .int (w.1 21), .int (w.1 22)])), (ad 3, .inr (3, [.ref (ad 8), .int (w.1 23)])), (ad 4, .inr (3, [.ref (ad 9), .int (w.1 24)])), (ad 5, .inl (cI.1, 72, .inl (w.2 1))), (ad 6, .inl (cI.1, 4, .inl (w.2 2))), (ad 7, .inl (cI.1, 4, .inl (w.2 3))), (ad 8, .inl (cI.1, 24, .inl (w.2 4))), (ad 9, .inl (cI.1, 24, .inl (w.2 5))), (ad 10, .inl (cI.1, 24, .inl (w.2 6))), (ad 11, .inr (5, [.ref (ad 12), .ref (ad 13), .ref (ad 21), .int (w.1 110), .int (w.1 111), .int (w.1 112)])), (ad 12, .inr (1, [.int (w.1 113), .int (w.1 114), .ref (ad 16), .ref (ad 17), .ref (ad 18), .ref (ad 14)])), (ad 13, .inr (4, [.int (w.1 115), .int (w.1 116), .int (w.1 117), .ref (ad 15), .int (w.1 118), .int (w.1 119), .int (w.1 120), .int (w.1 121), .int (w.1 122)])), (ad 14, .inr (3, [.ref (ad 19), .int (w.1 123)])), (ad 15, .inr (3, [.ref (ad 20), .int (w.1 124)])), (ad 16, .inl (cI.1, 72, .inl (w.2 101))), (ad 17, .inl (cI.1, 4, .inl (w.2 102))), (ad 18, .inl (cI.1, 4, .inl (w.2 103))), (ad 19, .inl (cI.1, 24, .inl (w.2 104))), (ad 20, .inl (cI.1, 24, .inl (w.2 105))), (ad 21, .inl (cI.1, 24, .inl (w.2 106)))]
theorem pwC_10 (ad : Nat → Nat) (cI : ClassId × ClassId) (w : St) (v : Int32) : (wC ad cI w).set 0 (ad 0, .inr (5, [.ref (ad 1), .ref (ad 2), .ref (ad 10), .int (w.1 10), .int (w.1 11), .int (w.1 12)].set 3 (.int v))) = wC ad cI (sR w 10 v) := rfl
theorem pwC_11 (ad : Nat → Nat) (cI : ClassId × ClassId) (w : St) (v : Int32) : (wC ad cI w).set 0 (ad 0, .inr (5, [.ref (ad 1), .ref (ad 2), .ref (ad 10), .int (w.1 10), .int (w.1 11), .int (w.1 12)].set 4 (.int v))) = wC ad cI (sR w 11 v) := rfl
theorem pwC_12 (ad : Nat → Nat) (cI : ClassId × ClassId) (w : St) (v : Int32) : (wC ad cI w).set 0 (ad 0, .inr (5, [.ref (ad 1), .ref (ad 2), .ref (ad 10), .int (w.1 10), .int (w.1 11), .int (w.1 12)].set 5 (.int v))) = wC ad cI (sR w 12 v) := rfl
theorem pwC_13 (ad : Nat → Nat) (cI : ClassId × ClassId) (w : St) (v : Int32) : (wC ad cI w).set 1 (ad 1, .inr (1, [.int (w.1 13), .int (w.1 14), .ref (ad 5), .ref (ad 6), .ref (ad 7), .ref (ad 3)].set 0 (.int v))) = wC ad cI (sR w 13 v) := rfl
theorem pwC_14 (ad : Nat → Nat) (cI : ClassId × ClassId) (w : St) (v : Int32) : (wC ad cI w).set 1 (ad 1, .inr (1, [.int (w.1 13), .int (w.1 14), .ref (ad 5), .ref (ad 6), .ref (ad 7), .ref (ad 3)].set 1 (.int v))) = wC ad cI (sR w 14 v) := rfl
theorem pwC_15 (ad : Nat → Nat) (cI : ClassId × ClassId) (w : St) (v : Int32) : (wC ad cI w).set 2 (ad 2, .inr (4, [.int (w.1 15), .int (w.1 16), .int (w.1 17), .ref (ad 4), .int (w.1 18), .int (w.1 19), .int (w.1 20), .int (w.1 21), .int (w.1 22)].set 0 (.int v))) = wC ad cI (sR w 15 v) := rfl
theorem pwC_16 (ad : Nat → Nat) (cI : ClassId × ClassId) (w : St) (v : Int32) : (wC ad cI w).set 2 (ad 2, .inr (4, [.int (w.1 15), .int (w.1 16), .int (w.1 17), .ref (ad 4), .int (w.1 18), .int (w.1 19), .int (w.1 20), .int (w.1 21), .int (w.1 22)].set 1 (.int v))) = wC ad cI (sR w 16 v) := rfl
theorem pwC_17 (ad : Nat → Nat) (cI : ClassId × ClassId) (w : St) (v : Int32) : (wC ad cI w).set 2 (ad 2, .inr (4, [.int (w.1 15), .int (w.1 16), .int (w.1 17), .ref (ad 4), .int (w.1 18), .int (w.1 19), .int (w.1 20), .int (w.1 21), .int (w.1 22)].set 2 (.int v))) = wC ad cI (sR w 17 v) := rfl
theorem pwC_18 (ad : Nat → Nat) (cI : ClassId × ClassId) (w : St) (v : Int32) : (wC ad cI w).set 2 (ad 2, .inr (4, [.int (w.1 15), .int (w.1 16), .int (w.1 17), .ref (ad 4), .int (w.1 18), .int (w.1 19), .int (w.1 20), .int (w.1 21), .int (w.1 22)].set 4 (.int v))) = wC ad cI (sR w 18 v) := rfl
theorem pwC_19 (ad : Nat → Nat) (cI : ClassId × ClassId) (w : St) (v : Int32) : (wC ad cI w).set 2 (ad 2, .inr (4, [.int (w.1 15), .int (w.1 16), .int (w.1 17), .ref (ad 4), .int (w.1 18), .int (w.1 19), .int (w.1 20), .int (w.1 21), .int (w.1 22)].set 5 (.int v))) = wC ad cI (sR w 19 v) := rfl
theorem pwC_20 (ad : Nat → Nat) (cI : ClassId × ClassId) (w : St) (v : Int32) : (wC ad cI w).set 2 (ad 2, .inr (4, [.int (w.1 15), .int (w.1 16), .int (w.1 17), .ref (ad 4), .int (w.1 18), .int (w.1 19), .int (w.1 20), .int (w.1 21), .int (w.1 22)].set 6 (.int v))) = wC ad cI (sR w 20 v) := rfl
theorem pwC_21 (ad : Nat → Nat) (cI : ClassId × ClassId) (w : St) (v : Int32) : (wC ad cI w).set 2 (ad 2, .inr (4, [.int (w.1 15), .int (w.1 16), .int (w.1 17), .ref (ad 4), .int (w.1 18), .int (w.1 19), .int (w.1 20), .int (w.1 21), .int (w.1 22)].set 7 (.int v))) = wC ad cI (sR w 21 v) := rfl
theorem pwC_22 (ad : Nat → Nat) (cI : ClassId × ClassId) (w : St) (v : Int32) : (wC ad cI w).set 2 (ad 2, .inr (4, [.int (w.1 15), .int (w.1 16), .int (w.1 17), .ref (ad 4), .int (w.1 18), .int (w.1 19), .int (w.1 20), .int (w.1 21), .int (w.1 22)].set 8 (.int v))) = wC ad cI (sR w 22 v) := rfl
theorem pwC_23 (ad : Nat → Nat) (cI : ClassId × ClassId) (w : St) (v : Int32) : (wC ad cI w).set 3 (ad 3, .inr (3, [.ref (ad 8), .int (w.1 23)].set 1 (.int v))) = wC ad cI (sR w 23 v) := rfl
theorem pwC_24 (ad : Nat → Nat) (cI : ClassId × ClassId) (w : St) (v : Int32) : (wC ad cI w).set 4 (ad 4, .inr (3, [.ref (ad 9), .int (w.1 24)].set 1 (.int v))) = wC ad cI (sR w 24 v) := rfl
theorem gwC_1 (ad : Nat → Nat) (cI : ClassId × ClassId) (w : St) (g : Nat → Int32) : (wC ad cI w).set 5 (ad 5, .inl (cI.1, 72, .inl g)) = wC ad cI (sG w 1 g) := rfl
theorem awC_1 (ad : Nat → Nat) (cI : ClassId × ClassId) (w : St) (i x : Int32) : (wC ad cI w).set 5 (ad 5, .inl (cI.1, 72, .inl (upd (w.2 1) i.toNatClampNeg x))) = wC ad cI (sA w 1 i x) := rfl
theorem gwC_2 (ad : Nat → Nat) (cI : ClassId × ClassId) (w : St) (g : Nat → Int32) : (wC ad cI w).set 6 (ad 6, .inl (cI.1, 4, .inl g)) = wC ad cI (sG w 2 g) := rfl
theorem awC_2 (ad : Nat → Nat) (cI : ClassId × ClassId) (w : St) (i x : Int32) : (wC ad cI w).set 6 (ad 6, .inl (cI.1, 4, .inl (upd (w.2 2) i.toNatClampNeg x))) = wC ad cI (sA w 2 i x) := rfl
theorem gwC_3 (ad : Nat → Nat) (cI : ClassId × ClassId) (w : St) (g : Nat → Int32) : (wC ad cI w).set 7 (ad 7, .inl (cI.1, 4, .inl g)) = wC ad cI (sG w 3 g) := rfl
theorem awC_3 (ad : Nat → Nat) (cI : ClassId × ClassId) (w : St) (i x : Int32) : (wC ad cI w).set 7 (ad 7, .inl (cI.1, 4, .inl (upd (w.2 3) i.toNatClampNeg x))) = wC ad cI (sA w 3 i x) := rfl
theorem gwC_4 (ad : Nat → Nat) (cI : ClassId × ClassId) (w : St) (g : Nat → Int32) : (wC ad cI w).set 8 (ad 8, .inl (cI.1, 24, .inl g)) = wC ad cI (sG w 4 g) := rfl
theorem awC_4 (ad : Nat → Nat) (cI : ClassId × ClassId) (w : St) (i x : Int32) : (wC ad cI w).set 8 (ad 8, .inl (cI.1, 24, .inl (upd (w.2 4) i.toNatClampNeg x))) = wC ad cI (sA w 4 i x) := rfl
theorem gwC_5 (ad : Nat → Nat) (cI : ClassId × ClassId) (w : St) (g : Nat → Int32) : (wC ad cI w).set 9 (ad 9, .inl (cI.1, 24, .inl g)) = wC ad cI (sG w 5 g) := rfl
theorem awC_5 (ad : Nat → Nat) (cI : ClassId × ClassId) (w : St) (i x : Int32) : (wC ad cI w).set 9 (ad 9, .inl (cI.1, 24, .inl (upd (w.2 5) i.toNatClampNeg x))) = wC ad cI (sA w 5 i x) := rfl
theorem gwC_6 (ad : Nat → Nat) (cI : ClassId × ClassId) (w : St) (g : Nat → Int32) : (wC ad cI w).set 10 (ad 10, .inl (cI.1, 24, .inl g)) = wC ad cI (sG w 6 g) := rfl
theorem awC_6 (ad : Nat → Nat) (cI : ClassId × ClassId) (w : St) (i x : Int32) : (wC ad cI w).set 10 (ad 10, .inl (cI.1, 24, .inl (upd (w.2 6) i.toNatClampNeg x))) = wC ad cI (sA w 6 i x) := rfl
theorem pwC_110 (ad : Nat → Nat) (cI : ClassId × ClassId) (w : St) (v : Int32) : (wC ad cI w).set 11 (ad 11, .inr (5, [.ref (ad 12), .ref (ad 13), .ref (ad 21), .int (w.1 110), .int (w.1 111), .int (w.1 112)].set 3 (.int v))) = wC ad cI (sR w 110 v) := rfl
theorem pwC_111 (ad : Nat → Nat) (cI : ClassId × ClassId) (w : St) (v : Int32) : (wC ad cI w).set 11 (ad 11, .inr (5, [.ref (ad 12), .ref (ad 13), .ref (ad 21), .int (w.1 110), .int (w.1 111), .int (w.1 112)].set 4 (.int v))) = wC ad cI (sR w 111 v) := rfl
theorem pwC_112 (ad : Nat → Nat) (cI : ClassId × ClassId) (w : St) (v : Int32) : (wC ad cI w).set 11 (ad 11, .inr (5, [.ref (ad 12), .ref (ad 13), .ref (ad 21), .int (w.1 110), .int (w.1 111), .int (w.1 112)].set 5 (.int v))) = wC ad cI (sR w 112 v) := rfl
theorem pwC_113 (ad : Nat → Nat) (cI : ClassId × ClassId) (w : St) (v : Int32) : (wC ad cI w).set 12 (ad 12, .inr (1, [.int (w.1 113), .int (w.1 114), .ref (ad 16), .ref (ad 17), .ref (ad 18), .ref (ad 14)].set 0 (.int v))) = wC ad cI (sR w 113 v) := rfl
theorem pwC_114 (ad : Nat → Nat) (cI : ClassId × ClassId) (w : St) (v : Int32) : (wC ad cI w).set 12 (ad 12, .inr (1, [.int (w.1 113), .int (w.1 114), .ref (ad 16), .ref (ad 17), .ref (ad 18), .ref (ad 14)].set 1 (.int v))) = wC ad cI (sR w 114 v) := rfl
theorem pwC_115 (ad : Nat → Nat) (cI : ClassId × ClassId) (w : St) (v : Int32) : (wC ad cI w).set 13 (ad 13, .inr (4, [.int (w.1 115), .int (w.1 116), .int (w.1 117), .ref (ad 15), .int (w.1 118), .int (w.1 119), .int (w.1 120), .int (w.1 121), .int (w.1 122)].set 0 (.int v))) = wC ad cI (sR w 115 v) := rfl
theorem pwC_116 (ad : Nat → Nat) (cI : ClassId × ClassId) (w : St) (v : Int32) : (wC ad cI w).set 13 (ad 13, .inr (4, [.int (w.1 115), .int (w.1 116), .int (w.1 117), .ref (ad 15), .int (w.1 118), .int (w.1 119), .int (w.1 120), .int (w.1 121), .int (w.1 122)].set 1 (.int v))) = wC ad cI (sR w 116 v) := rfl
theorem pwC_117 (ad : Nat → Nat) (cI : ClassId × ClassId) (w : St) (v : Int32) : (wC ad cI w).set 13 (ad 13, .inr (4, [.int (w.1 115), .int (w.1 116), .int (w.1 117), .ref (ad 15), .int (w.1 118), .int (w.1 119), .int (w.1 120), .int (w.1 121), .int (w.1 122)].set 2 (.int v))) = wC ad cI (sR w 117 v) := rfl
theorem pwC_118 (ad : Nat → Nat) (cI : ClassId × ClassId) (w : St) (v : Int32) : (wC ad cI w).set 13 (ad 13, .inr (4, [.int (w.1 115), .int (w.1 116), .int (w.1 117), .ref (ad 15), .int (w.1 118), .int (w.1 119), .int (w.1 120), .int (w.1 121), .int (w.1 122)].set 4 (.int v))) = wC ad cI (sR w 118 v) := rfl
theorem pwC_119 (ad : Nat → Nat) (cI : ClassId × ClassId) (w : St) (v : Int32) : (wC ad cI w).set 13 (ad 13, .inr (4, [.int (w.1 115), .int (w.1 116), .int (w.1 117), .ref (ad 15), .int (w.1 118), .int (w.1 119), .int (w.1 120), .int (w.1 121), .int (w.1 122)].set 5 (.int v))) = wC ad cI (sR w 119 v) := rfl
theorem pwC_120 (ad : Nat → Nat) (cI : ClassId × ClassId) (w : St) (v : Int32) : (wC ad cI w).set 13 (ad 13, .inr (4, [.int (w.1 115), .int (w.1 116), .int (w.1 117), .ref (ad 15), .int (w.1 118), .int (w.1 119), .int (w.1 120), .int (w.1 121), .int (w.1 122)].set 6 (.int v))) = wC ad cI (sR w 120 v) := rfl
theorem pwC_121 (ad : Nat → Nat) (cI : ClassId × ClassId) (w : St) (v : Int32) : (wC ad cI w).set 13 (ad 13, .inr (4, [.int (w.1 115), .int (w.1 116), .int (w.1 117), .ref (ad 15), .int (w.1 118), .int (w.1 119), .int (w.1 120), .int (w.1 121), .int (w.1 122)].set 7 (.int v))) = wC ad cI (sR w 121 v) := rfl
theorem pwC_122 (ad : Nat → Nat) (cI : ClassId × ClassId) (w : St) (v : Int32) : (wC ad cI w).set 13 (ad 13, .inr (4, [.int (w.1 115), .int (w.1 116), .int (w.1 117), .ref (ad 15), .int (w.1 118), .int (w.1 119), .int (w.1 120), .int (w.1 121), .int (w.1 122)].set 8 (.int v))) = wC ad cI (sR w 122 v) := rfl
theorem pwC_123 (ad : Nat → Nat) (cI : ClassId × ClassId) (w : St) (v : Int32) : (wC ad cI w).set 14 (ad 14, .inr (3, [.ref (ad 19), .int (w.1 123)].set 1 (.int v))) = wC ad cI (sR w 123 v) := rfl
theorem pwC_124 (ad : Nat → Nat) (cI : ClassId × ClassId) (w : St) (v : Int32) : (wC ad cI w).set 15 (ad 15, .inr (3, [.ref (ad 20), .int (w.1 124)].set 1 (.int v))) = wC ad cI (sR w 124 v) := rfl
theorem gwC_101 (ad : Nat → Nat) (cI : ClassId × ClassId) (w : St) (g : Nat → Int32) : (wC ad cI w).set 16 (ad 16, .inl (cI.1, 72, .inl g)) = wC ad cI (sG w 101 g) := rfl
theorem awC_101 (ad : Nat → Nat) (cI : ClassId × ClassId) (w : St) (i x : Int32) : (wC ad cI w).set 16 (ad 16, .inl (cI.1, 72, .inl (upd (w.2 101) i.toNatClampNeg x))) = wC ad cI (sA w 101 i x) := rfl
theorem gwC_102 (ad : Nat → Nat) (cI : ClassId × ClassId) (w : St) (g : Nat → Int32) : (wC ad cI w).set 17 (ad 17, .inl (cI.1, 4, .inl g)) = wC ad cI (sG w 102 g) := rfl
theorem awC_102 (ad : Nat → Nat) (cI : ClassId × ClassId) (w : St) (i x : Int32) : (wC ad cI w).set 17 (ad 17, .inl (cI.1, 4, .inl (upd (w.2 102) i.toNatClampNeg x))) = wC ad cI (sA w 102 i x) := rfl
theorem gwC_103 (ad : Nat → Nat) (cI : ClassId × ClassId) (w : St) (g : Nat → Int32) : (wC ad cI w).set 18 (ad 18, .inl (cI.1, 4, .inl g)) = wC ad cI (sG w 103 g) := rfl
theorem awC_103 (ad : Nat → Nat) (cI : ClassId × ClassId) (w : St) (i x : Int32) : (wC ad cI w).set 18 (ad 18, .inl (cI.1, 4, .inl (upd (w.2 103) i.toNatClampNeg x))) = wC ad cI (sA w 103 i x) := rfl
theorem gwC_104 (ad : Nat → Nat) (cI : ClassId × ClassId) (w : St) (g : Nat → Int32) : (wC ad cI w).set 19 (ad 19, .inl (cI.1, 24, .inl g)) = wC ad cI (sG w 104 g) := rfl
theorem awC_104 (ad : Nat → Nat) (cI : ClassId × ClassId) (w : St) (i x : Int32) : (wC ad cI w).set 19 (ad 19, .inl (cI.1, 24, .inl (upd (w.2 104) i.toNatClampNeg x))) = wC ad cI (sA w 104 i x) := rfl
theorem gwC_105 (ad : Nat → Nat) (cI : ClassId × ClassId) (w : St) (g : Nat → Int32) : (wC ad cI w).set 20 (ad 20, .inl (cI.1, 24, .inl g)) = wC ad cI (sG w 105 g) := rfl
theorem awC_105 (ad : Nat → Nat) (cI : ClassId × ClassId) (w : St) (i x : Int32) : (wC ad cI w).set 20 (ad 20, .inl (cI.1, 24, .inl (upd (w.2 105) i.toNatClampNeg x))) = wC ad cI (sA w 105 i x) := rfl
theorem gwC_106 (ad : Nat → Nat) (cI : ClassId × ClassId) (w : St) (g : Nat → Int32) : (wC ad cI w).set 21 (ad 21, .inl (cI.1, 24, .inl g)) = wC ad cI (sG w 106 g) := rfl
theorem awC_106 (ad : Nat → Nat) (cI : ClassId × ClassId) (w : St) (i x : Int32) : (wC ad cI w).set 21 (ad 21, .inl (cI.1, 24, .inl (upd (w.2 106) i.toNatClampNeg x))) = wC ad cI (sA w 106 i x) := rfl
