/-! words of the tables, and what the rows of instructions use -/
theorem xw_t1 {w : Cond} (i : Nat) (h : tables_1_1[i]? = some w) (hg : goodWord w = true) : w ∈ XW := List.mem_filter.mpr ⟨List.mem_append_right _ (List.mem_append_left _ (List.mem_of_getElem? h)), hg⟩
theorem xw_t2 {w : Cond} (i : Nat) (h : tables_1_2[i]? = some w) (hg : goodWord w = true) : w ∈ XW := List.mem_filter.mpr ⟨List.mem_append_right _ (List.mem_append_right _ (List.mem_append_left _ (List.mem_of_getElem? h))), hg⟩
theorem xw_t3 {w : Cond} (i : Nat) (h : tables_1_3[i]? = some w) (hg : goodWord w = true) : w ∈ XW := List.mem_filter.mpr ⟨List.mem_append_right _ (List.mem_append_right _ (List.mem_append_right _ (List.mem_append_left _ (List.mem_of_getElem? h)))), hg⟩
theorem xw_t4 {w : Cond} (i : Nat) (h : tables_1_4[i]? = some w) (hg : goodWord w = true) : w ∈ XW := List.mem_filter.mpr ⟨List.mem_append_right _ (List.mem_append_right _ (List.mem_append_right _ (List.mem_append_right _ (List.mem_append_left _ (List.mem_of_getElem? h))))), hg⟩
theorem xw_t5 {w : Cond} (i : Nat) (h : tables_1_5[i]? = some w) (hg : goodWord w = true) : w ∈ XW := List.mem_filter.mpr ⟨List.mem_append_right _ (List.mem_append_right _ (List.mem_append_right _ (List.mem_append_right _ (List.mem_append_right _ (List.mem_of_getElem? h))))), hg⟩
theorem xw_p {y : MethodName} {C : String} (i n : Nat) (h : lw_privs[i]? = some (y, n)) (hc : y.cls = C) : Cond.selects C y y ∈ XW := List.mem_filter.mpr ⟨List.mem_append_left _ (List.mem_map.mpr ⟨(y, n), List.mem_of_getElem? h, by rw [hc]⟩), rfl⟩
theorem wd_0 : Cond.methodLink RX0 3 objectInit ∈ XW := xw_t1 77 rfl rfl
theorem wd_1 : Cond.instanceMethod objectInit ∈ XW := xw_t1 24 rfl rfl
theorem wd_2 : Cond.code objectInit ⟨#[0xb1]⟩ 1 none ∈ XW := xw_t1 25 rfl rfl
theorem wd_3 : Cond.classLink RX0 9 RX3 ∈ XW := xw_t1 78 rfl rfl
theorem wd_4 : Cond.instantiable RX3 8 ∈ XW := xw_t1 79 rfl rfl
theorem wd_5 : Cond.initialized RX3 ∈ XW := xw_t1 5 rfl rfl
theorem wd_6 : Cond.code yX3_init cX3_init 1 none ∈ XW := xw_t1 82 rfl rfl
theorem wd_7 : Cond.instanceMethod yX3_init ∈ XW := xw_t1 81 rfl rfl
theorem wd_8 : Cond.fieldLink RX0 12 "ContentRows$Board" "rules" "LContentRows$RuleList;" ∈ XW := xw_t1 149 rfl rfl
theorem wd_9 : Cond.classLink RX0 18 RX5 ∈ XW := xw_t1 121 rfl rfl
theorem wd_10 : Cond.instantiable RX5 4 ∈ XW := xw_t1 122 rfl rfl
theorem wd_11 : Cond.initialized RX5 ∈ XW := xw_t1 6 rfl rfl
theorem wd_12 : Cond.code yX5_init cX5_init 1 none ∈ XW := xw_t1 125 rfl rfl
theorem wd_13 : Cond.methodLink RX0 20 yX5_init ∈ XW := xw_t1 123 rfl rfl
theorem wd_14 : Cond.instanceMethod yX5_init ∈ XW := xw_t1 124 rfl rfl
theorem wd_15 : Cond.fieldLink RX0 21 "ContentRows$Board" "table" "LContentRows$Table;" ∈ XW := xw_t1 151 rfl rfl
theorem wd_16 : Cond.code yX3_copyFrom cX3_copyFrom 2 none ∈ XW := xw_t2 99 rfl rfl
theorem wd_17 : Cond.methodLink RX0 25 yX3_copyFrom ∈ XW := xw_t2 96 rfl rfl
theorem wd_18 : Cond.instanceMethod yX3_copyFrom ∈ XW := xw_t2 97 rfl rfl
theorem wd_19 : Cond.selects RX3 yX3_copyFrom yX3_copyFrom ∈ XW := xw_t2 98 rfl rfl
theorem wd_20 : Cond.code yX5_copyFrom cX5_copyFrom 2 none ∈ XW := xw_t2 106 rfl rfl
theorem wd_21 : Cond.methodLink RX0 29 yX5_copyFrom ∈ XW := xw_t2 103 rfl rfl
theorem wd_22 : Cond.instanceMethod yX5_copyFrom ∈ XW := xw_t2 104 rfl rfl
theorem wd_23 : Cond.selects RX5 yX5_copyFrom yX5_copyFrom ∈ XW := xw_t2 105 rfl rfl
theorem wd_24 : Cond.fieldLink RX0 32 "ContentRows$RuleList" "size" "I" ∈ XW := xw_t1 85 rfl rfl
theorem wd_25 : Cond.fieldLink RX0 36 "ContentRows$RuleList" "ranks" "[I" ∈ XW := xw_t1 88 rfl rfl
theorem wd_26 : Cond.code yX5_clearRank cX5_clearRank 3 none ∈ XW := xw_t3 13 rfl rfl
theorem wd_27 : Cond.methodLink RX0 40 yX5_clearRank ∈ XW := xw_t3 10 rfl rfl
theorem wd_28 : Cond.instanceMethod yX5_clearRank ∈ XW := xw_t3 11 rfl rfl
theorem wd_29 : Cond.selects RX5 yX5_clearRank yX5_clearRank ∈ XW := xw_t3 12 rfl rfl
theorem wd_30 : Cond.code yX3_remove cX3_remove 3 none ∈ XW := xw_t3 17 rfl rfl
theorem wd_31 : Cond.methodLink RX0 44 yX3_remove ∈ XW := xw_t3 14 rfl rfl
theorem wd_32 : Cond.instanceMethod yX3_remove ∈ XW := xw_t3 15 rfl rfl
theorem wd_33 : Cond.selects RX3 yX3_remove yX3_remove ∈ XW := xw_t3 16 rfl rfl
theorem wd_34 : Cond.fieldLink RX0 47 "ContentRows$RuleList" "lasts" "[I" ∈ XW := xw_t1 100 rfl rfl
theorem wd_35 : Cond.code yX7_pieceSize cX7_pieceSize 3 (some .int) ∈ XW := xw_t2 72 rfl rfl
theorem wd_36 : Cond.initialized RX7 ∈ XW := xw_t1 1 rfl rfl
theorem wd_37 : Cond.static yX7_pieceSize ∈ XW := xw_t2 71 rfl rfl
theorem wd_38 : Cond.fieldLink RX0 54 "ContentRows$RuleList" "headCares" "[I" ∈ XW := xw_t1 93 rfl rfl
theorem wd_39 : Cond.fieldLink RX0 57 "ContentRows$RuleList" "headValues" "[I" ∈ XW := xw_t1 95 rfl rfl
theorem wd_40 : Cond.code yX5_put cX5_put 6 none ∈ XW := xw_t2 91 rfl rfl
theorem wd_41 : Cond.methodLink RX0 60 yX5_put ∈ XW := xw_t2 88 rfl rfl
theorem wd_42 : Cond.instanceMethod yX5_put ∈ XW := xw_t2 89 rfl rfl
theorem wd_43 : Cond.selects RX5 yX5_put yX5_put ∈ XW := xw_t2 90 rfl rfl
theorem wd_44 : Cond.code yX5_clearAll cX5_clearAll 1 none ∈ XW := xw_t1 130 rfl rfl
theorem wd_45 : Cond.methodLink RX0 64 yX5_clearAll ∈ XW := xw_t2 77 rfl rfl
theorem wd_46 : Cond.instanceMethod yX5_clearAll ∈ XW := xw_t1 128 rfl rfl
theorem wd_47 : Cond.selects RX5 yX5_clearAll yX5_clearAll ∈ XW := xw_t1 129 rfl rfl
theorem wd_48 : Cond.code yX3_numberOf cX3_numberOf 3 (some .int) ∈ XW := xw_t2 51 rfl rfl
theorem wd_49 : Cond.methodLink RX0 67 yX3_numberOf ∈ XW := xw_t2 78 rfl rfl
theorem wd_50 : Cond.instanceMethod yX3_numberOf ∈ XW := xw_t2 49 rfl rfl
theorem wd_51 : Cond.selects RX3 yX3_numberOf yX3_numberOf ∈ XW := xw_t2 50 rfl rfl
theorem wd_52 : Cond.code yX0_packRowsOf cX0_packRowsOf 5 (some .int) ∈ XW := xw_t2 82 rfl rfl
theorem wd_53 : Cond.methodLink RX0 71 yX0_packRowsOf ∈ XW := xw_t2 79 rfl rfl
theorem wd_54 : Cond.initialized RX0 ∈ XW := xw_t1 4 rfl rfl
theorem wd_55 : Cond.instanceMethod yX0_packRowsOf ∈ XW := xw_t2 81 rfl rfl
theorem wd_56 : Cond.selects RX0 yX0_packRowsOf yX0_packRowsOf ∈ XW := xw_p 6 _ rfl rfl
theorem wd_57 : Cond.fieldLink RX0 74 "ContentRows$RuleList" "firsts" "[I" ∈ XW := xw_t1 97 rfl rfl
theorem wd_58 : Cond.code yX0_putRow cX0_putRow 7 none ∈ XW := xw_t2 86 rfl rfl
theorem wd_59 : Cond.methodLink RX0 77 yX0_putRow ∈ XW := xw_t2 83 rfl rfl
theorem wd_60 : Cond.instanceMethod yX0_putRow ∈ XW := xw_t2 84 rfl rfl
theorem wd_61 : Cond.selects RX0 yX0_putRow yX0_putRow ∈ XW := xw_t2 85 rfl rfl
theorem wd_62 : Cond.code yX7_isSlot cX7_isSlot 1 (some .boolean) ∈ XW := xw_t3 57 rfl rfl
theorem wd_63 : Cond.static yX7_isSlot ∈ XW := xw_t3 56 rfl rfl
theorem wd_64 : Cond.code yX5_isEmpty cX5_isEmpty 2 (some .boolean) ∈ XW := xw_t2 176 rfl rfl
theorem wd_65 : Cond.methodLink RX0 85 yX5_isEmpty ∈ XW := xw_t3 109 rfl rfl
theorem wd_66 : Cond.instanceMethod yX5_isEmpty ∈ XW := xw_t2 174 rfl rfl
theorem wd_67 : Cond.selects RX5 yX5_isEmpty yX5_isEmpty ∈ XW := xw_t2 175 rfl rfl
theorem wd_68 : Cond.fieldLink RX0 88 "ContentRows$Table" "ranks" "[I" ∈ XW := xw_t1 135 rfl rfl
theorem wd_69 : Cond.code yX0_ruleOf cX0_ruleOf 2 (some .int) ∈ XW := xw_t3 107 rfl rfl
theorem wd_70 : Cond.methodLink RX0 89 yX0_ruleOf ∈ XW := xw_t3 161 rfl rfl
theorem wd_71 : Cond.instanceMethod yX0_ruleOf ∈ XW := xw_t3 105 rfl rfl
theorem wd_72 : Cond.selects RX0 yX0_ruleOf yX0_ruleOf ∈ XW := xw_t3 106 rfl rfl
theorem wd_73 : Cond.code yX3_answerOf cX3_answerOf 2 (some .int) ∈ XW := xw_t3 91 rfl rfl
theorem wd_74 : Cond.methodLink RX0 92 yX3_answerOf ∈ XW := xw_t3 162 rfl rfl
theorem wd_75 : Cond.instanceMethod yX3_answerOf ∈ XW := xw_t3 89 rfl rfl
theorem wd_76 : Cond.selects RX3 yX3_answerOf yX3_answerOf ∈ XW := xw_t3 90 rfl rfl
theorem wd_77 : Cond.code yX5_answeringSlot cX5_answeringSlot 3 (some .int) ∈ XW := xw_t3 121 rfl rfl
theorem wd_78 : Cond.methodLink RX0 95 yX5_answeringSlot ∈ XW := xw_t3 199 rfl rfl
theorem wd_79 : Cond.instanceMethod yX5_answeringSlot ∈ XW := xw_t3 119 rfl rfl
theorem wd_80 : Cond.selects RX5 yX5_answeringSlot yX5_answeringSlot ∈ XW := xw_t3 120 rfl rfl
theorem wd_81 : Cond.code yX3_answeringRule cX3_answeringRule 2 (some .int) ∈ XW := xw_t3 37 rfl rfl
theorem wd_82 : Cond.methodLink RX0 98 yX3_answeringRule ∈ XW := xw_t3 204 rfl rfl
theorem wd_83 : Cond.instanceMethod yX3_answeringRule ∈ XW := xw_t3 35 rfl rfl
theorem wd_84 : Cond.selects RX3 yX3_answeringRule yX3_answeringRule ∈ XW := xw_t3 36 rfl rfl
theorem wd_85 : Cond.methodLink RX1 3 objectInit ∈ XW := xw_t1 163 rfl rfl
theorem wd_86 : Cond.arrayClass .int ∈ XW := xw_t1 40 rfl rfl
theorem wd_87 : Cond.fieldLink RX1 9 "ContentRows$MoveLog" "from" "[I" ∈ XW := xw_t1 164 rfl rfl
theorem wd_88 : Cond.fieldLink RX1 15 "ContentRows$MoveLog" "to" "[I" ∈ XW := xw_t1 166 rfl rfl
theorem wd_89 : Cond.fieldLink RX1 18 "ContentRows$MoveLog" "size" "I" ∈ XW := xw_t1 168 rfl rfl
theorem wd_90 : Cond.methodLink RX1 22 arraycopyName ∈ XW := xw_t2 237 rfl rfl
theorem wd_91 : Cond.native arraycopyName ∈ XW := xw_t2 102 rfl rfl
theorem wd_92 : Cond.static arraycopyName ∈ XW := xw_t2 101 rfl rfl
theorem wd_93 : Cond.initialized "java/lang/System" ∈ XW := xw_t1 14 rfl rfl
theorem wd_94 : Cond.code yJ9_max_7cf53 cJ9_max_7cf53 2 (some .int) ∈ XW := xw_t2 169 rfl rfl
theorem wd_95 : Cond.methodLink RX1 28 yJ9_max_7cf53 ∈ XW := xw_t2 226 rfl rfl
theorem wd_96 : Cond.initialized RJ9 ∈ XW := xw_t1 16 rfl rfl
theorem wd_97 : Cond.static yJ9_max_7cf53 ∈ XW := xw_t2 168 rfl rfl
theorem wd_98 : Cond.methodLink RX2 3 objectInit ∈ XW := xw_t1 182 rfl rfl
theorem wd_99 : Cond.classLink RX2 9 RX0 ∈ XW := xw_t1 183 rfl rfl
theorem wd_100 : Cond.fieldLink RX2 11 "ContentRows$Past" "boards" "[LContentRows$Board;" ∈ XW := xw_t1 186 rfl rfl
theorem wd_101 : Cond.fieldLink RX2 17 "ContentRows$Past" "next" "I" ∈ XW := xw_t1 187 rfl rfl
theorem wd_102 : Cond.fieldLink RX2 21 "ContentRows$Past" "size" "I" ∈ XW := xw_t1 188 rfl rfl
theorem wd_103 : Cond.instantiable RX0 2 ∈ XW := xw_t1 73 rfl rfl
theorem wd_104 : Cond.code yX0_init cX0_init 1 none ∈ XW := xw_t1 76 rfl rfl
theorem wd_105 : Cond.instanceMethod yX0_init ∈ XW := xw_t1 75 rfl rfl
theorem wd_106 : Cond.code yX0_copyFrom cX0_copyFrom 2 none ∈ XW := xw_t2 95 rfl rfl
theorem wd_107 : Cond.methodLink RX2 25 yX0_copyFrom ∈ XW := xw_t2 231 rfl rfl
theorem wd_108 : Cond.instanceMethod yX0_copyFrom ∈ XW := xw_t2 93 rfl rfl
theorem wd_109 : Cond.selects RX0 yX0_copyFrom yX0_copyFrom ∈ XW := xw_t2 94 rfl rfl
theorem wd_110 : Cond.code yJ9_min_7cf53 cJ9_min_7cf53 2 (some .int) ∈ XW := xw_t2 172 rfl rfl
theorem wd_111 : Cond.methodLink RX2 29 yJ9_min_7cf53 ∈ XW := xw_t2 232 rfl rfl
theorem wd_112 : Cond.static yJ9_min_7cf53 ∈ XW := xw_t2 171 rfl rfl
theorem wd_113 : Cond.methodLink RX3 3 objectInit ∈ XW := xw_t1 83 rfl rfl
theorem wd_114 : Cond.fieldLink RX3 9 "ContentRows$RuleList" "size" "I" ∈ XW := xw_t1 84 rfl rfl
theorem wd_115 : Cond.fieldLink RX3 15 "ContentRows$RuleList" "ranks" "[I" ∈ XW := xw_t1 87 rfl rfl
theorem wd_116 : Cond.fieldLink RX3 19 "ContentRows$RuleList" "heads" "[I" ∈ XW := xw_t1 90 rfl rfl
theorem wd_117 : Cond.fieldLink RX3 22 "ContentRows$RuleList" "headCares" "[I" ∈ XW := xw_t1 92 rfl rfl
theorem wd_118 : Cond.fieldLink RX3 25 "ContentRows$RuleList" "headValues" "[I" ∈ XW := xw_t1 94 rfl rfl
theorem wd_119 : Cond.fieldLink RX3 28 "ContentRows$RuleList" "firsts" "[I" ∈ XW := xw_t1 96 rfl rfl
theorem wd_120 : Cond.fieldLink RX3 31 "ContentRows$RuleList" "lasts" "[I" ∈ XW := xw_t1 99 rfl rfl
theorem wd_121 : Cond.fieldLink RX3 34 "ContentRows$RuleList" "answers" "[I" ∈ XW := xw_t1 102 rfl rfl
theorem wd_122 : Cond.methodLink RX3 37 arraycopyName ∈ XW := xw_t2 100 rfl rfl
theorem wd_123 : Cond.code yX3_headBits cX3_headBits 4 (some .int) ∈ XW := xw_t2 58 rfl rfl
theorem wd_124 : Cond.methodLink RX3 43 yX3_headBits ∈ XW := xw_t2 56 rfl rfl
theorem wd_125 : Cond.static yX3_headBits ∈ XW := xw_t2 57 rfl rfl
theorem wd_126 : Cond.code yX3_answeringRuleBut cX3_answeringRuleBut 5 (some .int) ∈ XW := xw_t3 41 rfl rfl
theorem wd_127 : Cond.methodLink RX3 47 yX3_answeringRuleBut ∈ XW := xw_t3 38 rfl rfl
theorem wd_128 : Cond.instanceMethod yX3_answeringRuleBut ∈ XW := xw_t3 39 rfl rfl
theorem wd_129 : Cond.selects RX3 yX3_answeringRuleBut yX3_answeringRuleBut ∈ XW := xw_t3 40 rfl rfl
theorem wd_130 : Cond.code yX3_has cX3_has 4 (some .boolean) ∈ XW := xw_t3 33 rfl rfl
theorem wd_131 : Cond.methodLink RX3 50 yX3_has ∈ XW := xw_t3 30 rfl rfl
theorem wd_132 : Cond.instanceMethod yX3_has ∈ XW := xw_t3 31 rfl rfl
theorem wd_133 : Cond.selects RX3 yX3_has yX3_has ∈ XW := xw_t3 32 rfl rfl
theorem wd_134 : Cond.code yX7_rowsOfSpan cX7_rowsOfSpan 4 (some .int) ∈ XW := xw_t2 69 rfl rfl
theorem wd_135 : Cond.static yX7_rowsOfSpan ∈ XW := xw_t2 68 rfl rfl
theorem wd_136 : Cond.code yX3_rowsOf cX3_rowsOf 2 (some .int) ∈ XW := xw_t2 66 rfl rfl
theorem wd_137 : Cond.methodLink RX3 57 yX3_rowsOf ∈ XW := xw_t2 63 rfl rfl
theorem wd_138 : Cond.instanceMethod yX3_rowsOf ∈ XW := xw_t2 64 rfl rfl
theorem wd_139 : Cond.selects RX3 yX3_rowsOf yX3_rowsOf ∈ XW := xw_t2 65 rfl rfl
theorem wd_140 : Cond.methodLink RX3 61 yX3_answeringRule ∈ XW := xw_t3 34 rfl rfl
theorem wd_141 : Cond.methodLink RX3 64 yX3_answerOf ∈ XW := xw_t3 88 rfl rfl
theorem wd_142 : Cond.code yX3_isCovered cX3_isCovered 3 (some .boolean) ∈ XW := xw_t3 29 rfl rfl
theorem wd_143 : Cond.methodLink RX3 67 yX3_isCovered ∈ XW := xw_t3 26 rfl rfl
theorem wd_144 : Cond.instanceMethod yX3_isCovered ∈ XW := xw_t3 27 rfl rfl
theorem wd_145 : Cond.selects RX3 yX3_isCovered yX3_isCovered ∈ XW := xw_t3 28 rfl rfl
theorem wd_146 : Cond.code yX3_isIdle cX3_isIdle 3 (some .boolean) ∈ XW := xw_t3 87 rfl rfl
theorem wd_147 : Cond.methodLink RX3 71 yX3_isIdle ∈ XW := xw_t3 222 rfl rfl
theorem wd_148 : Cond.instanceMethod yX3_isIdle ∈ XW := xw_t3 85 rfl rfl
theorem wd_149 : Cond.selects RX3 yX3_isIdle yX3_isIdle ∈ XW := xw_t3 86 rfl rfl
theorem wd_150 : Cond.methodLink RX4 3 objectInit ∈ XW := xw_t1 46 rfl rfl
theorem wd_151 : Cond.fieldLink RX4 9 "ContentRows$RuleReader" "at" "I" ∈ XW := xw_t1 47 rfl rfl
theorem wd_152 : Cond.fieldLink RX4 15 "ContentRows$RuleReader" "rank" "I" ∈ XW := xw_t1 49 rfl rfl
theorem wd_153 : Cond.fieldLink RX4 18 "ContentRows$RuleReader" "head" "I" ∈ XW := xw_t1 51 rfl rfl
theorem wd_154 : Cond.fieldLink RX4 21 "ContentRows$RuleReader" "first" "I" ∈ XW := xw_t1 53 rfl rfl
theorem wd_155 : Cond.fieldLink RX4 24 "ContentRows$RuleReader" "last" "I" ∈ XW := xw_t1 55 rfl rfl
theorem wd_156 : Cond.fieldLink RX4 27 "ContentRows$RuleReader" "answer" "I" ∈ XW := xw_t1 57 rfl rfl
theorem wd_157 : Cond.code yX4_number cX4_number 4 (some .int) ∈ XW := xw_t2 25 rfl rfl
theorem wd_158 : Cond.methodLink RX4 30 yX4_number ∈ XW := xw_t2 22 rfl rfl
theorem wd_159 : Cond.initialized RX4 ∈ XW := xw_t1 3 rfl rfl
theorem wd_160 : Cond.instanceMethod yX4_number ∈ XW := xw_t2 24 rfl rfl
theorem wd_161 : Cond.selects RX4 yX4_number yX4_number ∈ XW := xw_p 2 _ rfl rfl
theorem wd_162 : Cond.code yX4_passes cX4_passes 3 (some .boolean) ∈ XW := xw_t2 37 rfl rfl
theorem wd_163 : Cond.methodLink RX4 34 yX4_passes ∈ XW := xw_t2 34 rfl rfl
theorem wd_164 : Cond.instanceMethod yX4_passes ∈ XW := xw_t2 36 rfl rfl
theorem wd_165 : Cond.selects RX4 yX4_passes yX4_passes ∈ XW := xw_p 4 _ rfl rfl
theorem wd_166 : Cond.code yX4_signs cX4_signs 5 (some .int) ∈ XW := xw_t2 41 rfl rfl
theorem wd_167 : Cond.methodLink RX4 38 yX4_signs ∈ XW := xw_t2 38 rfl rfl
theorem wd_168 : Cond.instanceMethod yX4_signs ∈ XW := xw_t2 40 rfl rfl
theorem wd_169 : Cond.selects RX4 yX4_signs yX4_signs ∈ XW := xw_p 5 _ rfl rfl
theorem wd_170 : Cond.code yX7_isSpan cX7_isSpan 2 (some .boolean) ∈ XW := xw_t2 47 rfl rfl
theorem wd_171 : Cond.static yX7_isSpan ∈ XW := xw_t2 46 rfl rfl
theorem wd_172 : Cond.code yX4_figure cX4_figure 3 (some .int) ∈ XW := xw_t2 29 rfl rfl
theorem wd_173 : Cond.methodLink RX4 45 yX4_figure ∈ XW := xw_t2 26 rfl rfl
theorem wd_174 : Cond.instanceMethod yX4_figure ∈ XW := xw_t2 28 rfl rfl
theorem wd_175 : Cond.selects RX4 yX4_figure yX4_figure ∈ XW := xw_p 3 _ rfl rfl
theorem wd_176 : Cond.code yX6_letterAt cX6_letterAt 2 (some .int) ∈ XW := xw_t2 33 rfl rfl
theorem wd_177 : Cond.methodLink RX4 48 yX6_letterAt ∈ XW := xw_t2 30 rfl rfl
theorem wd_178 : Cond.initialized RX6 ∈ XW := xw_t1 2 rfl rfl
theorem wd_179 : Cond.instanceMethod yX6_letterAt ∈ XW := xw_t2 31 rfl rfl
theorem wd_180 : Cond.selects RX6 yX6_letterAt yX6_letterAt ∈ XW := xw_t2 32 rfl rfl
theorem wd_181 : Cond.code yX4_sign cX4_sign 1 (some .int) ∈ XW := xw_t2 44 rfl rfl
theorem wd_182 : Cond.methodLink RX4 54 yX4_sign ∈ XW := xw_t2 42 rfl rfl
theorem wd_183 : Cond.static yX4_sign ∈ XW := xw_t2 43 rfl rfl
theorem wd_184 : Cond.methodLink RX5 3 objectInit ∈ XW := xw_t1 126 rfl rfl
theorem wd_185 : Cond.fieldLink RX5 9 "ContentRows$Table" "ranks" "[I" ∈ XW := xw_t1 134 rfl rfl
theorem wd_186 : Cond.fieldLink RX5 15 "ContentRows$Table" "pieces" "[I" ∈ XW := xw_t1 136 rfl rfl
theorem wd_187 : Cond.fieldLink RX5 18 "ContentRows$Table" "cares" "[I" ∈ XW := xw_t1 138 rfl rfl
theorem wd_188 : Cond.fieldLink RX5 21 "ContentRows$Table" "values" "[I" ∈ XW := xw_t1 139 rfl rfl
theorem wd_189 : Cond.methodLink RX5 24 yX5_clearAll ∈ XW := xw_t1 127 rfl rfl
theorem wd_190 : Cond.code yJ7_fill_53178 cJ7_fill_53178 4 none ∈ XW := xw_t1 133 rfl rfl
theorem wd_191 : Cond.methodLink RX5 27 yJ7_fill_53178 ∈ XW := xw_t1 131 rfl rfl
theorem wd_192 : Cond.initialized RJ7 ∈ XW := xw_t1 7 rfl rfl
theorem wd_193 : Cond.static yJ7_fill_53178 ∈ XW := xw_t1 132 rfl rfl
theorem wd_194 : Cond.methodLink RX5 33 arraycopyName ∈ XW := xw_t2 107 rfl rfl
theorem wd_195 : Cond.code yX5_clear cX5_clear 2 none ∈ XW := xw_t2 209 rfl rfl
theorem wd_196 : Cond.methodLink RX5 39 yX5_clear ∈ XW := xw_t2 206 rfl rfl
theorem wd_197 : Cond.instanceMethod yX5_clear ∈ XW := xw_t2 207 rfl rfl
theorem wd_198 : Cond.selects RX5 yX5_clear yX5_clear ∈ XW := xw_t2 208 rfl rfl
theorem wd_199 : Cond.methodLink RX5 43 yX5_put ∈ XW := xw_t2 205 rfl rfl
theorem wd_200 : Cond.methodLink RX5 47 yX5_isEmpty ∈ XW := xw_t2 173 rfl rfl
theorem wd_201 : Cond.code yJ6_bitCount_0f7a4 cJ6_bitCount_0f7a4 1 (some .int) ∈ XW := xw_t3 153 rfl rfl
theorem wd_202 : Cond.methodLink RX5 51 yJ6_bitCount_0f7a4 ∈ XW := xw_t3 151 rfl rfl
theorem wd_203 : Cond.initialized RJ6 ∈ XW := xw_t1 17 rfl rfl
theorem wd_204 : Cond.static yJ6_bitCount_0f7a4 ∈ XW := xw_t3 152 rfl rfl
theorem wd_205 : Cond.code yX5_meets cX5_meets 3 (some .boolean) ∈ XW := xw_t2 196 rfl rfl
theorem wd_206 : Cond.methodLink RX5 57 yX5_meets ∈ XW := xw_t2 193 rfl rfl
theorem wd_207 : Cond.instanceMethod yX5_meets ∈ XW := xw_t2 194 rfl rfl
theorem wd_208 : Cond.selects RX5 yX5_meets yX5_meets ∈ XW := xw_t2 195 rfl rfl
theorem wd_209 : Cond.code yX5_floorOf cX5_floorOf 3 (some .int) ∈ XW := xw_t2 200 rfl rfl
theorem wd_210 : Cond.methodLink RX5 61 yX5_floorOf ∈ XW := xw_t2 197 rfl rfl
theorem wd_211 : Cond.instanceMethod yX5_floorOf ∈ XW := xw_t2 198 rfl rfl
theorem wd_212 : Cond.selects RX5 yX5_floorOf yX5_floorOf ∈ XW := xw_t2 199 rfl rfl
theorem wd_213 : Cond.code yX5_ceilingOf cX5_ceilingOf 3 (some .int) ∈ XW := xw_t2 192 rfl rfl
theorem wd_214 : Cond.methodLink RX5 64 yX5_ceilingOf ∈ XW := xw_t2 189 rfl rfl
theorem wd_215 : Cond.instanceMethod yX5_ceilingOf ∈ XW := xw_t2 190 rfl rfl
theorem wd_216 : Cond.selects RX5 yX5_ceilingOf yX5_ceilingOf ∈ XW := xw_t2 191 rfl rfl
theorem wd_217 : Cond.code yX5_rowsBetween cX5_rowsBetween 6 (some .int) ∈ XW := xw_t2 166 rfl rfl
theorem wd_218 : Cond.methodLink RX5 67 yX5_rowsBetween ∈ XW := xw_t2 163 rfl rfl
theorem wd_219 : Cond.instanceMethod yX5_rowsBetween ∈ XW := xw_t2 164 rfl rfl
theorem wd_220 : Cond.selects RX5 yX5_rowsBetween yX5_rowsBetween ∈ XW := xw_t2 165 rfl rfl
theorem wd_221 : Cond.methodLink RX5 71 yJ9_max_7cf53 ∈ XW := xw_t2 167 rfl rfl
theorem wd_222 : Cond.methodLink RX5 76 yJ9_min_7cf53 ∈ XW := xw_t2 170 rfl rfl
theorem wd_223 : Cond.code yX5_fits cX5_fits 3 (some .boolean) ∈ XW := xw_t3 125 rfl rfl
theorem wd_224 : Cond.methodLink RX5 79 yX5_fits ∈ XW := xw_t3 122 rfl rfl
theorem wd_225 : Cond.instanceMethod yX5_fits ∈ XW := xw_t3 123 rfl rfl
theorem wd_226 : Cond.selects RX5 yX5_fits yX5_fits ∈ XW := xw_t3 124 rfl rfl
theorem wd_227 : Cond.methodLink RX5 82 yX5_answeringSlot ∈ XW := xw_t3 118 rfl rfl
theorem wd_228 : Cond.code yX5_blocksOn cX5_blocksOn 4 (some .int) ∈ XW := xw_t3 190 rfl rfl
theorem wd_229 : Cond.methodLink RX5 85 yX5_blocksOn ∈ XW := xw_t3 209 rfl rfl
theorem wd_230 : Cond.instanceMethod yX5_blocksOn ∈ XW := xw_t3 188 rfl rfl
theorem wd_231 : Cond.selects RX5 yX5_blocksOn yX5_blocksOn ∈ XW := xw_t3 189 rfl rfl
theorem wd_232 : Cond.code yX5_isBelow cX5_isBelow 3 (some .boolean) ∈ XW := xw_t3 234 rfl rfl
theorem wd_233 : Cond.methodLink RX5 88 yX5_isBelow ∈ XW := xw_t3 231 rfl rfl
theorem wd_234 : Cond.instanceMethod yX5_isBelow ∈ XW := xw_t3 233 rfl rfl
theorem wd_235 : Cond.selects RX5 yX5_isBelow yX5_isBelow ∈ XW := xw_p 10 _ rfl rfl
theorem wd_236 : Cond.methodLink RX6 3 objectInit ∈ XW := xw_t1 31 rfl rfl
theorem wd_237 : Cond.fieldLink RX6 9 "ContentRows$Text" "letters" "[I" ∈ XW := xw_t1 32 rfl rfl
theorem wd_238 : Cond.fieldLink RX6 15 "ContentRows$Text" "length" "I" ∈ XW := xw_t1 33 rfl rfl
theorem wd_239 : Cond.methodLink RX7 3 objectInit ∈ XW := xw_t1 23 rfl rfl
theorem wd_240 : Cond.classLink RX7 9 RX6 ∈ XW := xw_t1 26 rfl rfl
theorem wd_241 : Cond.instantiable RX6 2 ∈ XW := xw_t1 27 rfl rfl
theorem wd_242 : Cond.code yX6_init cX6_init 1 none ∈ XW := xw_t1 30 rfl rfl
theorem wd_243 : Cond.instanceMethod yX6_init ∈ XW := xw_t1 29 rfl rfl
theorem wd_244 : Cond.fieldLink RX7 12 "ContentRows" "text" "LContentRows$Text;" ∈ XW := xw_t2 108 rfl rfl
theorem wd_245 : Cond.classLink RX7 16 RX4 ∈ XW := xw_t1 41 rfl rfl
theorem wd_246 : Cond.instantiable RX4 6 ∈ XW := xw_t1 42 rfl rfl
theorem wd_247 : Cond.code yX4_init cX4_init 1 none ∈ XW := xw_t1 45 rfl rfl
theorem wd_248 : Cond.instanceMethod yX4_init ∈ XW := xw_t1 44 rfl rfl
theorem wd_249 : Cond.fieldLink RX7 19 "ContentRows" "reader" "LContentRows$RuleReader;" ∈ XW := xw_t2 109 rfl rfl
theorem wd_250 : Cond.classLink RX7 23 RX0 ∈ XW := xw_t1 72 rfl rfl
theorem wd_251 : Cond.fieldLink RX7 26 "ContentRows" "board" "LContentRows$Board;" ∈ XW := xw_t2 110 rfl rfl
theorem wd_252 : Cond.fieldLink RX7 30 "ContentRows" "trial" "LContentRows$Board;" ∈ XW := xw_t2 111 rfl rfl
theorem wd_253 : Cond.classLink RX7 33 RX1 ∈ XW := xw_t1 158 rfl rfl
theorem wd_254 : Cond.instantiable RX1 3 ∈ XW := xw_t1 159 rfl rfl
theorem wd_255 : Cond.initialized RX1 ∈ XW := xw_t1 8 rfl rfl
theorem wd_256 : Cond.code yX1_init cX1_init 1 none ∈ XW := xw_t1 162 rfl rfl
theorem wd_257 : Cond.instanceMethod yX1_init ∈ XW := xw_t1 161 rfl rfl
theorem wd_258 : Cond.fieldLink RX7 36 "ContentRows" "made" "LContentRows$MoveLog;" ∈ XW := xw_t2 112 rfl rfl
theorem wd_259 : Cond.fieldLink RX7 40 "ContentRows" "tried" "LContentRows$MoveLog;" ∈ XW := xw_t2 113 rfl rfl
theorem wd_260 : Cond.classLink RX7 43 RX2 ∈ XW := xw_t1 177 rfl rfl
theorem wd_261 : Cond.instantiable RX2 3 ∈ XW := xw_t1 178 rfl rfl
theorem wd_262 : Cond.initialized RX2 ∈ XW := xw_t1 9 rfl rfl
theorem wd_263 : Cond.code yX2_init cX2_init 2 none ∈ XW := xw_t1 181 rfl rfl
theorem wd_264 : Cond.methodLink RX7 45 yX2_init ∈ XW := xw_t1 179 rfl rfl
theorem wd_265 : Cond.instanceMethod yX2_init ∈ XW := xw_t1 180 rfl rfl
theorem wd_266 : Cond.fieldLink RX7 46 "ContentRows" "past" "LContentRows$Past;" ∈ XW := xw_t2 114 rfl rfl
theorem wd_267 : Cond.code yJ0_length_8abf5 cJ0_length_8abf5 1 (some .int) ∈ XW := xw_t1 201 rfl rfl
theorem wd_268 : Cond.methodLink RX7 52 yJ0_length_8abf5 ∈ XW := xw_t1 198 rfl rfl
theorem wd_269 : Cond.initialized RJ0 ∈ XW := xw_t1 10 rfl rfl
theorem wd_270 : Cond.instanceMethod yJ0_length_8abf5 ∈ XW := xw_t1 199 rfl rfl
theorem wd_271 : Cond.selects RJ0 yJ0_length_8abf5 yJ0_length_8abf5 ∈ XW := xw_t1 200 rfl rfl
theorem wd_272 : Cond.code yJ0_charAt_5068e cJ0_charAt_5068e 2 (some .char) ∈ XW := xw_t1 211 rfl rfl
theorem wd_273 : Cond.methodLink RX7 58 yJ0_charAt_5068e ∈ XW := xw_t1 208 rfl rfl
theorem wd_274 : Cond.instanceMethod yJ0_charAt_5068e ∈ XW := xw_t1 209 rfl rfl
theorem wd_275 : Cond.selects RJ0 yJ0_charAt_5068e yJ0_charAt_5068e ∈ XW := xw_t1 210 rfl rfl
theorem wd_276 : Cond.code yX6_append cX6_append 2 (some .boolean) ∈ XW := xw_t2 9 rfl rfl
theorem wd_277 : Cond.methodLink RX7 62 yX6_append ∈ XW := xw_t2 6 rfl rfl
theorem wd_278 : Cond.instanceMethod yX6_append ∈ XW := xw_t2 7 rfl rfl
theorem wd_279 : Cond.selects RX6 yX6_append yX6_append ∈ XW := xw_t2 8 rfl rfl
theorem wd_280 : Cond.code yX7_layText cX7_layText 1 (some .int) ∈ XW := xw_t2 13 rfl rfl
theorem wd_281 : Cond.methodLink RX7 66 yX7_layText ∈ XW := xw_t2 10 rfl rfl
theorem wd_282 : Cond.instanceMethod yX7_layText ∈ XW := xw_t2 12 rfl rfl
theorem wd_283 : Cond.selects RX7 yX7_layText yX7_layText ∈ XW := xw_p 0 _ rfl rfl
theorem wd_284 : Cond.fieldLink RX7 69 "ContentRows$Text" "length" "I" ∈ XW := xw_t1 34 rfl rfl
theorem wd_285 : Cond.code yX7_readText cX7_readText 4 (some .int) ∈ XW := xw_t2 17 rfl rfl
theorem wd_286 : Cond.methodLink RX7 72 yX7_readText ∈ XW := xw_t2 14 rfl rfl
theorem wd_287 : Cond.instanceMethod yX7_readText ∈ XW := xw_t2 16 rfl rfl
theorem wd_288 : Cond.selects RX7 yX7_readText yX7_readText ∈ XW := xw_p 1 _ rfl rfl
theorem wd_289 : Cond.code yX7_tryRule cX7_tryRule 9 (some .int) ∈ XW := xw_t2 154 rfl rfl
theorem wd_290 : Cond.methodLink RX7 75 yX7_tryRule ∈ XW := xw_t2 151 rfl rfl
theorem wd_291 : Cond.instanceMethod yX7_tryRule ∈ XW := xw_t2 153 rfl rfl
theorem wd_292 : Cond.selects RX7 yX7_tryRule yX7_tryRule ∈ XW := xw_p 7 _ rfl rfl
theorem wd_293 : Cond.code yX2_keep cX2_keep 2 none ∈ XW := xw_t2 230 rfl rfl
theorem wd_294 : Cond.methodLink RX7 79 yX2_keep ∈ XW := xw_t2 227 rfl rfl
theorem wd_295 : Cond.instanceMethod yX2_keep ∈ XW := xw_t2 228 rfl rfl
theorem wd_296 : Cond.selects RX2 yX2_keep yX2_keep ∈ XW := xw_t2 229 rfl rfl
theorem wd_297 : Cond.methodLink RX7 83 yX0_copyFrom ∈ XW := xw_t2 92 rfl rfl
theorem wd_298 : Cond.code yX1_copyFrom cX1_copyFrom 2 none ∈ XW := xw_t2 236 rfl rfl
theorem wd_299 : Cond.methodLink RX7 86 yX1_copyFrom ∈ XW := xw_t2 233 rfl rfl
theorem wd_300 : Cond.instanceMethod yX1_copyFrom ∈ XW := xw_t2 234 rfl rfl
theorem wd_301 : Cond.selects RX1 yX1_copyFrom yX1_copyFrom ∈ XW := xw_t2 235 rfl rfl
theorem wd_302 : Cond.code yX7_isRule cX7_isRule 2 (some .boolean) ∈ XW := xw_t3 5 rfl rfl
theorem wd_303 : Cond.methodLink RX7 89 yX7_isRule ∈ XW := xw_t3 2 rfl rfl
theorem wd_304 : Cond.instanceMethod yX7_isRule ∈ XW := xw_t3 4 rfl rfl
theorem wd_305 : Cond.selects RX7 yX7_isRule yX7_isRule ∈ XW := xw_p 8 _ rfl rfl
theorem wd_306 : Cond.code yX0_removeRule cX0_removeRule 2 none ∈ XW := xw_t3 9 rfl rfl
theorem wd_307 : Cond.methodLink RX7 92 yX0_removeRule ∈ XW := xw_t3 6 rfl rfl
theorem wd_308 : Cond.instanceMethod yX0_removeRule ∈ XW := xw_t3 7 rfl rfl
theorem wd_309 : Cond.selects RX0 yX0_removeRule yX0_removeRule ∈ XW := xw_t3 8 rfl rfl
theorem wd_310 : Cond.fieldLink RX7 96 "ContentRows$Board" "rules" "LContentRows$RuleList;" ∈ XW := xw_t1 150 rfl rfl
theorem wd_311 : Cond.fieldLink RX7 100 "ContentRows$RuleList" "size" "I" ∈ XW := xw_t1 86 rfl rfl
theorem wd_312 : Cond.code yX3_coveredRules cX3_coveredRules 3 (some .int) ∈ XW := xw_t3 25 rfl rfl
theorem wd_313 : Cond.methodLink RX7 105 yX3_coveredRules ∈ XW := xw_t3 22 rfl rfl
theorem wd_314 : Cond.instanceMethod yX3_coveredRules ∈ XW := xw_t3 23 rfl rfl
theorem wd_315 : Cond.selects RX3 yX3_coveredRules yX3_coveredRules ∈ XW := xw_t3 24 rfl rfl
theorem wd_316 : Cond.methodLink RX7 108 yX3_isCovered ∈ XW := xw_t3 42 rfl rfl
theorem wd_317 : Cond.code yX0_packRows cX0_packRows 4 none ∈ XW := xw_t2 76 rfl rfl
theorem wd_318 : Cond.methodLink RX7 111 yX0_packRows ∈ XW := xw_t2 73 rfl rfl
theorem wd_319 : Cond.instanceMethod yX0_packRows ∈ XW := xw_t2 74 rfl rfl
theorem wd_320 : Cond.selects RX0 yX0_packRows yX0_packRows ∈ XW := xw_t2 75 rfl rfl
theorem wd_321 : Cond.fieldLink RX7 114 "ContentRows$Board" "table" "LContentRows$Table;" ∈ XW := xw_t1 152 rfl rfl
theorem wd_322 : Cond.code yX5_rowsNotAsIn cX5_rowsNotAsIn 5 (some .int) ∈ XW := xw_t3 50 rfl rfl
theorem wd_323 : Cond.methodLink RX7 118 yX5_rowsNotAsIn ∈ XW := xw_t3 47 rfl rfl
theorem wd_324 : Cond.instanceMethod yX5_rowsNotAsIn ∈ XW := xw_t3 48 rfl rfl
theorem wd_325 : Cond.selects RX5 yX5_rowsNotAsIn yX5_rowsNotAsIn ∈ XW := xw_t3 49 rfl rfl
theorem wd_326 : Cond.methodLink RX7 124 yX7_isSlot ∈ XW := xw_t3 55 rfl rfl
theorem wd_327 : Cond.methodLink RX7 127 yX5_isEmpty ∈ XW := xw_t2 214 rfl rfl
theorem wd_328 : Cond.code yX5_isOpen cX5_isOpen 3 (some .boolean) ∈ XW := xw_t3 61 rfl rfl
theorem wd_329 : Cond.methodLink RX7 130 yX5_isOpen ∈ XW := xw_t3 58 rfl rfl
theorem wd_330 : Cond.instanceMethod yX5_isOpen ∈ XW := xw_t3 59 rfl rfl
theorem wd_331 : Cond.selects RX5 yX5_isOpen yX5_isOpen ∈ XW := xw_t3 60 rfl rfl
theorem wd_332 : Cond.code yX5_shift cX5_shift 3 none ∈ XW := xw_t2 204 rfl rfl
theorem wd_333 : Cond.methodLink RX7 134 yX5_shift ∈ XW := xw_t2 201 rfl rfl
theorem wd_334 : Cond.instanceMethod yX5_shift ∈ XW := xw_t2 202 rfl rfl
theorem wd_335 : Cond.selects RX5 yX5_shift yX5_shift ∈ XW := xw_t2 203 rfl rfl
theorem wd_336 : Cond.methodLink RX7 138 yX5_rowsBetween ∈ XW := xw_t3 62 rfl rfl
theorem wd_337 : Cond.fieldLink RX7 142 "ContentRows$Past" "size" "I" ∈ XW := xw_t1 189 rfl rfl
theorem wd_338 : Cond.code yX2_giveBack cX2_giveBack 2 none ∈ XW := xw_t3 70 rfl rfl
theorem wd_339 : Cond.methodLink RX7 143 yX2_giveBack ∈ XW := xw_t3 67 rfl rfl
theorem wd_340 : Cond.instanceMethod yX2_giveBack ∈ XW := xw_t3 68 rfl rfl
theorem wd_341 : Cond.selects RX2 yX2_giveBack yX2_giveBack ∈ XW := xw_t3 69 rfl rfl
theorem wd_342 : Cond.fieldLink RX7 146 "ContentRows$RuleList" "ranks" "[I" ∈ XW := xw_t1 89 rfl rfl
theorem wd_343 : Cond.fieldLink RX7 150 "ContentRows$RuleList" "heads" "[I" ∈ XW := xw_t1 91 rfl rfl
theorem wd_344 : Cond.fieldLink RX7 153 "ContentRows$RuleList" "firsts" "[I" ∈ XW := xw_t1 98 rfl rfl
theorem wd_345 : Cond.fieldLink RX7 156 "ContentRows$RuleList" "lasts" "[I" ∈ XW := xw_t1 101 rfl rfl
theorem wd_346 : Cond.fieldLink RX7 159 "ContentRows$RuleList" "answers" "[I" ∈ XW := xw_t1 103 rfl rfl
theorem wd_347 : Cond.methodLink RX7 162 yX3_rowsOf ∈ XW := xw_t3 75 rfl rfl
theorem wd_348 : Cond.code yX3_keysHadBy cX3_keysHadBy 4 (some .int) ∈ XW := xw_t3 79 rfl rfl
theorem wd_349 : Cond.methodLink RX7 166 yX3_keysHadBy ∈ XW := xw_t3 76 rfl rfl
theorem wd_350 : Cond.instanceMethod yX3_keysHadBy ∈ XW := xw_t3 77 rfl rfl
theorem wd_351 : Cond.selects RX3 yX3_keysHadBy yX3_keysHadBy ∈ XW := xw_t3 78 rfl rfl
theorem wd_352 : Cond.code yX3_keysAnsweredBy cX3_keysAnsweredBy 4 (some .int) ∈ XW := xw_t3 83 rfl rfl
theorem wd_353 : Cond.methodLink RX7 169 yX3_keysAnsweredBy ∈ XW := xw_t3 80 rfl rfl
theorem wd_354 : Cond.instanceMethod yX3_keysAnsweredBy ∈ XW := xw_t3 81 rfl rfl
theorem wd_355 : Cond.selects RX3 yX3_keysAnsweredBy yX3_keysAnsweredBy ∈ XW := xw_t3 82 rfl rfl
theorem wd_356 : Cond.methodLink RX7 172 yX3_isIdle ∈ XW := xw_t3 84 rfl rfl
theorem wd_357 : Cond.fieldLink RX7 175 "ContentRows$MoveLog" "size" "I" ∈ XW := xw_t1 169 rfl rfl
theorem wd_358 : Cond.fieldLink RX7 176 "ContentRows$MoveLog" "from" "[I" ∈ XW := xw_t1 165 rfl rfl
theorem wd_359 : Cond.fieldLink RX7 179 "ContentRows$MoveLog" "to" "[I" ∈ XW := xw_t1 167 rfl rfl
theorem wd_360 : Cond.methodLink RX7 182 yX0_ruleOf ∈ XW := xw_t3 104 rfl rfl
theorem wd_361 : Cond.fieldLink RX7 185 "ContentRows$Table" "pieces" "[I" ∈ XW := xw_t1 137 rfl rfl
theorem wd_362 : Cond.code yX5_signsOf cX5_signsOf 5 (some .int) ∈ XW := xw_t3 113 rfl rfl
theorem wd_363 : Cond.methodLink RX7 188 yX5_signsOf ∈ XW := xw_t3 110 rfl rfl
theorem wd_364 : Cond.instanceMethod yX5_signsOf ∈ XW := xw_t3 111 rfl rfl
theorem wd_365 : Cond.selects RX5 yX5_signsOf yX5_signsOf ∈ XW := xw_t3 112 rfl rfl
theorem wd_366 : Cond.code yX5_keysAnsweredBy cX5_keysAnsweredBy 4 (some .int) ∈ XW := xw_t3 117 rfl rfl
theorem wd_367 : Cond.methodLink RX7 191 yX5_keysAnsweredBy ∈ XW := xw_t3 114 rfl rfl
theorem wd_368 : Cond.instanceMethod yX5_keysAnsweredBy ∈ XW := xw_t3 115 rfl rfl
theorem wd_369 : Cond.selects RX5 yX5_keysAnsweredBy yX5_keysAnsweredBy ∈ XW := xw_t3 116 rfl rfl
theorem wd_370 : Cond.code yX5_lowestOpen cX5_lowestOpen 4 (some .int) ∈ XW := xw_t2 188 rfl rfl
theorem wd_371 : Cond.methodLink RX7 192 yX5_lowestOpen ∈ XW := xw_t2 185 rfl rfl
theorem wd_372 : Cond.instanceMethod yX5_lowestOpen ∈ XW := xw_t2 186 rfl rfl
theorem wd_373 : Cond.selects RX5 yX5_lowestOpen yX5_lowestOpen ∈ XW := xw_t2 187 rfl rfl
theorem wd_374 : Cond.code yX5_highestOpen cX5_highestOpen 4 (some .int) ∈ XW := xw_t3 133 rfl rfl
theorem wd_375 : Cond.methodLink RX7 195 yX5_highestOpen ∈ XW := xw_t3 130 rfl rfl
theorem wd_376 : Cond.instanceMethod yX5_highestOpen ∈ XW := xw_t3 131 rfl rfl
theorem wd_377 : Cond.selects RX5 yX5_highestOpen yX5_highestOpen ∈ XW := xw_t3 132 rfl rfl
theorem wd_378 : Cond.code yX5_openSlots cX5_openSlots 5 (some .int) ∈ XW := xw_t3 137 rfl rfl
theorem wd_379 : Cond.methodLink RX7 198 yX5_openSlots ∈ XW := xw_t3 134 rfl rfl
theorem wd_380 : Cond.instanceMethod yX5_openSlots ∈ XW := xw_t3 135 rfl rfl
theorem wd_381 : Cond.selects RX5 yX5_openSlots yX5_openSlots ∈ XW := xw_t3 136 rfl rfl
theorem wd_382 : Cond.methodLink RX7 201 yX5_meets ∈ XW := xw_t3 142 rfl rfl
theorem wd_383 : Cond.code yX5_onlySignUnlike cX5_onlySignUnlike 4 (some .int) ∈ XW := xw_t3 150 rfl rfl
theorem wd_384 : Cond.methodLink RX7 204 yX5_onlySignUnlike ∈ XW := xw_t3 147 rfl rfl
theorem wd_385 : Cond.instanceMethod yX5_onlySignUnlike ∈ XW := xw_t3 148 rfl rfl
theorem wd_386 : Cond.selects RX5 yX5_onlySignUnlike yX5_onlySignUnlike ∈ XW := xw_t3 149 rfl rfl
theorem wd_387 : Cond.code yX0_answerOf cX0_answerOf 2 (some .int) ∈ XW := xw_t3 160 rfl rfl
theorem wd_388 : Cond.methodLink RX7 207 yX0_answerOf ∈ XW := xw_t3 157 rfl rfl
theorem wd_389 : Cond.instanceMethod yX0_answerOf ∈ XW := xw_t3 158 rfl rfl
theorem wd_390 : Cond.selects RX0 yX0_answerOf yX0_answerOf ∈ XW := xw_t3 159 rfl rfl
theorem wd_391 : Cond.methodLink RX7 210 yJ9_min_7cf53 ∈ XW := xw_t2 212 rfl rfl
theorem wd_392 : Cond.methodLink RX7 215 yJ9_max_7cf53 ∈ XW := xw_t2 213 rfl rfl
theorem wd_393 : Cond.code yX7_isSameJoined cX7_isSameJoined 6 (some .boolean) ∈ XW := xw_t3 166 rfl rfl
theorem wd_394 : Cond.methodLink RX7 218 yX7_isSameJoined ∈ XW := xw_t3 163 rfl rfl
theorem wd_395 : Cond.instanceMethod yX7_isSameJoined ∈ XW := xw_t3 165 rfl rfl
theorem wd_396 : Cond.selects RX7 yX7_isSameJoined yX7_isSameJoined ∈ XW := xw_p 9 _ rfl rfl
theorem wd_397 : Cond.methodLink RX7 222 yX5_answeringSlot ∈ XW := xw_t3 172 rfl rfl
theorem wd_398 : Cond.methodLink RX7 225 yX3_answeringRule ∈ XW := xw_t3 177 rfl rfl
theorem wd_399 : Cond.methodLink RX7 228 yX3_answerOf ∈ XW := xw_t3 178 rfl rfl
theorem wd_400 : Cond.code yX5_rowsThatFit cX5_rowsThatFit 4 (some .int) ∈ XW := xw_t3 182 rfl rfl
theorem wd_401 : Cond.methodLink RX7 229 yX5_rowsThatFit ∈ XW := xw_t3 179 rfl rfl
theorem wd_402 : Cond.instanceMethod yX5_rowsThatFit ∈ XW := xw_t3 180 rfl rfl
theorem wd_403 : Cond.selects RX5 yX5_rowsThatFit yX5_rowsThatFit ∈ XW := xw_t3 181 rfl rfl
theorem wd_404 : Cond.code yX3_rulesThatHave cX3_rulesThatHave 4 (some .int) ∈ XW := xw_t3 186 rfl rfl
theorem wd_405 : Cond.methodLink RX7 232 yX3_rulesThatHave ∈ XW := xw_t3 183 rfl rfl
theorem wd_406 : Cond.instanceMethod yX3_rulesThatHave ∈ XW := xw_t3 184 rfl rfl
theorem wd_407 : Cond.selects RX3 yX3_rulesThatHave yX3_rulesThatHave ∈ XW := xw_t3 185 rfl rfl
theorem wd_408 : Cond.methodLink RX7 235 yX5_blocksOn ∈ XW := xw_t3 187 rfl rfl
theorem wd_409 : Cond.code yX0_keysWithoutAnswer cX0_keysWithoutAnswer 3 (some .int) ∈ XW := xw_t3 198 rfl rfl
theorem wd_410 : Cond.methodLink RX7 238 yX0_keysWithoutAnswer ∈ XW := xw_t3 195 rfl rfl
theorem wd_411 : Cond.instanceMethod yX0_keysWithoutAnswer ∈ XW := xw_t3 196 rfl rfl
theorem wd_412 : Cond.selects RX0 yX0_keysWithoutAnswer yX0_keysWithoutAnswer ∈ XW := xw_t3 197 rfl rfl
theorem wd_413 : Cond.code yX0_keysAnsweredOtherwise cX0_keysAnsweredOtherwise 3 (some .int) ∈ XW := xw_t3 203 rfl rfl
theorem wd_414 : Cond.methodLink RX7 241 yX0_keysAnsweredOtherwise ∈ XW := xw_t3 200 rfl rfl
theorem wd_415 : Cond.instanceMethod yX0_keysAnsweredOtherwise ∈ XW := xw_t3 201 rfl rfl
theorem wd_416 : Cond.selects RX0 yX0_keysAnsweredOtherwise yX0_keysAnsweredOtherwise ∈ XW := xw_t3 202 rfl rfl
theorem wd_417 : Cond.code yX5_allBlocksOn cX5_allBlocksOn 3 (some .int) ∈ XW := xw_t3 208 rfl rfl
theorem wd_418 : Cond.methodLink RX7 244 yX5_allBlocksOn ∈ XW := xw_t3 205 rfl rfl
theorem wd_419 : Cond.instanceMethod yX5_allBlocksOn ∈ XW := xw_t3 206 rfl rfl
theorem wd_420 : Cond.selects RX5 yX5_allBlocksOn yX5_allBlocksOn ∈ XW := xw_t3 207 rfl rfl
theorem wd_421 : Cond.code yX5_mostBlocksOn cX5_mostBlocksOn 3 (some .int) ∈ XW := xw_t3 213 rfl rfl
theorem wd_422 : Cond.methodLink RX7 247 yX5_mostBlocksOn ∈ XW := xw_t3 210 rfl rfl
theorem wd_423 : Cond.instanceMethod yX5_mostBlocksOn ∈ XW := xw_t3 211 rfl rfl
theorem wd_424 : Cond.selects RX5 yX5_mostBlocksOn yX5_mostBlocksOn ∈ XW := xw_t3 212 rfl rfl
theorem wd_425 : Cond.code yX5_rows cX5_rows 1 (some .int) ∈ XW := xw_t2 162 rfl rfl
theorem wd_426 : Cond.methodLink RX7 250 yX5_rows ∈ XW := xw_t2 159 rfl rfl
theorem wd_427 : Cond.instanceMethod yX5_rows ∈ XW := xw_t2 160 rfl rfl
theorem wd_428 : Cond.selects RX5 yX5_rows yX5_rows ∈ XW := xw_t2 161 rfl rfl
theorem wd_429 : Cond.code yX3_idleRules cX3_idleRules 3 (some .int) ∈ XW := xw_t3 221 rfl rfl
theorem wd_430 : Cond.methodLink RX7 253 yX3_idleRules ∈ XW := xw_t3 218 rfl rfl
theorem wd_431 : Cond.instanceMethod yX3_idleRules ∈ XW := xw_t3 219 rfl rfl
theorem wd_432 : Cond.selects RX3 yX3_idleRules yX3_idleRules ∈ XW := xw_t3 220 rfl rfl
theorem wd_433 : Cond.code yX5_pairsThatMeet cX5_pairsThatMeet 5 (some .int) ∈ XW := xw_t3 226 rfl rfl
theorem wd_434 : Cond.methodLink RX7 256 yX5_pairsThatMeet ∈ XW := xw_t3 223 rfl rfl
theorem wd_435 : Cond.instanceMethod yX5_pairsThatMeet ∈ XW := xw_t3 224 rfl rfl
theorem wd_436 : Cond.selects RX5 yX5_pairsThatMeet yX5_pairsThatMeet ∈ XW := xw_t3 225 rfl rfl
theorem wd_437 : Cond.code yX5_differentRows cX5_differentRows 3 (some .int) ∈ XW := xw_t3 230 rfl rfl
theorem wd_438 : Cond.methodLink RX7 259 yX5_differentRows ∈ XW := xw_t3 227 rfl rfl
theorem wd_439 : Cond.instanceMethod yX5_differentRows ∈ XW := xw_t3 228 rfl rfl
theorem wd_440 : Cond.selects RX5 yX5_differentRows yX5_differentRows ∈ XW := xw_t3 229 rfl rfl
theorem wd_441 : Cond.code yX4_reads cX4_reads 3 (some .boolean) ∈ XW := xw_t2 21 rfl rfl
theorem wd_442 : Cond.methodLink RX7 262 yX4_reads ∈ XW := xw_t2 18 rfl rfl
theorem wd_443 : Cond.instanceMethod yX4_reads ∈ XW := xw_t2 19 rfl rfl
theorem wd_444 : Cond.selects RX4 yX4_reads yX4_reads ∈ XW := xw_t2 20 rfl rfl
theorem wd_445 : Cond.fieldLink RX7 266 "ContentRows$RuleReader" "rank" "I" ∈ XW := xw_t1 50 rfl rfl
theorem wd_446 : Cond.methodLink RX7 269 yX3_numberOf ∈ XW := xw_t2 48 rfl rfl
theorem wd_447 : Cond.fieldLink RX7 272 "ContentRows$RuleReader" "head" "I" ∈ XW := xw_t1 52 rfl rfl
theorem wd_448 : Cond.fieldLink RX7 275 "ContentRows$RuleReader" "first" "I" ∈ XW := xw_t1 54 rfl rfl
theorem wd_449 : Cond.fieldLink RX7 278 "ContentRows$RuleReader" "last" "I" ∈ XW := xw_t1 56 rfl rfl
theorem wd_450 : Cond.fieldLink RX7 281 "ContentRows$RuleReader" "answer" "I" ∈ XW := xw_t1 58 rfl rfl
theorem wd_451 : Cond.code yX3_append cX3_append 6 none ∈ XW := xw_t2 55 rfl rfl
theorem wd_452 : Cond.methodLink RX7 284 yX3_append ∈ XW := xw_t2 52 rfl rfl
theorem wd_453 : Cond.instanceMethod yX3_append ∈ XW := xw_t2 53 rfl rfl
theorem wd_454 : Cond.selects RX3 yX3_append yX3_append ∈ XW := xw_t2 54 rfl rfl
theorem wd_455 : Cond.fieldLink RX7 287 "ContentRows$RuleReader" "at" "I" ∈ XW := xw_t1 48 rfl rfl
theorem wd_456 : Cond.code yX3_allRows cX3_allRows 3 (some .int) ∈ XW := xw_t2 62 rfl rfl
theorem wd_457 : Cond.methodLink RX7 290 yX3_allRows ∈ XW := xw_t2 59 rfl rfl
theorem wd_458 : Cond.instanceMethod yX3_allRows ∈ XW := xw_t2 60 rfl rfl
theorem wd_459 : Cond.selects RX3 yX3_allRows yX3_allRows ∈ XW := xw_t2 61 rfl rfl
theorem wd_460 : Cond.code yX7_isHead cX7_isHead 1 (some .boolean) ∈ XW := xw_t2 157 rfl rfl
theorem wd_461 : Cond.methodLink RX7 293 yX7_isHead ∈ XW := xw_t2 155 rfl rfl
theorem wd_462 : Cond.static yX7_isHead ∈ XW := xw_t2 156 rfl rfl
theorem wd_463 : Cond.methodLink RX7 296 yX7_isSpan ∈ XW := xw_t2 158 rfl rfl
theorem wd_464 : Cond.methodLink RX7 299 yX7_rowsOfSpan ∈ XW := xw_t2 177 rfl rfl
theorem wd_465 : Cond.methodLink RX7 302 yX0_putRow ∈ XW := xw_t2 178 rfl rfl
theorem wd_466 : Cond.code yX7_letComeIn cX7_letComeIn 3 (some .boolean) ∈ XW := xw_t2 181 rfl rfl
theorem wd_467 : Cond.methodLink RX7 306 yX7_letComeIn ∈ XW := xw_t2 179 rfl rfl
theorem wd_468 : Cond.static yX7_letComeIn ∈ XW := xw_t2 180 rfl rfl
theorem wd_469 : Cond.methodLink RX7 310 yX7_pieceSize ∈ XW := xw_t2 70 rfl rfl
theorem wd_470 : Cond.code yX7_comesInBy cX7_comesInBy 7 (some .boolean) ∈ XW := xw_t2 184 rfl rfl
theorem wd_471 : Cond.methodLink RX7 313 yX7_comesInBy ∈ XW := xw_t2 182 rfl rfl
theorem wd_472 : Cond.static yX7_comesInBy ∈ XW := xw_t2 183 rfl rfl
theorem wd_473 : Cond.methodLink RX7 317 yX5_floorOf ∈ XW := xw_t2 210 rfl rfl
theorem wd_474 : Cond.methodLink RX7 320 yX5_ceilingOf ∈ XW := xw_t2 211 rfl rfl
theorem wd_475 : Cond.code yX7_comesInBehindMoveOf cX7_comesInBehindMoveOf 6 (some .boolean) ∈ XW := xw_t2 217 rfl rfl
theorem wd_476 : Cond.methodLink RX7 323 yX7_comesInBehindMoveOf ∈ XW := xw_t2 215 rfl rfl
theorem wd_477 : Cond.static yX7_comesInBehindMoveOf ∈ XW := xw_t2 216 rfl rfl
theorem wd_478 : Cond.code yX1_append cX1_append 3 none ∈ XW := xw_t2 221 rfl rfl
theorem wd_479 : Cond.methodLink RX7 327 yX1_append ∈ XW := xw_t2 218 rfl rfl
theorem wd_480 : Cond.instanceMethod yX1_append ∈ XW := xw_t2 219 rfl rfl
theorem wd_481 : Cond.selects RX1 yX1_append yX1_append ∈ XW := xw_t2 220 rfl rfl
theorem wd_482 : Cond.code yX1_removeLast cX1_removeLast 1 none ∈ XW := xw_t2 225 rfl rfl
theorem wd_483 : Cond.methodLink RX7 329 yX1_removeLast ∈ XW := xw_t2 222 rfl rfl
theorem wd_484 : Cond.instanceMethod yX1_removeLast ∈ XW := xw_t2 223 rfl rfl
theorem wd_485 : Cond.selects RX1 yX1_removeLast yX1_removeLast ∈ XW := xw_t2 224 rfl rfl
theorem wd_486 : Cond.code yX5_loosen cX5_loosen 3 none ∈ XW := xw_t3 170 rfl rfl
theorem wd_487 : Cond.methodLink RX7 332 yX5_loosen ∈ XW := xw_t3 167 rfl rfl
theorem wd_488 : Cond.instanceMethod yX5_loosen ∈ XW := xw_t3 168 rfl rfl
theorem wd_489 : Cond.selects RX5 yX5_loosen yX5_loosen ∈ XW := xw_t3 169 rfl rfl
theorem wd_490 : Cond.methodLink RX7 335 yX5_clear ∈ XW := xw_t3 171 rfl rfl
theorem wd_491 : Cond.methodLink RX8 1 objectInit ∈ XW := xw_t4 0 rfl rfl
theorem wd_492 : Cond.fieldLink RX8 7 "ContentRowsModel" "now" "[I" ∈ XW := xw_t4 22 rfl rfl
theorem wd_493 : Cond.fieldLink RX8 13 "ContentRowsModel" "changes" "[I" ∈ XW := xw_t4 23 rfl rfl
theorem wd_494 : Cond.fieldLink RX8 16 "ContentRowsModel" "fresh" "[I" ∈ XW := xw_t4 26 rfl rfl
theorem wd_495 : Cond.fieldLink RX8 19 "ContentRowsModel" "mask" "[I" ∈ XW := xw_t4 27 rfl rfl
theorem wd_496 : Cond.fieldLink RX8 22 "ContentRowsModel" "text" "[I" ∈ XW := xw_t4 28 rfl rfl
theorem wd_497 : Cond.arrayClass .boolean ∈ XW := xw_t4 83 rfl rfl
theorem wd_498 : Cond.fieldLink RX8 25 "ContentRowsModel" "told" "[Z" ∈ XW := xw_t4 33 rfl rfl
theorem wd_499 : Cond.fieldLink RX8 29 "ContentRowsModel" "tried" "[I" ∈ XW := xw_t4 34 rfl rfl
theorem wd_500 : Cond.fieldLink RX8 32 "ContentRowsModel" "moveFrom" "[I" ∈ XW := xw_t4 36 rfl rfl
theorem wd_501 : Cond.fieldLink RX8 35 "ContentRowsModel" "moveTo" "[I" ∈ XW := xw_t4 37 rfl rfl
theorem wd_502 : Cond.fieldLink RX8 38 "ContentRowsModel" "newFrom" "[I" ∈ XW := xw_t4 39 rfl rfl
theorem wd_503 : Cond.fieldLink RX8 41 "ContentRowsModel" "newTo" "[I" ∈ XW := xw_t4 40 rfl rfl
theorem wd_504 : Cond.fieldLink RX8 44 "ContentRowsModel" "before" "[I" ∈ XW := xw_t4 41 rfl rfl
theorem wd_505 : Cond.code yX8_clears cX8_clears 2 none ∈ XW := xw_t4 3 rfl rfl
theorem wd_506 : Cond.methodLink RX8 47 yX8_clears ∈ XW := xw_t4 1 rfl rfl
theorem wd_507 : Cond.initialized RX8 ∈ XW := xw_t1 15 rfl rfl
theorem wd_508 : Cond.static yX8_clears ∈ XW := xw_t4 2 rfl rfl
theorem wd_509 : Cond.code yX8_comes cX8_comes 7 none ∈ XW := xw_t4 9 rfl rfl
theorem wd_510 : Cond.methodLink RX8 51 yX8_comes ∈ XW := xw_t4 7 rfl rfl
theorem wd_511 : Cond.static yX8_comes ∈ XW := xw_t4 8 rfl rfl
theorem wd_512 : Cond.code yX8_packs cX8_packs 5 none ∈ XW := xw_t4 12 rfl rfl
theorem wd_513 : Cond.methodLink RX8 55 yX8_packs ∈ XW := xw_t4 10 rfl rfl
theorem wd_514 : Cond.static yX8_packs ∈ XW := xw_t4 11 rfl rfl
theorem wd_515 : Cond.code yX8_in cX8_in 3 (some .boolean) ∈ XW := xw_t4 6 rfl rfl
theorem wd_516 : Cond.methodLink RX8 58 yX8_in ∈ XW := xw_t4 4 rfl rfl
theorem wd_517 : Cond.static yX8_in ∈ XW := xw_t4 5 rfl rfl
theorem wd_518 : Cond.code yX8_pieceFrom cX8_pieceFrom 3 (some .int) ∈ XW := xw_t4 21 rfl rfl
theorem wd_519 : Cond.methodLink RX8 62 yX8_pieceFrom ∈ XW := xw_t4 19 rfl rfl
theorem wd_520 : Cond.static yX8_pieceFrom ∈ XW := xw_t4 20 rfl rfl
theorem wd_521 : Cond.code yX8_pieceOf cX8_pieceOf 5 (some .int) ∈ XW := xw_t4 152 rfl rfl
theorem wd_522 : Cond.methodLink RX8 66 yX8_pieceOf ∈ XW := xw_t4 150 rfl rfl
theorem wd_523 : Cond.static yX8_pieceOf ∈ XW := xw_t4 151 rfl rfl
theorem wd_524 : Cond.code yX8_signOf cX8_signOf 6 (some .int) ∈ XW := xw_t4 149 rfl rfl
theorem wd_525 : Cond.methodLink RX8 70 yX8_signOf ∈ XW := xw_t4 147 rfl rfl
theorem wd_526 : Cond.static yX8_signOf ∈ XW := xw_t4 148 rfl rfl
theorem wd_527 : Cond.code yX8_maskOf cX8_maskOf 7 (some .int) ∈ XW := xw_t4 146 rfl rfl
theorem wd_528 : Cond.methodLink RX8 74 yX8_maskOf ∈ XW := xw_t4 144 rfl rfl
theorem wd_529 : Cond.static yX8_maskOf ∈ XW := xw_t4 145 rfl rfl
theorem wd_530 : Cond.code yX8_has cX8_has 7 (some .boolean) ∈ XW := xw_t4 218 rfl rfl
theorem wd_531 : Cond.methodLink RX8 77 yX8_has ∈ XW := xw_t4 216 rfl rfl
theorem wd_532 : Cond.static yX8_has ∈ XW := xw_t4 217 rfl rfl
theorem wd_533 : Cond.code yX8_listRule cX8_listRule 5 (some .int) ∈ XW := xw_t4 222 rfl rfl
theorem wd_534 : Cond.methodLink RX8 81 yX8_listRule ∈ XW := xw_t4 219 rfl rfl
theorem wd_535 : Cond.instanceMethod yX8_listRule ∈ XW := xw_t4 221 rfl rfl
theorem wd_536 : Cond.selects RX8 yX8_listRule yX8_listRule ∈ XW := xw_p 31 _ rfl rfl
theorem wd_537 : Cond.code yX8_answerBy cX8_answerBy 2 (some .int) ∈ XW := xw_t5 12 rfl rfl
theorem wd_538 : Cond.methodLink RX8 84 yX8_answerBy ∈ XW := xw_t5 9 rfl rfl
theorem wd_539 : Cond.instanceMethod yX8_answerBy ∈ XW := xw_t5 11 rfl rfl
theorem wd_540 : Cond.selects RX8 yX8_answerBy yX8_answerBy ∈ XW := xw_p 34 _ rfl rfl
theorem wd_541 : Cond.fieldLink RX8 88 "ContentRowsModel" "letterMany" "I" ∈ XW := xw_t4 29 rfl rfl
theorem wd_542 : Cond.fieldLink RX8 92 "ContentRowsModel" "readAt" "I" ∈ XW := xw_t4 30 rfl rfl
theorem wd_543 : Cond.code yX8_here cX8_here 1 (some .int) ∈ XW := xw_t4 107 rfl rfl
theorem wd_544 : Cond.methodLink RX8 95 yX8_here ∈ XW := xw_t4 104 rfl rfl
theorem wd_545 : Cond.instanceMethod yX8_here ∈ XW := xw_t4 106 rfl rfl
theorem wd_546 : Cond.selects RX8 yX8_here yX8_here ∈ XW := xw_p 13 _ rfl rfl
theorem wd_547 : Cond.fieldLink RX8 99 "ContentRowsModel" "number" "I" ∈ XW := xw_t4 31 rfl rfl
theorem wd_548 : Cond.code yX8_isNumber cX8_isNumber 4 (some .boolean) ∈ XW := xw_t4 103 rfl rfl
theorem wd_549 : Cond.methodLink RX8 102 yX8_isNumber ∈ XW := xw_t4 100 rfl rfl
theorem wd_550 : Cond.instanceMethod yX8_isNumber ∈ XW := xw_t4 102 rfl rfl
theorem wd_551 : Cond.selects RX8 yX8_isNumber yX8_isNumber ∈ XW := xw_p 12 _ rfl rfl
theorem wd_552 : Cond.code yX8_takes cX8_takes 3 (some .boolean) ∈ XW := xw_t4 111 rfl rfl
theorem wd_553 : Cond.methodLink RX8 106 yX8_takes ∈ XW := xw_t4 108 rfl rfl
theorem wd_554 : Cond.instanceMethod yX8_takes ∈ XW := xw_t4 110 rfl rfl
theorem wd_555 : Cond.selects RX8 yX8_takes yX8_takes ∈ XW := xw_p 14 _ rfl rfl
theorem wd_556 : Cond.code yX8_isSign cX8_isSign 2 (some .boolean) ∈ XW := xw_t4 115 rfl rfl
theorem wd_557 : Cond.methodLink RX8 110 yX8_isSign ∈ XW := xw_t4 112 rfl rfl
theorem wd_558 : Cond.instanceMethod yX8_isSign ∈ XW := xw_t4 114 rfl rfl
theorem wd_559 : Cond.selects RX8 yX8_isSign yX8_isSign ∈ XW := xw_p 15 _ rfl rfl
theorem wd_560 : Cond.code yX8_isTold cX8_isTold 2 (some .boolean) ∈ XW := xw_t4 119 rfl rfl
theorem wd_561 : Cond.methodLink RX8 114 yX8_isTold ∈ XW := xw_t4 116 rfl rfl
theorem wd_562 : Cond.instanceMethod yX8_isTold ∈ XW := xw_t4 118 rfl rfl
theorem wd_563 : Cond.selects RX8 yX8_isTold yX8_isTold ∈ XW := xw_p 16 _ rfl rfl
theorem wd_564 : Cond.fieldLink RX8 117 "ContentRowsModel" "newRows" "I" ∈ XW := xw_t4 32 rfl rfl
theorem wd_565 : Cond.code yX8_rowsOf cX8_rowsOf 4 (some .int) ∈ XW := xw_t4 18 rfl rfl
theorem wd_566 : Cond.methodLink RX8 120 yX8_rowsOf ∈ XW := xw_t4 16 rfl rfl
theorem wd_567 : Cond.static yX8_rowsOf ∈ XW := xw_t4 17 rfl rfl
theorem wd_568 : Cond.code yX8_readsRule cX8_readsRule 5 (some .boolean) ∈ XW := xw_t4 99 rfl rfl
theorem wd_569 : Cond.methodLink RX8 124 yX8_readsRule ∈ XW := xw_t4 96 rfl rfl
theorem wd_570 : Cond.instanceMethod yX8_readsRule ∈ XW := xw_t4 98 rfl rfl
theorem wd_571 : Cond.selects RX8 yX8_readsRule yX8_readsRule ∈ XW := xw_p 11 _ rfl rfl
theorem wd_572 : Cond.code yX8_fault cX8_fault 2 (some .int) ∈ XW := xw_t4 95 rfl rfl
theorem wd_573 : Cond.methodLink RX8 127 yX8_fault ∈ XW := xw_t4 124 rfl rfl
theorem wd_574 : Cond.instanceMethod yX8_fault ∈ XW := xw_t4 93 rfl rfl
theorem wd_575 : Cond.selects RX8 yX8_fault yX8_fault ∈ XW := xw_t4 94 rfl rfl
theorem wd_576 : Cond.fieldLink RX8 130 "ContentRowsModel" "changeMany" "I" ∈ XW := xw_t4 24 rfl rfl
theorem wd_577 : Cond.fieldLink RX8 133 "ContentRowsModel" "moveMany" "I" ∈ XW := xw_t4 35 rfl rfl
theorem wd_578 : Cond.code yX8_ofRank cX8_ofRank 3 (some .int) ∈ XW := xw_t4 15 rfl rfl
theorem wd_579 : Cond.methodLink RX8 136 yX8_ofRank ∈ XW := xw_t4 13 rfl rfl
theorem wd_580 : Cond.static yX8_ofRank ∈ XW := xw_t4 14 rfl rfl
theorem wd_581 : Cond.fieldLink RX8 139 "ContentRowsModel" "changeAt" "I" ∈ XW := xw_t4 25 rfl rfl
theorem wd_582 : Cond.code yX8_doMeet cX8_doMeet 2 (some .boolean) ∈ XW := xw_t4 175 rfl rfl
theorem wd_583 : Cond.methodLink RX8 142 yX8_doMeet ∈ XW := xw_t4 173 rfl rfl
theorem wd_584 : Cond.static yX8_doMeet ∈ XW := xw_t4 174 rfl rfl
theorem wd_585 : Cond.code yX8_isInOrder cX8_isInOrder 8 (some .boolean) ∈ XW := xw_t4 172 rfl rfl
theorem wd_586 : Cond.methodLink RX8 145 yX8_isInOrder ∈ XW := xw_t4 169 rfl rfl
theorem wd_587 : Cond.instanceMethod yX8_isInOrder ∈ XW := xw_t4 171 rfl rfl
theorem wd_588 : Cond.selects RX8 yX8_isInOrder yX8_isInOrder ∈ XW := xw_p 23 _ rfl rfl
theorem wd_589 : Cond.code yX8_placeFor cX8_placeFor 4 (some .int) ∈ XW := xw_t4 168 rfl rfl
theorem wd_590 : Cond.methodLink RX8 149 yX8_placeFor ∈ XW := xw_t4 165 rfl rfl
theorem wd_591 : Cond.instanceMethod yX8_placeFor ∈ XW := xw_t4 167 rfl rfl
theorem wd_592 : Cond.selects RX8 yX8_placeFor yX8_placeFor ∈ XW := xw_p 22 _ rfl rfl
theorem wd_593 : Cond.code yX8_moves cX8_moves 3 none ∈ XW := xw_t4 179 rfl rfl
theorem wd_594 : Cond.methodLink RX8 152 yX8_moves ∈ XW := xw_t4 176 rfl rfl
theorem wd_595 : Cond.instanceMethod yX8_moves ∈ XW := xw_t4 178 rfl rfl
theorem wd_596 : Cond.selects RX8 yX8_moves yX8_moves ∈ XW := xw_p 24 _ rfl rfl
theorem wd_597 : Cond.code yX8_mayMove cX8_mayMove 3 (some .boolean) ∈ XW := xw_t4 183 rfl rfl
theorem wd_598 : Cond.methodLink RX8 156 yX8_mayMove ∈ XW := xw_t4 180 rfl rfl
theorem wd_599 : Cond.instanceMethod yX8_mayMove ∈ XW := xw_t4 182 rfl rfl
theorem wd_600 : Cond.selects RX8 yX8_mayMove yX8_mayMove ∈ XW := xw_p 25 _ rfl rfl
theorem wd_601 : Cond.code yX8_placeBehind cX8_placeBehind 7 (some .int) ∈ XW := xw_t4 164 rfl rfl
theorem wd_602 : Cond.methodLink RX8 159 yX8_placeBehind ∈ XW := xw_t4 161 rfl rfl
theorem wd_603 : Cond.instanceMethod yX8_placeBehind ∈ XW := xw_t4 163 rfl rfl
theorem wd_604 : Cond.selects RX8 yX8_placeBehind yX8_placeBehind ∈ XW := xw_p 21 _ rfl rfl
theorem wd_605 : Cond.fieldLink RX8 163 "ContentRowsModel" "newMoves" "I" ∈ XW := xw_t4 38 rfl rfl
theorem wd_606 : Cond.code yX8_laysMasks cX8_laysMasks 2 none ∈ XW := xw_t4 143 rfl rfl
theorem wd_607 : Cond.methodLink RX8 166 yX8_laysMasks ∈ XW := xw_t4 140 rfl rfl
theorem wd_608 : Cond.instanceMethod yX8_laysMasks ∈ XW := xw_t4 142 rfl rfl
theorem wd_609 : Cond.selects RX8 yX8_laysMasks yX8_laysMasks ∈ XW := xw_p 18 _ rfl rfl
theorem wd_610 : Cond.code yX8_emptySlots cX8_emptySlots 3 (some .int) ∈ XW := xw_t4 156 rfl rfl
theorem wd_611 : Cond.methodLink RX8 169 yX8_emptySlots ∈ XW := xw_t4 153 rfl rfl
theorem wd_612 : Cond.instanceMethod yX8_emptySlots ∈ XW := xw_t4 155 rfl rfl
theorem wd_613 : Cond.selects RX8 yX8_emptySlots yX8_emptySlots ∈ XW := xw_p 19 _ rfl rfl
theorem wd_614 : Cond.code yX8_comesRow cX8_comesRow 7 (some .boolean) ∈ XW := xw_t4 160 rfl rfl
theorem wd_615 : Cond.methodLink RX8 172 yX8_comesRow ∈ XW := xw_t4 157 rfl rfl
theorem wd_616 : Cond.instanceMethod yX8_comesRow ∈ XW := xw_t4 159 rfl rfl
theorem wd_617 : Cond.selects RX8 yX8_comesRow yX8_comesRow ∈ XW := xw_p 20 _ rfl rfl
theorem wd_618 : Cond.code yX8_isRule cX8_isRule 6 (some .boolean) ∈ XW := xw_t4 135 rfl rfl
theorem wd_619 : Cond.methodLink RX8 175 yX8_isRule ∈ XW := xw_t4 133 rfl rfl
theorem wd_620 : Cond.static yX8_isRule ∈ XW := xw_t4 134 rfl rfl
theorem wd_621 : Cond.code yX8_comesRule cX8_comesRule 10 (some .boolean) ∈ XW := xw_t4 139 rfl rfl
theorem wd_622 : Cond.methodLink RX8 179 yX8_comesRule ∈ XW := xw_t4 136 rfl rfl
theorem wd_623 : Cond.instanceMethod yX8_comesRule ∈ XW := xw_t4 138 rfl rfl
theorem wd_624 : Cond.selects RX8 yX8_comesRule yX8_comesRule ∈ XW := xw_p 17 _ rfl rfl
theorem wd_625 : Cond.code yX8_putsBack cX8_putsBack 2 none ∈ XW := xw_t4 187 rfl rfl
theorem wd_626 : Cond.methodLink RX8 182 yX8_putsBack ∈ XW := xw_t4 184 rfl rfl
theorem wd_627 : Cond.instanceMethod yX8_putsBack ∈ XW := xw_t4 186 rfl rfl
theorem wd_628 : Cond.selects RX8 yX8_putsBack yX8_putsBack ∈ XW := xw_p 26 _ rfl rfl
theorem wd_629 : Cond.code yX8_isRuleNumber cX8_isRuleNumber 2 (some .boolean) ∈ XW := xw_t4 199 rfl rfl
theorem wd_630 : Cond.methodLink RX8 185 yX8_isRuleNumber ∈ XW := xw_t4 196 rfl rfl
theorem wd_631 : Cond.instanceMethod yX8_isRuleNumber ∈ XW := xw_t4 198 rfl rfl
theorem wd_632 : Cond.selects RX8 yX8_isRuleNumber yX8_isRuleNumber ∈ XW := xw_p 27 _ rfl rfl
theorem wd_633 : Cond.code yX8_remembers cX8_remembers 2 none ∈ XW := xw_t4 203 rfl rfl
theorem wd_634 : Cond.methodLink RX8 188 yX8_remembers ∈ XW := xw_t4 200 rfl rfl
theorem wd_635 : Cond.instanceMethod yX8_remembers ∈ XW := xw_t4 202 rfl rfl
theorem wd_636 : Cond.selects RX8 yX8_remembers yX8_remembers ∈ XW := xw_p 28 _ rfl rfl
theorem wd_637 : Cond.code yX8_goes cX8_goes 4 none ∈ XW := xw_t4 207 rfl rfl
theorem wd_638 : Cond.methodLink RX8 191 yX8_goes ∈ XW := xw_t4 204 rfl rfl
theorem wd_639 : Cond.instanceMethod yX8_goes ∈ XW := xw_t4 206 rfl rfl
theorem wd_640 : Cond.selects RX8 yX8_goes yX8_goes ∈ XW := xw_p 29 _ rfl rfl
theorem wd_641 : Cond.code yX8_isCovered cX8_isCovered 4 (some .boolean) ∈ XW := xw_t4 215 rfl rfl
theorem wd_642 : Cond.methodLink RX8 195 yX8_isCovered ∈ XW := xw_t4 212 rfl rfl
theorem wd_643 : Cond.instanceMethod yX8_isCovered ∈ XW := xw_t4 214 rfl rfl
theorem wd_644 : Cond.selects RX8 yX8_isCovered yX8_isCovered ∈ XW := xw_p 30 _ rfl rfl
theorem wd_645 : Cond.code yX8_isSlot cX8_isSlot 1 (some .boolean) ∈ XW := xw_t4 233 rfl rfl
theorem wd_646 : Cond.methodLink RX8 198 yX8_isSlot ∈ XW := xw_t4 231 rfl rfl
theorem wd_647 : Cond.static yX8_isSlot ∈ XW := xw_t4 232 rfl rfl
theorem wd_648 : Cond.code yX8_keysOf cX8_keysOf 5 (some .int) ∈ XW := xw_t5 1 rfl rfl
theorem wd_649 : Cond.methodLink RX8 201 yX8_keysOf ∈ XW := xw_t4 238 rfl rfl
theorem wd_650 : Cond.instanceMethod yX8_keysOf ∈ XW := xw_t5 0 rfl rfl
theorem wd_651 : Cond.selects RX8 yX8_keysOf yX8_keysOf ∈ XW := xw_p 32 _ rfl rfl
theorem wd_652 : Cond.code yX8_bit cX8_bit 1 (some .int) ∈ XW := xw_t5 4 rfl rfl
theorem wd_653 : Cond.methodLink RX8 205 yX8_bit ∈ XW := xw_t5 2 rfl rfl
theorem wd_654 : Cond.static yX8_bit ∈ XW := xw_t5 3 rfl rfl
theorem wd_655 : Cond.code yX8_isIdle cX8_isIdle 4 (some .boolean) ∈ XW := xw_t5 8 rfl rfl
theorem wd_656 : Cond.methodLink RX8 209 yX8_isIdle ∈ XW := xw_t5 5 rfl rfl
theorem wd_657 : Cond.instanceMethod yX8_isIdle ∈ XW := xw_t5 7 rfl rfl
theorem wd_658 : Cond.selects RX8 yX8_isIdle yX8_isIdle ∈ XW := xw_p 33 _ rfl rfl
theorem wd_659 : Cond.code yX8_isFit cX8_isFit 2 (some .boolean) ∈ XW := xw_t5 27 rfl rfl
theorem wd_660 : Cond.methodLink RX8 212 yX8_isFit ∈ XW := xw_t5 25 rfl rfl
theorem wd_661 : Cond.static yX8_isFit ∈ XW := xw_t5 26 rfl rfl
theorem wd_662 : Cond.code yX8_slotOf cX8_slotOf 3 (some .int) ∈ XW := xw_t5 24 rfl rfl
theorem wd_663 : Cond.methodLink RX8 215 yX8_slotOf ∈ XW := xw_t5 21 rfl rfl
theorem wd_664 : Cond.instanceMethod yX8_slotOf ∈ XW := xw_t5 23 rfl rfl
theorem wd_665 : Cond.selects RX8 yX8_slotOf yX8_slotOf ∈ XW := xw_p 35 _ rfl rfl
theorem wd_666 : Cond.code yX8_tableAnswer cX8_tableAnswer 3 (some .int) ∈ XW := xw_t5 47 rfl rfl
theorem wd_667 : Cond.methodLink RX8 218 yX8_tableAnswer ∈ XW := xw_t5 44 rfl rfl
theorem wd_668 : Cond.instanceMethod yX8_tableAnswer ∈ XW := xw_t5 46 rfl rfl
theorem wd_669 : Cond.selects RX8 yX8_tableAnswer yX8_tableAnswer ∈ XW := xw_p 37 _ rfl rfl
theorem wd_670 : Cond.code yX8_isSame cX8_isSame 10 (some .boolean) ∈ XW := xw_t5 43 rfl rfl
theorem wd_671 : Cond.methodLink RX8 221 yX8_isSame ∈ XW := xw_t5 40 rfl rfl
theorem wd_672 : Cond.instanceMethod yX8_isSame ∈ XW := xw_t5 42 rfl rfl
theorem wd_673 : Cond.selects RX8 yX8_isSame yX8_isSame ∈ XW := xw_p 36 _ rfl rfl
theorem wd_674 : Cond.code yX8_blocksOn cX8_blocksOn 5 (some .int) ∈ XW := xw_t5 55 rfl rfl
theorem wd_675 : Cond.methodLink RX8 224 yX8_blocksOn ∈ XW := xw_t5 52 rfl rfl
theorem wd_676 : Cond.instanceMethod yX8_blocksOn ∈ XW := xw_t5 54 rfl rfl
theorem wd_677 : Cond.selects RX8 yX8_blocksOn yX8_blocksOn ∈ XW := xw_p 38 _ rfl rfl
theorem wd_678 : Cond.code yX8_ones cX8_ones 3 (some .int) ∈ XW := xw_t5 62 rfl rfl
theorem wd_679 : Cond.methodLink RX8 227 yX8_ones ∈ XW := xw_t5 60 rfl rfl
theorem wd_680 : Cond.static yX8_ones ∈ XW := xw_t5 61 rfl rfl
theorem wd_681 : Cond.code yX8_rulesThat cX8_rulesThat 4 (some .int) ∈ XW := xw_t5 70 rfl rfl
theorem wd_682 : Cond.methodLink RX8 230 yX8_rulesThat ∈ XW := xw_t5 67 rfl rfl
theorem wd_683 : Cond.instanceMethod yX8_rulesThat ∈ XW := xw_t5 69 rfl rfl
theorem wd_684 : Cond.selects RX8 yX8_rulesThat yX8_rulesThat ∈ XW := xw_p 39 _ rfl rfl
theorem wd_685 : Cond.code yX8_pairsThatMeet cX8_pairsThatMeet 4 (some .int) ∈ XW := xw_t5 74 rfl rfl
theorem wd_686 : Cond.methodLink RX8 233 yX8_pairsThatMeet ∈ XW := xw_t5 71 rfl rfl
theorem wd_687 : Cond.instanceMethod yX8_pairsThatMeet ∈ XW := xw_t5 73 rfl rfl
theorem wd_688 : Cond.selects RX8 yX8_pairsThatMeet yX8_pairsThatMeet ∈ XW := xw_p 40 _ rfl rfl
theorem wd_689 : Cond.code yX8_differentRows cX8_differentRows 5 (some .int) ∈ XW := xw_t5 78 rfl rfl
theorem wd_690 : Cond.methodLink RX8 236 yX8_differentRows ∈ XW := xw_t5 75 rfl rfl
theorem wd_691 : Cond.instanceMethod yX8_differentRows ∈ XW := xw_t5 77 rfl rfl
theorem wd_692 : Cond.selects RX8 yX8_differentRows yX8_differentRows ∈ XW := xw_p 41 _ rfl rfl
theorem wd_693 : Cond.classLink RL 7 RX7 ∈ XW := xw_t1 18 rfl rfl
theorem wd_694 : Cond.instantiable RX7 7 ∈ XW := xw_t1 19 rfl rfl
theorem wd_695 : Cond.code yX7_init cX7_init 2 none ∈ XW := xw_t1 22 rfl rfl
theorem wd_696 : Cond.methodLink RL 9 yX7_init ∈ XW := xw_t1 20 rfl rfl
theorem wd_697 : Cond.instanceMethod yX7_init ∈ XW := xw_t1 21 rfl rfl
theorem wd_698 : Cond.classLink RL 10 RX8 ∈ XW := xw_t3 235 rfl rfl
theorem wd_699 : Cond.instantiable RX8 20 ∈ XW := xw_t3 236 rfl rfl
theorem wd_700 : Cond.code yX8_init cX8_init 1 none ∈ XW := xw_t3 239 rfl rfl
theorem wd_701 : Cond.methodLink RL 12 yX8_init ∈ XW := xw_t3 237 rfl rfl
theorem wd_702 : Cond.instanceMethod yX8_init ∈ XW := xw_t3 238 rfl rfl
theorem wd_703 : Cond.code yX7_write cX7_write 2 (some .int) ∈ XW := xw_t2 134 rfl rfl
theorem wd_704 : Cond.methodLink RL 13 yX7_write ∈ XW := xw_t2 131 rfl rfl
theorem wd_705 : Cond.instanceMethod yX7_write ∈ XW := xw_t2 132 rfl rfl
theorem wd_706 : Cond.selects RX7 yX7_write yX7_write ∈ XW := xw_t2 133 rfl rfl
theorem wd_707 : Cond.code yX8_write cX8_write 2 (some .int) ∈ XW := xw_t4 87 rfl rfl
theorem wd_708 : Cond.methodLink RL 17 yX8_write ∈ XW := xw_t4 84 rfl rfl
theorem wd_709 : Cond.instanceMethod yX8_write ∈ XW := xw_t4 85 rfl rfl
theorem wd_710 : Cond.selects RX8 yX8_write yX8_write ∈ XW := xw_t4 86 rfl rfl
theorem wd_711 : Cond.code yX7_wipe cX7_wipe 2 (some .int) ∈ XW := xw_t2 138 rfl rfl
theorem wd_712 : Cond.methodLink RL 18 yX7_wipe ∈ XW := xw_t2 135 rfl rfl
theorem wd_713 : Cond.instanceMethod yX7_wipe ∈ XW := xw_t2 136 rfl rfl
theorem wd_714 : Cond.selects RX7 yX7_wipe yX7_wipe ∈ XW := xw_t2 137 rfl rfl
theorem wd_715 : Cond.code yX8_wipe cX8_wipe 2 (some .int) ∈ XW := xw_t4 91 rfl rfl
theorem wd_716 : Cond.methodLink RL 22 yX8_wipe ∈ XW := xw_t4 88 rfl rfl
theorem wd_717 : Cond.instanceMethod yX8_wipe ∈ XW := xw_t4 89 rfl rfl
theorem wd_718 : Cond.selects RX8 yX8_wipe yX8_wipe ∈ XW := xw_t4 90 rfl rfl
theorem wd_719 : Cond.code yX7_fault cX7_fault 1 (some .int) ∈ XW := xw_t2 142 rfl rfl
theorem wd_720 : Cond.methodLink RL 23 yX7_fault ∈ XW := xw_t2 139 rfl rfl
theorem wd_721 : Cond.instanceMethod yX7_fault ∈ XW := xw_t2 140 rfl rfl
theorem wd_722 : Cond.selects RX7 yX7_fault yX7_fault ∈ XW := xw_t2 141 rfl rfl
theorem wd_723 : Cond.methodLink RL 26 yX8_fault ∈ XW := xw_t4 92 rfl rfl
theorem wd_724 : Cond.code yX7_lay cX7_lay 1 (some .int) ∈ XW := xw_t2 146 rfl rfl
theorem wd_725 : Cond.methodLink RL 27 yX7_lay ∈ XW := xw_t2 143 rfl rfl
theorem wd_726 : Cond.instanceMethod yX7_lay ∈ XW := xw_t2 144 rfl rfl
theorem wd_727 : Cond.selects RX7 yX7_lay yX7_lay ∈ XW := xw_t2 145 rfl rfl
theorem wd_728 : Cond.code yX8_lay cX8_lay 2 (some .int) ∈ XW := xw_t4 123 rfl rfl
theorem wd_729 : Cond.methodLink RL 30 yX8_lay ∈ XW := xw_t4 120 rfl rfl
theorem wd_730 : Cond.instanceMethod yX8_lay ∈ XW := xw_t4 121 rfl rfl
theorem wd_731 : Cond.selects RX8 yX8_lay yX8_lay ∈ XW := xw_t4 122 rfl rfl
theorem wd_732 : Cond.code yX7_add cX7_add 7 (some .int) ∈ XW := xw_t2 150 rfl rfl
theorem wd_733 : Cond.methodLink RL 31 yX7_add ∈ XW := xw_t2 147 rfl rfl
theorem wd_734 : Cond.instanceMethod yX7_add ∈ XW := xw_t2 148 rfl rfl
theorem wd_735 : Cond.selects RX7 yX7_add yX7_add ∈ XW := xw_t2 149 rfl rfl
theorem wd_736 : Cond.code yX8_add cX8_add 8 (some .int) ∈ XW := xw_t4 132 rfl rfl
theorem wd_737 : Cond.methodLink RL 35 yX8_add ∈ XW := xw_t4 129 rfl rfl
theorem wd_738 : Cond.instanceMethod yX8_add ∈ XW := xw_t4 130 rfl rfl
theorem wd_739 : Cond.selects RX8 yX8_add yX8_add ∈ XW := xw_t4 131 rfl rfl
theorem wd_740 : Cond.code yX7_drop cX7_drop 2 (some .int) ∈ XW := xw_t3 1 rfl rfl
theorem wd_741 : Cond.methodLink RL 36 yX7_drop ∈ XW := xw_t2 238 rfl rfl
theorem wd_742 : Cond.instanceMethod yX7_drop ∈ XW := xw_t2 239 rfl rfl
theorem wd_743 : Cond.selects RX7 yX7_drop yX7_drop ∈ XW := xw_t3 0 rfl rfl
theorem wd_744 : Cond.code yX8_drop cX8_drop 2 (some .int) ∈ XW := xw_t4 195 rfl rfl
theorem wd_745 : Cond.methodLink RL 39 yX8_drop ∈ XW := xw_t4 192 rfl rfl
theorem wd_746 : Cond.instanceMethod yX8_drop ∈ XW := xw_t4 193 rfl rfl
theorem wd_747 : Cond.selects RX8 yX8_drop yX8_drop ∈ XW := xw_t4 194 rfl rfl
theorem wd_748 : Cond.code yX7_purge cX7_purge 3 (some .int) ∈ XW := xw_t3 21 rfl rfl
theorem wd_749 : Cond.methodLink RL 40 yX7_purge ∈ XW := xw_t3 18 rfl rfl
theorem wd_750 : Cond.instanceMethod yX7_purge ∈ XW := xw_t3 19 rfl rfl
theorem wd_751 : Cond.selects RX7 yX7_purge yX7_purge ∈ XW := xw_t3 20 rfl rfl
theorem wd_752 : Cond.code yX8_purge cX8_purge 4 (some .int) ∈ XW := xw_t4 211 rfl rfl
theorem wd_753 : Cond.methodLink RL 43 yX8_purge ∈ XW := xw_t4 208 rfl rfl
theorem wd_754 : Cond.instanceMethod yX8_purge ∈ XW := xw_t4 209 rfl rfl
theorem wd_755 : Cond.selects RX8 yX8_purge yX8_purge ∈ XW := xw_t4 210 rfl rfl
theorem wd_756 : Cond.code yX7_pack cX7_pack 2 (some .int) ∈ XW := xw_t3 46 rfl rfl
theorem wd_757 : Cond.methodLink RL 44 yX7_pack ∈ XW := xw_t3 43 rfl rfl
theorem wd_758 : Cond.instanceMethod yX7_pack ∈ XW := xw_t3 44 rfl rfl
theorem wd_759 : Cond.selects RX7 yX7_pack yX7_pack ∈ XW := xw_t3 45 rfl rfl
theorem wd_760 : Cond.code yX8_pack cX8_pack 3 (some .int) ∈ XW := xw_t4 226 rfl rfl
theorem wd_761 : Cond.methodLink RL 47 yX8_pack ∈ XW := xw_t4 223 rfl rfl
theorem wd_762 : Cond.instanceMethod yX8_pack ∈ XW := xw_t4 224 rfl rfl
theorem wd_763 : Cond.selects RX8 yX8_pack yX8_pack ∈ XW := xw_t4 225 rfl rfl
theorem wd_764 : Cond.code yX7_move cX7_move 4 (some .int) ∈ XW := xw_t3 54 rfl rfl
theorem wd_765 : Cond.methodLink RL 48 yX7_move ∈ XW := xw_t3 51 rfl rfl
theorem wd_766 : Cond.instanceMethod yX7_move ∈ XW := xw_t3 52 rfl rfl
theorem wd_767 : Cond.selects RX7 yX7_move yX7_move ∈ XW := xw_t3 53 rfl rfl
theorem wd_768 : Cond.code yX8_move cX8_move 5 (some .int) ∈ XW := xw_t4 230 rfl rfl
theorem wd_769 : Cond.methodLink RL 52 yX8_move ∈ XW := xw_t4 227 rfl rfl
theorem wd_770 : Cond.instanceMethod yX8_move ∈ XW := xw_t4 228 rfl rfl
theorem wd_771 : Cond.selects RX8 yX8_move yX8_move ∈ XW := xw_t4 229 rfl rfl
theorem wd_772 : Cond.code yX7_undo cX7_undo 1 (some .int) ∈ XW := xw_t3 66 rfl rfl
theorem wd_773 : Cond.methodLink RL 53 yX7_undo ∈ XW := xw_t3 63 rfl rfl
theorem wd_774 : Cond.instanceMethod yX7_undo ∈ XW := xw_t3 64 rfl rfl
theorem wd_775 : Cond.selects RX7 yX7_undo yX7_undo ∈ XW := xw_t3 65 rfl rfl
theorem wd_776 : Cond.code yX8_undo cX8_undo 2 (some .int) ∈ XW := xw_t4 128 rfl rfl
theorem wd_777 : Cond.methodLink RL 56 yX8_undo ∈ XW := xw_t4 125 rfl rfl
theorem wd_778 : Cond.instanceMethod yX8_undo ∈ XW := xw_t4 126 rfl rfl
theorem wd_779 : Cond.selects RX8 yX8_undo yX8_undo ∈ XW := xw_t4 127 rfl rfl
theorem wd_780 : Cond.code yX7_rule cX7_rule 4 (some .int) ∈ XW := xw_t3 74 rfl rfl
theorem wd_781 : Cond.methodLink RL 57 yX7_rule ∈ XW := xw_t3 71 rfl rfl
theorem wd_782 : Cond.instanceMethod yX7_rule ∈ XW := xw_t3 72 rfl rfl
theorem wd_783 : Cond.selects RX7 yX7_rule yX7_rule ∈ XW := xw_t3 73 rfl rfl
theorem wd_784 : Cond.code yX8_rule cX8_rule 3 (some .int) ∈ XW := xw_t4 237 rfl rfl
theorem wd_785 : Cond.methodLink RL 60 yX8_rule ∈ XW := xw_t4 234 rfl rfl
theorem wd_786 : Cond.instanceMethod yX8_rule ∈ XW := xw_t4 235 rfl rfl
theorem wd_787 : Cond.selects RX8 yX8_rule yX8_rule ∈ XW := xw_t4 236 rfl rfl
theorem wd_788 : Cond.code yX7_would cX7_would 5 (some .int) ∈ XW := xw_t3 95 rfl rfl
theorem wd_789 : Cond.methodLink RL 61 yX7_would ∈ XW := xw_t3 92 rfl rfl
theorem wd_790 : Cond.instanceMethod yX7_would ∈ XW := xw_t3 93 rfl rfl
theorem wd_791 : Cond.selects RX7 yX7_would yX7_would ∈ XW := xw_t3 94 rfl rfl
theorem wd_792 : Cond.code yX8_would cX8_would 6 (some .int) ∈ XW := xw_t4 191 rfl rfl
theorem wd_793 : Cond.methodLink RL 65 yX8_would ∈ XW := xw_t4 188 rfl rfl
theorem wd_794 : Cond.instanceMethod yX8_would ∈ XW := xw_t4 189 rfl rfl
theorem wd_795 : Cond.selects RX8 yX8_would yX8_would ∈ XW := xw_t4 190 rfl rfl
theorem wd_796 : Cond.code yX7_moved cX7_moved 3 (some .int) ∈ XW := xw_t3 99 rfl rfl
theorem wd_797 : Cond.methodLink RL 66 yX7_moved ∈ XW := xw_t3 96 rfl rfl
theorem wd_798 : Cond.instanceMethod yX7_moved ∈ XW := xw_t3 97 rfl rfl
theorem wd_799 : Cond.selects RX7 yX7_moved yX7_moved ∈ XW := xw_t3 98 rfl rfl
theorem wd_800 : Cond.code yX8_moved cX8_moved 3 (some .int) ∈ XW := xw_t5 16 rfl rfl
theorem wd_801 : Cond.methodLink RL 69 yX8_moved ∈ XW := xw_t5 13 rfl rfl
theorem wd_802 : Cond.instanceMethod yX8_moved ∈ XW := xw_t5 14 rfl rfl
theorem wd_803 : Cond.selects RX8 yX8_moved yX8_moved ∈ XW := xw_t5 15 rfl rfl
theorem wd_804 : Cond.code yX7_slot cX7_slot 3 (some .int) ∈ XW := xw_t3 103 rfl rfl
theorem wd_805 : Cond.methodLink RL 70 yX7_slot ∈ XW := xw_t3 100 rfl rfl
theorem wd_806 : Cond.instanceMethod yX7_slot ∈ XW := xw_t3 101 rfl rfl
theorem wd_807 : Cond.selects RX7 yX7_slot yX7_slot ∈ XW := xw_t3 102 rfl rfl
theorem wd_808 : Cond.code yX8_slot cX8_slot 5 (some .int) ∈ XW := xw_t5 20 rfl rfl
theorem wd_809 : Cond.methodLink RL 73 yX8_slot ∈ XW := xw_t5 17 rfl rfl
theorem wd_810 : Cond.instanceMethod yX8_slot ∈ XW := xw_t5 18 rfl rfl
theorem wd_811 : Cond.selects RX8 yX8_slot yX8_slot ∈ XW := xw_t5 19 rfl rfl
theorem wd_812 : Cond.code yX7_reach cX7_reach 3 (some .int) ∈ XW := xw_t3 129 rfl rfl
theorem wd_813 : Cond.methodLink RL 74 yX7_reach ∈ XW := xw_t3 126 rfl rfl
theorem wd_814 : Cond.instanceMethod yX7_reach ∈ XW := xw_t3 127 rfl rfl
theorem wd_815 : Cond.selects RX7 yX7_reach yX7_reach ∈ XW := xw_t3 128 rfl rfl
theorem wd_816 : Cond.code yX8_reach cX8_reach 7 (some .int) ∈ XW := xw_t5 31 rfl rfl
theorem wd_817 : Cond.methodLink RL 77 yX8_reach ∈ XW := xw_t5 28 rfl rfl
theorem wd_818 : Cond.instanceMethod yX8_reach ∈ XW := xw_t5 29 rfl rfl
theorem wd_819 : Cond.selects RX8 yX8_reach yX8_reach ∈ XW := xw_t5 30 rfl rfl
theorem wd_820 : Cond.code yX7_meet cX7_meet 3 (some .int) ∈ XW := xw_t3 141 rfl rfl
theorem wd_821 : Cond.methodLink RL 78 yX7_meet ∈ XW := xw_t3 138 rfl rfl
theorem wd_822 : Cond.instanceMethod yX7_meet ∈ XW := xw_t3 139 rfl rfl
theorem wd_823 : Cond.selects RX7 yX7_meet yX7_meet ∈ XW := xw_t3 140 rfl rfl
theorem wd_824 : Cond.code yX8_meet cX8_meet 3 (some .int) ∈ XW := xw_t5 35 rfl rfl
theorem wd_825 : Cond.methodLink RL 81 yX8_meet ∈ XW := xw_t5 32 rfl rfl
theorem wd_826 : Cond.instanceMethod yX8_meet ∈ XW := xw_t5 33 rfl rfl
theorem wd_827 : Cond.selects RX8 yX8_meet yX8_meet ∈ XW := xw_t5 34 rfl rfl
theorem wd_828 : Cond.code yX7_join cX7_join 6 (some .int) ∈ XW := xw_t3 146 rfl rfl
theorem wd_829 : Cond.methodLink RL 82 yX7_join ∈ XW := xw_t3 143 rfl rfl
theorem wd_830 : Cond.instanceMethod yX7_join ∈ XW := xw_t3 144 rfl rfl
theorem wd_831 : Cond.selects RX7 yX7_join yX7_join ∈ XW := xw_t3 145 rfl rfl
theorem wd_832 : Cond.code yX8_join cX8_join 10 (some .int) ∈ XW := xw_t5 39 rfl rfl
theorem wd_833 : Cond.methodLink RL 85 yX8_join ∈ XW := xw_t5 36 rfl rfl
theorem wd_834 : Cond.instanceMethod yX8_join ∈ XW := xw_t5 37 rfl rfl
theorem wd_835 : Cond.selects RX8 yX8_join yX8_join ∈ XW := xw_t5 38 rfl rfl
theorem wd_836 : Cond.code yX7_key cX7_key 3 (some .int) ∈ XW := xw_t3 176 rfl rfl
theorem wd_837 : Cond.methodLink RL 86 yX7_key ∈ XW := xw_t3 173 rfl rfl
theorem wd_838 : Cond.instanceMethod yX7_key ∈ XW := xw_t3 174 rfl rfl
theorem wd_839 : Cond.selects RX7 yX7_key yX7_key ∈ XW := xw_t3 175 rfl rfl
theorem wd_840 : Cond.code yX8_key cX8_key 6 (some .int) ∈ XW := xw_t5 51 rfl rfl
theorem wd_841 : Cond.methodLink RL 89 yX8_key ∈ XW := xw_t5 48 rfl rfl
theorem wd_842 : Cond.instanceMethod yX8_key ∈ XW := xw_t5 49 rfl rfl
theorem wd_843 : Cond.selects RX8 yX8_key yX8_key ∈ XW := xw_t5 50 rfl rfl
theorem wd_844 : Cond.code yX7_keys cX7_keys 2 (some .int) ∈ XW := xw_t3 194 rfl rfl
theorem wd_845 : Cond.methodLink RL 90 yX7_keys ∈ XW := xw_t3 191 rfl rfl
theorem wd_846 : Cond.instanceMethod yX7_keys ∈ XW := xw_t3 192 rfl rfl
theorem wd_847 : Cond.selects RX7 yX7_keys yX7_keys ∈ XW := xw_t3 193 rfl rfl
theorem wd_848 : Cond.code yX8_keys cX8_keys 7 (some .int) ∈ XW := xw_t5 59 rfl rfl
theorem wd_849 : Cond.methodLink RL 93 yX8_keys ∈ XW := xw_t5 56 rfl rfl
theorem wd_850 : Cond.instanceMethod yX8_keys ∈ XW := xw_t5 57 rfl rfl
theorem wd_851 : Cond.selects RX8 yX8_keys yX8_keys ∈ XW := xw_t5 58 rfl rfl
theorem wd_852 : Cond.code yX7_count cX7_count 2 (some .int) ∈ XW := xw_t3 217 rfl rfl
theorem wd_853 : Cond.methodLink RL 94 yX7_count ∈ XW := xw_t3 214 rfl rfl
theorem wd_854 : Cond.instanceMethod yX7_count ∈ XW := xw_t3 215 rfl rfl
theorem wd_855 : Cond.selects RX7 yX7_count yX7_count ∈ XW := xw_t3 216 rfl rfl
theorem wd_856 : Cond.code yX8_count cX8_count 2 (some .int) ∈ XW := xw_t5 66 rfl rfl
theorem wd_857 : Cond.methodLink RL 97 yX8_count ∈ XW := xw_t5 63 rfl rfl
theorem wd_858 : Cond.instanceMethod yX8_count ∈ XW := xw_t5 64 rfl rfl
theorem wd_859 : Cond.selects RX8 yX8_count yX8_count ∈ XW := xw_t5 65 rfl rfl
theorem wd_860 : Cond.constant RJ6 265 1431655765 ∈ XW := xw_t3 154 rfl rfl
theorem wd_861 : Cond.constant RJ6 266 858993459 ∈ XW := xw_t3 155 rfl rfl
theorem wd_862 : Cond.constant RJ6 267 252645135 ∈ XW := xw_t3 156 rfl rfl
theorem wd_863 : Cond.fieldLink RJ0 9 "java/lang/String" "value" "[B" ∈ XW := xw_t5 79 rfl rfl
theorem wd_864 : Cond.code yJ0_coder_7d493 cJ0_coder_7d493 1 (some .byte) ∈ XW := xw_t1 205 rfl rfl
theorem wd_865 : Cond.methodLink RJ0 335 yJ0_coder_7d493 ∈ XW := xw_t1 202 rfl rfl
theorem wd_866 : Cond.instanceMethod yJ0_coder_7d493 ∈ XW := xw_t1 203 rfl rfl
theorem wd_867 : Cond.selects RJ0 yJ0_coder_7d493 yJ0_coder_7d493 ∈ XW := xw_t1 204 rfl rfl
theorem wd_868 : Cond.code yJ0_isLatin1_aae02 cJ0_isLatin1_aae02 1 (some .boolean) ∈ XW := xw_t1 215 rfl rfl
theorem wd_869 : Cond.methodLink RJ0 492 yJ0_isLatin1_aae02 ∈ XW := xw_t1 212 rfl rfl
theorem wd_870 : Cond.instanceMethod yJ0_isLatin1_aae02 ∈ XW := xw_t1 213 rfl rfl
theorem wd_871 : Cond.selects RJ0 yJ0_isLatin1_aae02 yJ0_isLatin1_aae02 ∈ XW := xw_t1 214 rfl rfl
theorem wd_872 : Cond.code yJ1_charAt_3b067 cJ1_charAt_3b067 2 (some .char) ∈ XW := xw_t1 218 rfl rfl
theorem wd_873 : Cond.methodLink RJ0 495 yJ1_charAt_3b067 ∈ XW := xw_t1 216 rfl rfl
theorem wd_874 : Cond.initialized RJ1 ∈ XW := xw_t1 11 rfl rfl
theorem wd_875 : Cond.static yJ1_charAt_3b067 ∈ XW := xw_t1 217 rfl rfl
theorem wd_876 : Cond.fieldLink RJ0 38 RJ0 "COMPACT_STRINGS" "Z" ∈ XW := xw_t1 206 rfl rfl
theorem wd_877 : Cond.fieldLink RJ0 15 "java/lang/String" "coder" "B" ∈ XW := xw_t5 80 rfl rfl
theorem wd_878 : Cond.fieldLink RJ0 1053 RJ3 "SIOOBE_FORMATTER" "Ljava/util/function/BiFunction;" ∈ XW := xw_t1 222 rfl rfl
theorem wd_879 : Cond.code yJ3_checkIndex_8e157 cJ3_checkIndex_8e157 3 (some .int) ∈ XW := xw_t1 226 rfl rfl
theorem wd_880 : Cond.methodLink RJ0 1059 yJ3_checkIndex_8e157 ∈ XW := xw_t1 224 rfl rfl
theorem wd_881 : Cond.initialized RJ3 ∈ XW := xw_t1 12 rfl rfl
theorem wd_882 : Cond.static yJ3_checkIndex_8e157 ∈ XW := xw_t1 225 rfl rfl
theorem wd_883 : Cond.code yJ0_checkIndex_df160 cJ0_checkIndex_df160 2 none ∈ XW := xw_t1 221 rfl rfl
theorem wd_884 : Cond.methodLink RJ1 9 yJ0_checkIndex_df160 ∈ XW := xw_t1 219 rfl rfl
theorem wd_885 : Cond.static yJ0_checkIndex_df160 ∈ XW := xw_t1 220 rfl rfl
theorem wf_0_0 : u_lay RX0 TX0 0 ∈ XW := xw_t1 153 rfl rfl
theorem wf_0_1 : u_lay RX0 TX0 1 ∈ XW := xw_t1 155 rfl rfl
theorem inX0 : ∀ w ∈ u_ws RX0 TX0 2, w ∈ XW := by
  intro w hw
  obtain ⟨k, hk, rfl⟩ := List.mem_map.mp hw
  have hk := List.mem_range.mp hk
  match k, hk with
  | 0, _ => exact wf_0_0
  | 1, _ => exact wf_0_1
  | k + 2, hk => exact absurd hk (by omega)
theorem xfs_0 : ∀ v ∈ ([.null, .null] : List Value), v = .null ∨ v = .int 0 := by simp
theorem wf_1_0 : u_lay RX1 TX1 0 ∈ XW := xw_t1 170 rfl rfl
theorem wf_1_1 : u_lay RX1 TX1 1 ∈ XW := xw_t1 172 rfl rfl
theorem wf_1_2 : u_lay RX1 TX1 2 ∈ XW := xw_t1 174 rfl rfl
theorem inX1 : ∀ w ∈ u_ws RX1 TX1 3, w ∈ XW := by
  intro w hw
  obtain ⟨k, hk, rfl⟩ := List.mem_map.mp hw
  have hk := List.mem_range.mp hk
  match k, hk with
  | 0, _ => exact wf_1_0
  | 1, _ => exact wf_1_1
  | 2, _ => exact wf_1_2
  | k + 3, hk => exact absurd hk (by omega)
theorem xfs_1 : ∀ v ∈ ([.null, .null, .int 0] : List Value), v = .null ∨ v = .int 0 := by simp
theorem wf_2_0 : u_lay RX2 TX2 0 ∈ XW := xw_t1 190 rfl rfl
theorem wf_2_1 : u_lay RX2 TX2 1 ∈ XW := xw_t1 192 rfl rfl
theorem wf_2_2 : u_lay RX2 TX2 2 ∈ XW := xw_t1 194 rfl rfl
theorem inX2 : ∀ w ∈ u_ws RX2 TX2 3, w ∈ XW := by
  intro w hw
  obtain ⟨k, hk, rfl⟩ := List.mem_map.mp hw
  have hk := List.mem_range.mp hk
  match k, hk with
  | 0, _ => exact wf_2_0
  | 1, _ => exact wf_2_1
  | 2, _ => exact wf_2_2
  | k + 3, hk => exact absurd hk (by omega)
theorem xfs_2 : ∀ v ∈ ([.null, .int 0, .int 0] : List Value), v = .null ∨ v = .int 0 := by simp
theorem wf_3_0 : u_lay RX3 TX3 0 ∈ XW := xw_t1 104 rfl rfl
theorem wf_3_1 : u_lay RX3 TX3 1 ∈ XW := xw_t1 106 rfl rfl
theorem wf_3_2 : u_lay RX3 TX3 2 ∈ XW := xw_t1 108 rfl rfl
theorem wf_3_3 : u_lay RX3 TX3 3 ∈ XW := xw_t1 110 rfl rfl
theorem wf_3_4 : u_lay RX3 TX3 4 ∈ XW := xw_t1 112 rfl rfl
theorem wf_3_5 : u_lay RX3 TX3 5 ∈ XW := xw_t1 114 rfl rfl
theorem wf_3_6 : u_lay RX3 TX3 6 ∈ XW := xw_t1 116 rfl rfl
theorem wf_3_7 : u_lay RX3 TX3 7 ∈ XW := xw_t1 118 rfl rfl
theorem inX3 : ∀ w ∈ u_ws RX3 TX3 8, w ∈ XW := by
  intro w hw
  obtain ⟨k, hk, rfl⟩ := List.mem_map.mp hw
  have hk := List.mem_range.mp hk
  match k, hk with
  | 0, _ => exact wf_3_0
  | 1, _ => exact wf_3_1
  | 2, _ => exact wf_3_2
  | 3, _ => exact wf_3_3
  | 4, _ => exact wf_3_4
  | 5, _ => exact wf_3_5
  | 6, _ => exact wf_3_6
  | 7, _ => exact wf_3_7
  | k + 8, hk => exact absurd hk (by omega)
theorem xfs_3 : ∀ v ∈ ([.int 0, .null, .null, .null, .null, .null, .null, .null] : List Value), v = .null ∨ v = .int 0 := by simp
theorem wf_4_0 : u_lay RX4 TX4 0 ∈ XW := xw_t1 59 rfl rfl
theorem wf_4_1 : u_lay RX4 TX4 1 ∈ XW := xw_t1 61 rfl rfl
theorem wf_4_2 : u_lay RX4 TX4 2 ∈ XW := xw_t1 63 rfl rfl
theorem wf_4_3 : u_lay RX4 TX4 3 ∈ XW := xw_t1 65 rfl rfl
theorem wf_4_4 : u_lay RX4 TX4 4 ∈ XW := xw_t1 67 rfl rfl
theorem wf_4_5 : u_lay RX4 TX4 5 ∈ XW := xw_t1 69 rfl rfl
theorem inX4 : ∀ w ∈ u_ws RX4 TX4 6, w ∈ XW := by
  intro w hw
  obtain ⟨k, hk, rfl⟩ := List.mem_map.mp hw
  have hk := List.mem_range.mp hk
  match k, hk with
  | 0, _ => exact wf_4_0
  | 1, _ => exact wf_4_1
  | 2, _ => exact wf_4_2
  | 3, _ => exact wf_4_3
  | 4, _ => exact wf_4_4
  | 5, _ => exact wf_4_5
  | k + 6, hk => exact absurd hk (by omega)
theorem xfs_4 : ∀ v ∈ ([.int 0, .int 0, .int 0, .int 0, .int 0, .int 0] : List Value), v = .null ∨ v = .int 0 := by simp
theorem wf_5_0 : u_lay RX5 TX5 0 ∈ XW := xw_t1 140 rfl rfl
theorem wf_5_1 : u_lay RX5 TX5 1 ∈ XW := xw_t1 142 rfl rfl
theorem wf_5_2 : u_lay RX5 TX5 2 ∈ XW := xw_t1 144 rfl rfl
theorem wf_5_3 : u_lay RX5 TX5 3 ∈ XW := xw_t1 146 rfl rfl
theorem inX5 : ∀ w ∈ u_ws RX5 TX5 4, w ∈ XW := by
  intro w hw
  obtain ⟨k, hk, rfl⟩ := List.mem_map.mp hw
  have hk := List.mem_range.mp hk
  match k, hk with
  | 0, _ => exact wf_5_0
  | 1, _ => exact wf_5_1
  | 2, _ => exact wf_5_2
  | 3, _ => exact wf_5_3
  | k + 4, hk => exact absurd hk (by omega)
theorem xfs_5 : ∀ v ∈ ([.null, .null, .null, .null] : List Value), v = .null ∨ v = .int 0 := by simp
theorem wf_6_0 : u_lay RX6 TX6 0 ∈ XW := xw_t1 35 rfl rfl
theorem wf_6_1 : u_lay RX6 TX6 1 ∈ XW := xw_t1 37 rfl rfl
theorem inX6 : ∀ w ∈ u_ws RX6 TX6 2, w ∈ XW := by
  intro w hw
  obtain ⟨k, hk, rfl⟩ := List.mem_map.mp hw
  have hk := List.mem_range.mp hk
  match k, hk with
  | 0, _ => exact wf_6_0
  | 1, _ => exact wf_6_1
  | k + 2, hk => exact absurd hk (by omega)
theorem xfs_6 : ∀ v ∈ ([.null, .int 0] : List Value), v = .null ∨ v = .int 0 := by simp
theorem wf_7_0 : u_lay RX7 TX7 0 ∈ XW := xw_t2 115 rfl rfl
theorem wf_7_1 : u_lay RX7 TX7 1 ∈ XW := xw_t2 117 rfl rfl
theorem wf_7_2 : u_lay RX7 TX7 2 ∈ XW := xw_t2 119 rfl rfl
theorem wf_7_3 : u_lay RX7 TX7 3 ∈ XW := xw_t2 121 rfl rfl
theorem wf_7_4 : u_lay RX7 TX7 4 ∈ XW := xw_t2 123 rfl rfl
theorem wf_7_5 : u_lay RX7 TX7 5 ∈ XW := xw_t2 125 rfl rfl
theorem wf_7_6 : u_lay RX7 TX7 6 ∈ XW := xw_t2 127 rfl rfl
theorem inX7 : ∀ w ∈ u_ws RX7 TX7 7, w ∈ XW := by
  intro w hw
  obtain ⟨k, hk, rfl⟩ := List.mem_map.mp hw
  have hk := List.mem_range.mp hk
  match k, hk with
  | 0, _ => exact wf_7_0
  | 1, _ => exact wf_7_1
  | 2, _ => exact wf_7_2
  | 3, _ => exact wf_7_3
  | 4, _ => exact wf_7_4
  | 5, _ => exact wf_7_5
  | 6, _ => exact wf_7_6
  | k + 7, hk => exact absurd hk (by omega)
theorem xfs_7 : ∀ v ∈ ([.null, .null, .null, .null, .null, .null, .null] : List Value), v = .null ∨ v = .int 0 := by simp
theorem wf_8_0 : u_lay RX8 TX8 0 ∈ XW := xw_t4 42 rfl rfl
theorem wf_8_1 : u_lay RX8 TX8 1 ∈ XW := xw_t4 44 rfl rfl
theorem wf_8_2 : u_lay RX8 TX8 2 ∈ XW := xw_t4 46 rfl rfl
theorem wf_8_3 : u_lay RX8 TX8 3 ∈ XW := xw_t4 48 rfl rfl
theorem wf_8_4 : u_lay RX8 TX8 4 ∈ XW := xw_t4 50 rfl rfl
theorem wf_8_5 : u_lay RX8 TX8 5 ∈ XW := xw_t4 52 rfl rfl
theorem wf_8_6 : u_lay RX8 TX8 6 ∈ XW := xw_t4 54 rfl rfl
theorem wf_8_7 : u_lay RX8 TX8 7 ∈ XW := xw_t4 56 rfl rfl
theorem wf_8_8 : u_lay RX8 TX8 8 ∈ XW := xw_t4 58 rfl rfl
theorem wf_8_9 : u_lay RX8 TX8 9 ∈ XW := xw_t4 60 rfl rfl
theorem wf_8_10 : u_lay RX8 TX8 10 ∈ XW := xw_t4 62 rfl rfl
theorem wf_8_11 : u_lay RX8 TX8 11 ∈ XW := xw_t4 64 rfl rfl
theorem wf_8_12 : u_lay RX8 TX8 12 ∈ XW := xw_t4 66 rfl rfl
theorem wf_8_13 : u_lay RX8 TX8 13 ∈ XW := xw_t4 68 rfl rfl
theorem wf_8_14 : u_lay RX8 TX8 14 ∈ XW := xw_t4 70 rfl rfl
theorem wf_8_15 : u_lay RX8 TX8 15 ∈ XW := xw_t4 72 rfl rfl
theorem wf_8_16 : u_lay RX8 TX8 16 ∈ XW := xw_t4 74 rfl rfl
theorem wf_8_17 : u_lay RX8 TX8 17 ∈ XW := xw_t4 76 rfl rfl
theorem wf_8_18 : u_lay RX8 TX8 18 ∈ XW := xw_t4 78 rfl rfl
theorem wf_8_19 : u_lay RX8 TX8 19 ∈ XW := xw_t4 80 rfl rfl
theorem inX8 : ∀ w ∈ u_ws RX8 TX8 20, w ∈ XW := by
  intro w hw
  obtain ⟨k, hk, rfl⟩ := List.mem_map.mp hw
  have hk := List.mem_range.mp hk
  match k, hk with
  | 0, _ => exact wf_8_0
  | 1, _ => exact wf_8_1
  | 2, _ => exact wf_8_2
  | 3, _ => exact wf_8_3
  | 4, _ => exact wf_8_4
  | 5, _ => exact wf_8_5
  | 6, _ => exact wf_8_6
  | 7, _ => exact wf_8_7
  | 8, _ => exact wf_8_8
  | 9, _ => exact wf_8_9
  | 10, _ => exact wf_8_10
  | 11, _ => exact wf_8_11
  | 12, _ => exact wf_8_12
  | 13, _ => exact wf_8_13
  | 14, _ => exact wf_8_14
  | 15, _ => exact wf_8_15
  | 16, _ => exact wf_8_16
  | 17, _ => exact wf_8_17
  | 18, _ => exact wf_8_18
  | 19, _ => exact wf_8_19
  | k + 20, hk => exact absurd hk (by omega)
theorem xfs_8 : ∀ v ∈ ([.null, .null, .int 0, .int 0, .null, .null, .null, .int 0, .int 0, .int 0, .int 0, .null, .null, .int 0, .null, .null, .int 0, .null, .null, .null] : List Value), v = .null ∨ v = .int 0 := by simp
theorem pf_X0_init : plainFor yX0_init = true := by decide +kernel
theorem pf_X0_copyFrom : plainFor yX0_copyFrom = true := by decide +kernel
theorem pf_X0_removeRule : plainFor yX0_removeRule = true := by decide +kernel
theorem pf_X0_putRow : plainFor yX0_putRow = true := by decide +kernel
theorem pf_X0_packRows : plainFor yX0_packRows = true := by decide +kernel
theorem pf_X0_packRowsOf : plainFor yX0_packRowsOf = true := by decide +kernel
theorem pf_X0_ruleOf : plainFor yX0_ruleOf = true := by decide +kernel
theorem pf_X0_answerOf : plainFor yX0_answerOf = true := by decide +kernel
theorem pf_X0_keysWithoutAnswer : plainFor yX0_keysWithoutAnswer = true := by decide +kernel
theorem pf_X0_keysAnsweredOtherwise : plainFor yX0_keysAnsweredOtherwise = true := by decide +kernel
theorem pf_X1_init : plainFor yX1_init = true := by decide +kernel
theorem pf_X1_copyFrom : plainFor yX1_copyFrom = true := by decide +kernel
theorem pf_X1_append : plainFor yX1_append = true := by decide +kernel
theorem pf_X1_removeLast : plainFor yX1_removeLast = true := by decide +kernel
theorem pf_X2_init : plainFor yX2_init = true := by decide +kernel
theorem pf_X2_keep : plainFor yX2_keep = true := by decide +kernel
theorem pf_X2_giveBack : plainFor yX2_giveBack = true := by decide +kernel
theorem pf_X3_init : plainFor yX3_init = true := by decide +kernel
theorem pf_X3_copyFrom : plainFor yX3_copyFrom = true := by decide +kernel
theorem pf_X3_append : plainFor yX3_append = true := by decide +kernel
theorem pf_X3_remove : plainFor yX3_remove = true := by decide +kernel
theorem pf_X3_numberOf : plainFor yX3_numberOf = true := by decide +kernel
theorem pf_X3_answerOf : plainFor yX3_answerOf = true := by decide +kernel
theorem pf_X3_headBits : plainFor yX3_headBits = true := by decide +kernel
theorem pf_X3_has : plainFor yX3_has = true := by decide +kernel
theorem pf_X3_answeringRule : plainFor yX3_answeringRule = true := by decide +kernel
theorem pf_X3_answeringRuleBut : plainFor yX3_answeringRuleBut = true := by decide +kernel
theorem pf_X3_rowsOf : plainFor yX3_rowsOf = true := by decide +kernel
theorem pf_X3_allRows : plainFor yX3_allRows = true := by decide +kernel
theorem pf_X3_rulesThatHave : plainFor yX3_rulesThatHave = true := by decide +kernel
theorem pf_X3_keysHadBy : plainFor yX3_keysHadBy = true := by decide +kernel
theorem pf_X3_keysAnsweredBy : plainFor yX3_keysAnsweredBy = true := by decide +kernel
theorem pf_X3_isCovered : plainFor yX3_isCovered = true := by decide +kernel
theorem pf_X3_isIdle : plainFor yX3_isIdle = true := by decide +kernel
theorem pf_X3_coveredRules : plainFor yX3_coveredRules = true := by decide +kernel
theorem pf_X3_idleRules : plainFor yX3_idleRules = true := by decide +kernel
theorem pf_X4_init : plainFor yX4_init = true := by decide +kernel
theorem pf_X4_reads : plainFor yX4_reads = true := by decide +kernel
theorem pf_X4_passes : plainFor yX4_passes = true := by decide +kernel
theorem pf_X4_figure : plainFor yX4_figure = true := by decide +kernel
theorem pf_X4_number : plainFor yX4_number = true := by decide +kernel
theorem pf_X4_signs : plainFor yX4_signs = true := by decide +kernel
theorem pf_X4_sign : plainFor yX4_sign = true := by decide +kernel
theorem pf_X5_init : plainFor yX5_init = true := by decide +kernel
theorem pf_X5_clearAll : plainFor yX5_clearAll = true := by decide +kernel
theorem pf_X5_copyFrom : plainFor yX5_copyFrom = true := by decide +kernel
theorem pf_X5_isEmpty : plainFor yX5_isEmpty = true := by decide +kernel
theorem pf_X5_clear : plainFor yX5_clear = true := by decide +kernel
theorem pf_X5_clearRank : plainFor yX5_clearRank = true := by decide +kernel
theorem pf_X5_put : plainFor yX5_put = true := by decide +kernel
theorem pf_X5_shift : plainFor yX5_shift = true := by decide +kernel
theorem pf_X5_loosen : plainFor yX5_loosen = true := by decide +kernel
theorem pf_X5_fits : plainFor yX5_fits = true := by decide +kernel
theorem pf_X5_meets : plainFor yX5_meets = true := by decide +kernel
theorem pf_X5_onlySignUnlike : plainFor yX5_onlySignUnlike = true := by decide +kernel
theorem pf_X5_floorOf : plainFor yX5_floorOf = true := by decide +kernel
theorem pf_X5_ceilingOf : plainFor yX5_ceilingOf = true := by decide +kernel
theorem pf_X5_isOpen : plainFor yX5_isOpen = true := by decide +kernel
theorem pf_X5_lowestOpen : plainFor yX5_lowestOpen = true := by decide +kernel
theorem pf_X5_highestOpen : plainFor yX5_highestOpen = true := by decide +kernel
theorem pf_X5_openSlots : plainFor yX5_openSlots = true := by decide +kernel
theorem pf_X5_rows : plainFor yX5_rows = true := by decide +kernel
theorem pf_X5_rowsBetween : plainFor yX5_rowsBetween = true := by decide +kernel
theorem pf_X5_rowsNotAsIn : plainFor yX5_rowsNotAsIn = true := by decide +kernel
theorem pf_X5_signsOf : plainFor yX5_signsOf = true := by decide +kernel
theorem pf_X5_answeringSlot : plainFor yX5_answeringSlot = true := by decide +kernel
theorem pf_X5_keysAnsweredBy : plainFor yX5_keysAnsweredBy = true := by decide +kernel
theorem pf_X5_rowsThatFit : plainFor yX5_rowsThatFit = true := by decide +kernel
theorem pf_X5_blocksOn : plainFor yX5_blocksOn = true := by decide +kernel
theorem pf_X5_allBlocksOn : plainFor yX5_allBlocksOn = true := by decide +kernel
theorem pf_X5_mostBlocksOn : plainFor yX5_mostBlocksOn = true := by decide +kernel
theorem pf_X5_pairsThatMeet : plainFor yX5_pairsThatMeet = true := by decide +kernel
theorem pf_X5_differentRows : plainFor yX5_differentRows = true := by decide +kernel
theorem pf_X5_isBelow : plainFor yX5_isBelow = true := by decide +kernel
theorem pf_X6_init : plainFor yX6_init = true := by decide +kernel
theorem pf_X6_append : plainFor yX6_append = true := by decide +kernel
theorem pf_X6_letterAt : plainFor yX6_letterAt = true := by decide +kernel
theorem pf_X7_init : plainFor yX7_init = true := by decide +kernel
theorem pf_X7_write : plainFor yX7_write = true := by decide +kernel
theorem pf_X7_wipe : plainFor yX7_wipe = true := by decide +kernel
theorem pf_X7_fault : plainFor yX7_fault = true := by decide +kernel
theorem pf_X7_lay : plainFor yX7_lay = true := by decide +kernel
theorem pf_X7_add : plainFor yX7_add = true := by decide +kernel
theorem pf_X7_drop : plainFor yX7_drop = true := by decide +kernel
theorem pf_X7_purge : plainFor yX7_purge = true := by decide +kernel
theorem pf_X7_pack : plainFor yX7_pack = true := by decide +kernel
theorem pf_X7_move : plainFor yX7_move = true := by decide +kernel
theorem pf_X7_undo : plainFor yX7_undo = true := by decide +kernel
theorem pf_X7_rule : plainFor yX7_rule = true := by decide +kernel
theorem pf_X7_would : plainFor yX7_would = true := by decide +kernel
theorem pf_X7_moved : plainFor yX7_moved = true := by decide +kernel
theorem pf_X7_slot : plainFor yX7_slot = true := by decide +kernel
theorem pf_X7_reach : plainFor yX7_reach = true := by decide +kernel
theorem pf_X7_meet : plainFor yX7_meet = true := by decide +kernel
theorem pf_X7_join : plainFor yX7_join = true := by decide +kernel
theorem pf_X7_key : plainFor yX7_key = true := by decide +kernel
theorem pf_X7_keys : plainFor yX7_keys = true := by decide +kernel
theorem pf_X7_count : plainFor yX7_count = true := by decide +kernel
theorem pf_X7_isRule : plainFor yX7_isRule = true := by decide +kernel
theorem pf_X7_isSlot : plainFor yX7_isSlot = true := by decide +kernel
theorem pf_X7_isHead : plainFor yX7_isHead = true := by decide +kernel
theorem pf_X7_isSpan : plainFor yX7_isSpan = true := by decide +kernel
theorem pf_X7_readText : plainFor yX7_readText = true := by decide +kernel
theorem pf_X7_layText : plainFor yX7_layText = true := by decide +kernel
theorem pf_X7_tryRule : plainFor yX7_tryRule = true := by decide +kernel
theorem pf_X7_letComeIn : plainFor yX7_letComeIn = true := by decide +kernel
theorem pf_X7_comesInBy : plainFor yX7_comesInBy = true := by decide +kernel
theorem pf_X7_comesInBehindMoveOf : plainFor yX7_comesInBehindMoveOf = true := by decide +kernel
theorem pf_X7_isSameJoined : plainFor yX7_isSameJoined = true := by decide +kernel
theorem pf_X7_pieceSize : plainFor yX7_pieceSize = true := by decide +kernel
theorem pf_X7_rowsOfSpan : plainFor yX7_rowsOfSpan = true := by decide +kernel
theorem pf_X8_in : plainFor yX8_in = true := by decide +kernel
theorem pf_X8_init : plainFor yX8_init = true := by decide +kernel
theorem pf_X8_clears : plainFor yX8_clears = true := by decide +kernel
theorem pf_X8_comes : plainFor yX8_comes = true := by decide +kernel
theorem pf_X8_pieceFrom : plainFor yX8_pieceFrom = true := by decide +kernel
theorem pf_X8_rowsOf : plainFor yX8_rowsOf = true := by decide +kernel
theorem pf_X8_pieceOf : plainFor yX8_pieceOf = true := by decide +kernel
theorem pf_X8_signOf : plainFor yX8_signOf = true := by decide +kernel
theorem pf_X8_maskOf : plainFor yX8_maskOf = true := by decide +kernel
theorem pf_X8_doMeet : plainFor yX8_doMeet = true := by decide +kernel
theorem pf_X8_isFit : plainFor yX8_isFit = true := by decide +kernel
theorem pf_X8_laysMasks : plainFor yX8_laysMasks = true := by decide +kernel
theorem pf_X8_has : plainFor yX8_has = true := by decide +kernel
theorem pf_X8_listRule : plainFor yX8_listRule = true := by decide +kernel
theorem pf_X8_answerBy : plainFor yX8_answerBy = true := by decide +kernel
theorem pf_X8_isCovered : plainFor yX8_isCovered = true := by decide +kernel
theorem pf_X8_isIdle : plainFor yX8_isIdle = true := by decide +kernel
theorem pf_X8_write : plainFor yX8_write = true := by decide +kernel
theorem pf_X8_wipe : plainFor yX8_wipe = true := by decide +kernel
theorem pf_X8_here : plainFor yX8_here = true := by decide +kernel
theorem pf_X8_takes : plainFor yX8_takes = true := by decide +kernel
theorem pf_X8_isNumber : plainFor yX8_isNumber = true := by decide +kernel
theorem pf_X8_isSign : plainFor yX8_isSign = true := by decide +kernel
theorem pf_X8_ofRank : plainFor yX8_ofRank = true := by decide +kernel
theorem pf_X8_readsRule : plainFor yX8_readsRule = true := by decide +kernel
theorem pf_X8_isTold : plainFor yX8_isTold = true := by decide +kernel
theorem pf_X8_fault : plainFor yX8_fault = true := by decide +kernel
theorem pf_X8_lay : plainFor yX8_lay = true := by decide +kernel
theorem pf_X8_packs : plainFor yX8_packs = true := by decide +kernel
theorem pf_X8_remembers : plainFor yX8_remembers = true := by decide +kernel
theorem pf_X8_undo : plainFor yX8_undo = true := by decide +kernel
theorem pf_X8_isInOrder : plainFor yX8_isInOrder = true := by decide +kernel
theorem pf_X8_mayMove : plainFor yX8_mayMove = true := by decide +kernel
theorem pf_X8_moves : plainFor yX8_moves = true := by decide +kernel
theorem pf_X8_placeFor : plainFor yX8_placeFor = true := by decide +kernel
theorem pf_X8_placeBehind : plainFor yX8_placeBehind = true := by decide +kernel
theorem pf_X8_comesRow : plainFor yX8_comesRow = true := by decide +kernel
theorem pf_X8_emptySlots : plainFor yX8_emptySlots = true := by decide +kernel
theorem pf_X8_comesRule : plainFor yX8_comesRule = true := by decide +kernel
theorem pf_X8_putsBack : plainFor yX8_putsBack = true := by decide +kernel
theorem pf_X8_isRule : plainFor yX8_isRule = true := by decide +kernel
theorem pf_X8_add : plainFor yX8_add = true := by decide +kernel
theorem pf_X8_would : plainFor yX8_would = true := by decide +kernel
theorem pf_X8_isRuleNumber : plainFor yX8_isRuleNumber = true := by decide +kernel
theorem pf_X8_goes : plainFor yX8_goes = true := by decide +kernel
theorem pf_X8_drop : plainFor yX8_drop = true := by decide +kernel
theorem pf_X8_purge : plainFor yX8_purge = true := by decide +kernel
theorem pf_X8_pack : plainFor yX8_pack = true := by decide +kernel
theorem pf_X8_isSlot : plainFor yX8_isSlot = true := by decide +kernel
theorem pf_X8_move : plainFor yX8_move = true := by decide +kernel
theorem pf_X8_keysOf : plainFor yX8_keysOf = true := by decide +kernel
theorem pf_X8_bit : plainFor yX8_bit = true := by decide +kernel
theorem pf_X8_rule : plainFor yX8_rule = true := by decide +kernel
theorem pf_X8_moved : plainFor yX8_moved = true := by decide +kernel
theorem pf_X8_slotOf : plainFor yX8_slotOf = true := by decide +kernel
theorem pf_X8_tableAnswer : plainFor yX8_tableAnswer = true := by decide +kernel
theorem pf_X8_slot : plainFor yX8_slot = true := by decide +kernel
theorem pf_X8_reach : plainFor yX8_reach = true := by decide +kernel
theorem pf_X8_meet : plainFor yX8_meet = true := by decide +kernel
theorem pf_X8_isSame : plainFor yX8_isSame = true := by decide +kernel
theorem pf_X8_join : plainFor yX8_join = true := by decide +kernel
theorem pf_X8_blocksOn : plainFor yX8_blocksOn = true := by decide +kernel
theorem pf_X8_key : plainFor yX8_key = true := by decide +kernel
theorem pf_X8_ones : plainFor yX8_ones = true := by decide +kernel
theorem pf_X8_keys : plainFor yX8_keys = true := by decide +kernel
theorem pf_X8_pairsThatMeet : plainFor yX8_pairsThatMeet = true := by decide +kernel
theorem pf_X8_differentRows : plainFor yX8_differentRows = true := by decide +kernel
theorem pf_X8_rulesThat : plainFor yX8_rulesThat = true := by decide +kernel
theorem pf_X8_count : plainFor yX8_count = true := by decide +kernel
theorem pf_L_law : plainFor yL_law = true := by decide +kernel
theorem pf_J6_bitCount_0f7a4 : plainFor yJ6_bitCount_0f7a4 = true := by decide +kernel
theorem pf_J9_max_7cf53 : plainFor yJ9_max_7cf53 = true := by decide +kernel
theorem pf_J9_min_7cf53 : plainFor yJ9_min_7cf53 = true := by decide +kernel
theorem pf_J0_length_8abf5 : plainFor yJ0_length_8abf5 = true := by decide +kernel
theorem pf_J0_charAt_5068e : plainFor yJ0_charAt_5068e = true := by decide +kernel
theorem pf_J0_coder_7d493 : plainFor yJ0_coder_7d493 = true := by decide +kernel
theorem pf_J0_isLatin1_aae02 : plainFor yJ0_isLatin1_aae02 = true := by decide +kernel
theorem pf_J0_checkIndex_df160 : plainFor yJ0_checkIndex_df160 = true := by decide +kernel
theorem pf_J1_charAt_3b067 : plainFor yJ1_charAt_3b067 = true := by decide +kernel
theorem pf_J7_fill_53178 : plainFor yJ7_fill_53178 = true := by decide +kernel
theorem pf_J3_checkIndex_8e157 : plainFor yJ3_checkIndex_8e157 = true := by decide +kernel
theorem ok_stuck {own : String} {cc : ByteArray} {nL : Nat} {ini : Prop} {rk : Int32 → Bool} {pcs : List Nat} {pc : Nat} : xOk own cc nL ini rk pcs pc o_stuck :=
  ⟨fun _ _ _ _ hx => (by cases hx), by
    intro G p l e R s m args below meth c d n0 s0 nF sF Q C ls st h _ _
    exact ⟨fun _ _ _ _ hx => (by cases hx), fun _ _ hx => (by cases hx)⟩⟩
theorem nf_int (v : Value) (h : (false = false ∧ ∃ z, v = .int z) ∨ (false = true ∧ ∃ z, v = .ref z)) : narrow .int v = v ∧ fits .int v = true := by
  rcases h with ⟨-, z, rfl⟩ | ⟨h, -⟩
  · exact ⟨rfl, rfl⟩
  · cases h
theorem nf_obj (C : String) (v : Value) (h : (true = false ∧ ∃ z, v = .int z) ∨ (true = true ∧ ∃ z, v = .ref z)) : narrow (.object C) v = v ∧ fits (.object C) v = true := by
  rcases h with ⟨h, -⟩ | ⟨-, z, rfl⟩
  · cases h
  · exact ⟨rfl, rfl⟩
theorem nf_arr (t : FieldType) (v : Value) (h : (true = false ∧ ∃ z, v = .int z) ∨ (true = true ∧ ∃ z, v = .ref z)) : narrow (.array t) v = v ∧ fits (.array t) v = true := by
  rcases h with ⟨h, -⟩ | ⟨-, z, rfl⟩
  · cases h
  · exact ⟨rfl, rfl⟩
def xInR (M : XMt) (q : MethodName × ByteArray × Nat × Option FieldType) (pcs : List Nat) (i : Nat) (o : XO) : Prop := match o with
  | .inl f => xOk q.1.cls q.2.1 q.2.2.1 (q.1.name = "<init>") (rkOf q.2.2.2) pcs (pcs.getD i 0) f
  | .inr c => xCk M q.1.cls q.2.1 q.2.2.1 (q.1.name = "<init>") pcs (pcs.getD i 0) c ∧ c.2.1 ≤ (M c.2.2.1).2.2.1 ∧ plainFor (M c.2.2.1).1 = true
def xAllL (p : Nat → XO → Prop) : Nat → List XO → Prop
  | _, [] => True
  | i, o :: t => p i o ∧ xAllL p (i + 1) t
theorem xAllL_get {p : Nat → XO → Prop} : ∀ (l : List XO) (k i : Nat) (o : XO), xAllL p k l → l[i]? = some o → p (k + i) o
  | [], _, _, _, _, h => by simp at h
  | a :: t, k, 0, o, h, hi => by
    simp only [List.getElem?_cons_zero, Option.some.injEq] at hi
    subst hi
    exact h.1
  | a :: t, k, i + 1, o, h, hi => by
    have := xAllL_get t (k + 1) i o h.2 (by simpa using hi)
    rwa [show k + 1 + i = k + (i + 1) by omega] at this
def xGood (q : XRow) : Prop := q.2.1.getD 0 0 = 0 ∧ xAllL (xInR xM q.1 q.2.1) 0 q.2.2
