theorem kz_LW : Cond.initialized RLW ∈ WS := WS_t 0 (by decide +kernel) rfl
theorem kz_CW : Cond.initialized RCW ∈ WS := WS_t 1 (by decide +kernel) rfl
theorem kz_RK : Cond.initialized RRK ∈ WS := WS_t 2 (by decide +kernel) rfl
theorem kz_FA : Cond.initialized RFA ∈ WS := WS_t 3 (by decide +kernel) rfl
theorem kz_PA : Cond.initialized RPA ∈ WS := WS_t 4 (by decide +kernel) rfl
theorem kz_TR : Cond.initialized RTR ∈ WS := WS_t 5 (by decide +kernel) rfl
theorem kz_BR : Cond.initialized RBR ∈ WS := WS_t 6 (by decide +kernel) rfl
theorem kz_BT : Cond.initialized RBT ∈ WS := WS_t 7 (by decide +kernel) rfl
theorem kz_PT : Cond.initialized RPT ∈ WS := WS_t 8 (by decide +kernel) rfl
theorem kz_PE : Cond.initialized RPE ∈ WS := WS_t 9 (by decide +kernel) rfl
theorem kz_WD : Cond.initialized RWD ∈ WS := WS_t 10 (by decide +kernel) rfl
theorem kz_AR : Cond.initialized RAR ∈ WS := WS_t 11 (by decide +kernel) rfl
theorem kz_MO : Cond.initialized RMO ∈ WS := WS_t 12 (by decide +kernel) rfl
theorem kz_MA : Cond.initialized RMA ∈ WS := WS_t 18 (by decide +kernel) rfl
theorem kz_FG : Cond.initialized RFG ∈ WS := WS_t 20 (by decide +kernel) rfl
theorem kl_LW_8 : Cond.classLink RLW 8 "CatalanWeb" ∈ WS := WS_t 21 (by decide +kernel) rfl
theorem kt_CW : Cond.instantiable RCW 9 ∈ WS := WS_t 22 (by decide +kernel) rfl
theorem kl_CW_7 : Cond.classLink RCW 7 "CatalanWeb$Ranks" ∈ WS := WS_t 29 (by decide +kernel) rfl
theorem kt_RK : Cond.instantiable RRK 1 ∈ WS := WS_t 30 (by decide +kernel) rfl
theorem km_CW_9 : Cond.methodLink RCW 9 yRK_init ∈ WS := WS_t 31 (by decide +kernel) rfl
theorem ki_RK_init : Cond.instanceMethod yRK_init ∈ WS := WS_t 32 (by decide +kernel) rfl
theorem kc_RK_init : Cond.code yRK_init cRK_init 3 none ∈ WS := WS_t 33 (by decide +kernel) rfl
theorem kl_RK_9 : Cond.classLink RRK 9 "[[I" ∈ WS := WS_t 35 (by decide +kernel) rfl
theorem kf_RK_11 : Cond.fieldLink RRK 11 "CatalanWeb$Ranks" "counts" "[[I" ∈ WS := WS_t 37 (by decide +kernel) rfl
theorem ka_int : Cond.arrayClass .int ∈ WS := WS_t 41 (by decide +kernel) rfl
theorem kl_CW_16 : Cond.classLink RCW 16 "CatalanWeb$Partitions" ∈ WS := WS_t 42 (by decide +kernel) rfl
theorem kt_PA : Cond.instantiable RPA 4 ∈ WS := WS_t 43 (by decide +kernel) rfl
theorem kn_CW_18 : Cond.methodLinkNest RCW 18 yPA_init RCW ∈ lw_tbl := List.mem_append_right _ (List.mem_of_getElem? (i := 44) (by decide +kernel))
theorem ki_PA_init : Cond.instanceMethod yPA_init ∈ WS := WS_t 45 (by decide +kernel) rfl
theorem kc_PA_init : Cond.code yPA_init cPA_init 1 none ∈ WS := WS_t 46 (by decide +kernel) rfl
theorem kn_PA_3 : Cond.methodLinkNest RPA 3 yFA_init RCW ∈ lw_tbl := List.mem_append_right _ (List.mem_of_getElem? (i := 47) (by decide +kernel))
theorem ki_FA_init : Cond.instanceMethod yFA_init ∈ WS := WS_t 48 (by decide +kernel) rfl
theorem kc_FA_init : Cond.code yFA_init cFA_init 1 none ∈ WS := WS_t 49 (by decide +kernel) rfl
theorem kf_PA_9 : Cond.fieldLink RPA 9 "CatalanWeb$Partitions" "pile" "[I" ∈ WS := WS_t 51 (by decide +kernel) rfl
theorem kf_PA_15 : Cond.fieldLink RPA 15 "CatalanWeb$Partitions" "leasts" "[I" ∈ WS := WS_t 52 (by decide +kernel) rfl
theorem kf_PA_18 : Cond.fieldLink RPA 18 "CatalanWeb$Partitions" "greatests" "[I" ∈ WS := WS_t 53 (by decide +kernel) rfl
theorem kf_PA_21 : Cond.fieldLink RPA 21 "CatalanWeb$Partitions" "former" "[I" ∈ WS := WS_t 54 (by decide +kernel) rfl
theorem kl_CW_23 : Cond.classLink RCW 23 "CatalanWeb$Triangulations" ∈ WS := WS_t 64 (by decide +kernel) rfl
theorem kt_TR : Cond.instantiable RTR 3 ∈ WS := WS_t 65 (by decide +kernel) rfl
theorem kn_CW_25 : Cond.methodLinkNest RCW 25 yTR_init RCW ∈ lw_tbl := List.mem_append_right _ (List.mem_of_getElem? (i := 66) (by decide +kernel))
theorem ki_TR_init : Cond.instanceMethod yTR_init ∈ WS := WS_t 67 (by decide +kernel) rfl
theorem kc_TR_init : Cond.code yTR_init cTR_init 1 none ∈ WS := WS_t 68 (by decide +kernel) rfl
theorem kn_TR_3 : Cond.methodLinkNest RTR 3 yFA_init RCW ∈ lw_tbl := List.mem_append_right _ (List.mem_of_getElem? (i := 69) (by decide +kernel))
theorem kf_TR_9 : Cond.fieldLink RTR 9 "CatalanWeb$Triangulations" "lows" "[I" ∈ WS := WS_t 70 (by decide +kernel) rfl
theorem kf_TR_15 : Cond.fieldLink RTR 15 "CatalanWeb$Triangulations" "highs" "[I" ∈ WS := WS_t 71 (by decide +kernel) rfl
theorem kf_TR_18 : Cond.fieldLink RTR 18 "CatalanWeb$Triangulations" "diagonals" "I" ∈ WS := WS_t 72 (by decide +kernel) rfl
theorem kl_CW_30 : Cond.classLink RCW 30 "CatalanWeb$Family" ∈ WS := WS_t 80 (by decide +kernel) rfl
theorem kl_CW_32 : Cond.classLink RCW 32 "CatalanWeb$Brackets" ∈ WS := WS_t 82 (by decide +kernel) rfl
theorem kt_BR : Cond.instantiable RBR 0 ∈ WS := WS_t 83 (by decide +kernel) rfl
theorem kn_CW_34 : Cond.methodLinkNest RCW 34 yBR_init RCW ∈ lw_tbl := List.mem_append_right _ (List.mem_of_getElem? (i := 84) (by decide +kernel))
theorem ki_BR_init : Cond.instanceMethod yBR_init ∈ WS := WS_t 85 (by decide +kernel) rfl
theorem kc_BR_init : Cond.code yBR_init cBR_init 1 none ∈ WS := WS_t 86 (by decide +kernel) rfl
theorem kn_BR_1 : Cond.methodLinkNest RBR 1 yFA_init RCW ∈ lw_tbl := List.mem_append_right _ (List.mem_of_getElem? (i := 87) (by decide +kernel))
theorem kl_CW_35 : Cond.classLink RCW 35 "CatalanWeb$BinaryTrees" ∈ WS := WS_t 89 (by decide +kernel) rfl
theorem kt_BT : Cond.instantiable RBT 1 ∈ WS := WS_t 90 (by decide +kernel) rfl
theorem kn_CW_37 : Cond.methodLinkNest RCW 37 yBT_init RCW ∈ lw_tbl := List.mem_append_right _ (List.mem_of_getElem? (i := 91) (by decide +kernel))
theorem ki_BT_init : Cond.instanceMethod yBT_init ∈ WS := WS_t 92 (by decide +kernel) rfl
theorem kc_BT_init : Cond.code yBT_init cBT_init 1 none ∈ WS := WS_t 93 (by decide +kernel) rfl
theorem kn_BT_3 : Cond.methodLinkNest RBT 3 yFA_init RCW ∈ lw_tbl := List.mem_append_right _ (List.mem_of_getElem? (i := 94) (by decide +kernel))
theorem kf_BT_9 : Cond.fieldLink RBT 9 "CatalanWeb$BinaryTrees" "ends" "[I" ∈ WS := WS_t 95 (by decide +kernel) rfl
theorem kl_CW_38 : Cond.classLink RCW 38 "CatalanWeb$PlaneTrees" ∈ WS := WS_t 99 (by decide +kernel) rfl
theorem kt_PT : Cond.instantiable RPT 1 ∈ WS := WS_t 100 (by decide +kernel) rfl
theorem kn_CW_40 : Cond.methodLinkNest RCW 40 yPT_init RCW ∈ lw_tbl := List.mem_append_right _ (List.mem_of_getElem? (i := 101) (by decide +kernel))
theorem ki_PT_init : Cond.instanceMethod yPT_init ∈ WS := WS_t 102 (by decide +kernel) rfl
theorem kc_PT_init : Cond.code yPT_init cPT_init 1 none ∈ WS := WS_t 103 (by decide +kernel) rfl
theorem kn_PT_3 : Cond.methodLinkNest RPT 3 yFA_init RCW ∈ lw_tbl := List.mem_append_right _ (List.mem_of_getElem? (i := 104) (by decide +kernel))
theorem kf_PT_9 : Cond.fieldLink RPT 9 "CatalanWeb$PlaneTrees" "lasts" "[I" ∈ WS := WS_t 105 (by decide +kernel) rfl
theorem kl_CW_41 : Cond.classLink RCW 41 "CatalanWeb$Permutations" ∈ WS := WS_t 109 (by decide +kernel) rfl
theorem kt_PE : Cond.instantiable RPE 1 ∈ WS := WS_t 110 (by decide +kernel) rfl
theorem kn_CW_43 : Cond.methodLinkNest RCW 43 yPE_init RCW ∈ lw_tbl := List.mem_append_right _ (List.mem_of_getElem? (i := 111) (by decide +kernel))
theorem ki_PE_init : Cond.instanceMethod yPE_init ∈ WS := WS_t 112 (by decide +kernel) rfl
theorem kc_PE_init : Cond.code yPE_init cPE_init 1 none ∈ WS := WS_t 113 (by decide +kernel) rfl
theorem kn_PE_3 : Cond.methodLinkNest RPE 3 yFA_init RCW ∈ lw_tbl := List.mem_append_right _ (List.mem_of_getElem? (i := 114) (by decide +kernel))
theorem kf_PE_9 : Cond.fieldLink RPE 9 "CatalanWeb$Permutations" "openers" "[I" ∈ WS := WS_t 115 (by decide +kernel) rfl
theorem kl_CW_48 : Cond.classLink RCW 48 "CatalanWeb$FlipGraph" ∈ WS := WS_t 119 (by decide +kernel) rfl
theorem kl_CW_61 : Cond.classLink RCW 61 "CatalanWeb$Word" ∈ WS := WS_t 121 (by decide +kernel) rfl
theorem kt_WD : Cond.instantiable RWD 3 ∈ WS := WS_t 122 (by decide +kernel) rfl
theorem kn_CW_63 : Cond.methodLinkNest RCW 63 yWD_init RCW ∈ lw_tbl := List.mem_append_right _ (List.mem_of_getElem? (i := 123) (by decide +kernel))
theorem ki_WD_init : Cond.instanceMethod yWD_init ∈ WS := WS_t 124 (by decide +kernel) rfl
theorem kc_WD_init : Cond.code yWD_init cWD_init 1 none ∈ WS := WS_t 125 (by decide +kernel) rfl
theorem kf_WD_9 : Cond.fieldLink RWD 9 "CatalanWeb$Word" "bits" "[I" ∈ WS := WS_t 127 (by decide +kernel) rfl
theorem kf_WD_15 : Cond.fieldLink RWD 15 "CatalanWeb$Word" "closings" "[I" ∈ WS := WS_t 128 (by decide +kernel) rfl
theorem kf_WD_18 : Cond.fieldLink RWD 18 "CatalanWeb$Word" "pairs" "I" ∈ WS := WS_t 129 (by decide +kernel) rfl
theorem km_CW_71 : Cond.methodLink RCW 71 yRK_seek ∈ WS := WS_t 137 (by decide +kernel) rfl
theorem ki_RK_seek : Cond.instanceMethod yRK_seek ∈ WS := WS_t 138 (by decide +kernel) rfl
theorem ke_RK_RK_seek_RK_seek : Cond.selects RRK yRK_seek yRK_seek ∈ WS := WS_t 139 (by decide +kernel) rfl
theorem kc_RK_seek : Cond.code yRK_seek cRK_seek 9 none ∈ WS := WS_t 140 (by decide +kernel) rfl
theorem km_RK_33 : Cond.methodLink RRK 33 yWD_begin ∈ WS := WS_t 141 (by decide +kernel) rfl
theorem ki_WD_begin : Cond.instanceMethod yWD_begin ∈ WS := WS_t 142 (by decide +kernel) rfl
theorem ke_WD_WD_begin_WD_begin : Cond.selects RWD yWD_begin yWD_begin ∈ WS := WS_t 143 (by decide +kernel) rfl
theorem kc_WD_begin : Cond.code yWD_begin cWD_begin 2 none ∈ WS := WS_t 144 (by decide +kernel) rfl
theorem km_WD_22 : Cond.methodLink RWD 22 yAR_fill ∈ WS := WS_t 145 (by decide +kernel) rfl
theorem ks_AR_fill : Cond.static yAR_fill ∈ WS := WS_t 146 (by decide +kernel) rfl
theorem kc_AR_fill : Cond.code yAR_fill cAR_fill 4 none ∈ WS := WS_t 147 (by decide +kernel) rfl
theorem km_RK_29 : Cond.methodLink RRK 29 yRK_endingsWithOneFirst ∈ WS := WS_t 148 (by decide +kernel) rfl
theorem ki_RK_endingsWithOneFirst : Cond.instanceMethod yRK_endingsWithOneFirst ∈ WS := WS_t 150 (by decide +kernel) rfl
theorem kc_RK_endingsWithOneFirst : Cond.code yRK_endingsWithOneFirst cRK_endingsWithOneFirst 3 (some .int) ∈ WS := WS_t 151 (by decide +kernel) rfl
theorem km_RK_37 : Cond.methodLink RRK 37 yWD_closeAfter ∈ WS := WS_t 152 (by decide +kernel) rfl
theorem ki_WD_closeAfter : Cond.instanceMethod yWD_closeAfter ∈ WS := WS_t 153 (by decide +kernel) rfl
theorem ke_WD_WD_closeAfter_WD_closeAfter : Cond.selects RWD yWD_closeAfter yWD_closeAfter ∈ WS := WS_t 154 (by decide +kernel) rfl
theorem kc_WD_closeAfter : Cond.code yWD_closeAfter cWD_closeAfter 2 none ∈ WS := WS_t 155 (by decide +kernel) rfl
theorem km_RK_40 : Cond.methodLink RRK 40 yWD_finish ∈ WS := WS_t 156 (by decide +kernel) rfl
theorem ki_WD_finish : Cond.instanceMethod yWD_finish ∈ WS := WS_t 157 (by decide +kernel) rfl
theorem ke_WD_WD_finish_WD_finish : Cond.selects RWD yWD_finish yWD_finish ∈ WS := WS_t 158 (by decide +kernel) rfl
theorem kc_WD_finish : Cond.code yWD_finish cWD_finish 5 (some .boolean) ∈ WS := WS_t 159 (by decide +kernel) rfl
theorem kf_CW_10 : Cond.fieldLink RCW 10 "CatalanWeb" "ranks" "LCatalanWeb$Ranks;" ∈ WS := WS_t 160 (by decide +kernel) rfl
theorem kf_CW_19 : Cond.fieldLink RCW 19 "CatalanWeb" "partitions" "LCatalanWeb$Partitions;" ∈ WS := WS_t 161 (by decide +kernel) rfl
theorem kf_CW_26 : Cond.fieldLink RCW 26 "CatalanWeb" "triangulations" "LCatalanWeb$Triangulations;" ∈ WS := WS_t 162 (by decide +kernel) rfl
theorem kf_CW_44 : Cond.fieldLink RCW 44 "CatalanWeb" "families" "[LCatalanWeb$Family;" ∈ WS := WS_t 163 (by decide +kernel) rfl
theorem kf_CW_50 : Cond.fieldLink RCW 50 "CatalanWeb" "graphs" "[LCatalanWeb$FlipGraph;" ∈ WS := WS_t 164 (by decide +kernel) rfl
theorem kf_CW_54 : Cond.fieldLink RCW 54 "CatalanWeb" "paper" "[I" ∈ WS := WS_t 165 (by decide +kernel) rfl
theorem kf_CW_58 : Cond.fieldLink RCW 58 "CatalanWeb" "trial" "[I" ∈ WS := WS_t 166 (by decide +kernel) rfl
theorem kf_CW_64 : Cond.fieldLink RCW 64 "CatalanWeb" "current" "LCatalanWeb$Word;" ∈ WS := WS_t 167 (by decide +kernel) rfl
theorem kf_CW_68 : Cond.fieldLink RCW 68 "CatalanWeb" "draft" "LCatalanWeb$Word;" ∈ WS := WS_t 168 (by decide +kernel) rfl
theorem km_LW_60 : Cond.methodLink RLW 60 yCW_rank ∈ WS := WS_t 188 (by decide +kernel) rfl
theorem ki_CW_rank : Cond.instanceMethod yCW_rank ∈ WS := WS_t 189 (by decide +kernel) rfl
theorem ke_CW_CW_rank_CW_rank : Cond.selects RCW yCW_rank yCW_rank ∈ WS := WS_t 190 (by decide +kernel) rfl
theorem kc_CW_rank : Cond.code yCW_rank cCW_rank 1 (some .int) ∈ WS := WS_t 191 (by decide +kernel) rfl
theorem km_CW_86 : Cond.methodLink RCW 86 yRK_of ∈ WS := WS_t 192 (by decide +kernel) rfl
theorem ki_RK_of : Cond.instanceMethod yRK_of ∈ WS := WS_t 193 (by decide +kernel) rfl
theorem ke_RK_RK_of_RK_of : Cond.selects RRK yRK_of yRK_of ∈ WS := WS_t 194 (by decide +kernel) rfl
theorem kc_RK_of : Cond.code yRK_of cRK_of 6 (some .int) ∈ WS := WS_t 195 (by decide +kernel) rfl
theorem km_RK_16 : Cond.methodLink RRK 16 yWD_pairs ∈ WS := WS_t 196 (by decide +kernel) rfl
theorem ki_WD_pairs : Cond.instanceMethod yWD_pairs ∈ WS := WS_t 197 (by decide +kernel) rfl
theorem ke_WD_WD_pairs_WD_pairs : Cond.selects RWD yWD_pairs yWD_pairs ∈ WS := WS_t 198 (by decide +kernel) rfl
theorem kc_WD_pairs : Cond.code yWD_pairs cWD_pairs 1 (some .int) ∈ WS := WS_t 199 (by decide +kernel) rfl
theorem km_RK_22 : Cond.methodLink RRK 22 yWD_length ∈ WS := WS_t 200 (by decide +kernel) rfl
theorem ki_WD_length : Cond.instanceMethod yWD_length ∈ WS := WS_t 201 (by decide +kernel) rfl
theorem ke_WD_WD_length_WD_length : Cond.selects RWD yWD_length yWD_length ∈ WS := WS_t 202 (by decide +kernel) rfl
theorem kc_WD_length : Cond.code yWD_length cWD_length 1 (some .int) ∈ WS := WS_t 203 (by decide +kernel) rfl
theorem km_RK_25 : Cond.methodLink RRK 25 yWD_isOne ∈ WS := WS_t 204 (by decide +kernel) rfl
theorem ki_WD_isOne : Cond.instanceMethod yWD_isOne ∈ WS := WS_t 205 (by decide +kernel) rfl
theorem ke_WD_WD_isOne_WD_isOne : Cond.selects RWD yWD_isOne yWD_isOne ∈ WS := WS_t 206 (by decide +kernel) rfl
theorem kc_WD_isOne : Cond.code yWD_isOne cWD_isOne 2 (some .boolean) ∈ WS := WS_t 207 (by decide +kernel) rfl
theorem km_WD_28 : Cond.methodLink RWD 28 yWD_length ∈ WS := WS_t 208 (by decide +kernel) rfl
theorem km_LW_85 : Cond.methodLink RLW 85 yCW_mirror ∈ WS := WS_t 209 (by decide +kernel) rfl
theorem ki_CW_mirror : Cond.instanceMethod yCW_mirror ∈ WS := WS_t 210 (by decide +kernel) rfl
theorem ke_CW_CW_mirror_CW_mirror : Cond.selects RCW yCW_mirror yCW_mirror ∈ WS := WS_t 211 (by decide +kernel) rfl
theorem kc_CW_mirror : Cond.code yCW_mirror cCW_mirror 3 (some .int) ∈ WS := WS_t 212 (by decide +kernel) rfl
theorem km_CW_96 : Cond.methodLink RCW 96 yWD_pairs ∈ WS := WS_t 213 (by decide +kernel) rfl
theorem km_CW_135 : Cond.methodLink RCW 135 yWD_begin ∈ WS := WS_t 214 (by decide +kernel) rfl
theorem km_CW_139 : Cond.methodLink RCW 139 yWD_length ∈ WS := WS_t 215 (by decide +kernel) rfl
theorem km_CW_141 : Cond.methodLink RCW 141 yWD_isOne ∈ WS := WS_t 216 (by decide +kernel) rfl
theorem km_CW_144 : Cond.methodLink RCW 144 yWD_closeAfter ∈ WS := WS_t 217 (by decide +kernel) rfl
theorem km_CW_147 : Cond.methodLink RCW 147 yCW_adoptFinished ∈ WS := WS_t 218 (by decide +kernel) rfl
theorem ki_CW_adoptFinished : Cond.instanceMethod yCW_adoptFinished ∈ WS := WS_t 220 (by decide +kernel) rfl
theorem kc_CW_adoptFinished : Cond.code yCW_adoptFinished cCW_adoptFinished 1 (some .int) ∈ WS := WS_t 221 (by decide +kernel) rfl
theorem km_CW_182 : Cond.methodLink RCW 182 yWD_finish ∈ WS := WS_t 222 (by decide +kernel) rfl
theorem km_CW_132 : Cond.methodLink RCW 132 yCW_adoptDraft ∈ WS := WS_t 223 (by decide +kernel) rfl
theorem ki_CW_adoptDraft : Cond.instanceMethod yCW_adoptDraft ∈ WS := WS_t 225 (by decide +kernel) rfl
theorem kc_CW_adoptDraft : Cond.code yCW_adoptDraft cCW_adoptDraft 2 (some .int) ∈ WS := WS_t 226 (by decide +kernel) rfl
theorem km_LW_89 : Cond.methodLink RLW 89 yCW_turn ∈ WS := WS_t 227 (by decide +kernel) rfl
theorem ki_CW_turn : Cond.instanceMethod yCW_turn ∈ WS := WS_t 228 (by decide +kernel) rfl
theorem ke_CW_CW_turn_CW_turn : Cond.selects RCW yCW_turn yCW_turn ∈ WS := WS_t 229 (by decide +kernel) rfl
theorem kc_CW_turn : Cond.code yCW_turn cCW_turn 1 (some .int) ∈ WS := WS_t 230 (by decide +kernel) rfl
theorem km_CW_150 : Cond.methodLink RCW 150 yTR_draw ∈ WS := WS_t 231 (by decide +kernel) rfl
theorem ki_TR_draw : Cond.instanceMethod yTR_draw ∈ WS := WS_t 232 (by decide +kernel) rfl
theorem ke_TR_TR_draw_TR_draw : Cond.selects RTR yTR_draw yTR_draw ∈ WS := WS_t 233 (by decide +kernel) rfl
theorem kc_TR_draw : Cond.code yTR_draw cTR_draw 4 none ∈ WS := WS_t 234 (by decide +kernel) rfl
theorem km_TR_35 : Cond.methodLink RTR 35 yWD_length ∈ WS := WS_t 235 (by decide +kernel) rfl
theorem km_TR_38 : Cond.methodLink RTR 38 yWD_isOne ∈ WS := WS_t 236 (by decide +kernel) rfl
theorem km_TR_42 : Cond.methodLink RTR 42 yWD_fall ∈ WS := WS_t 237 (by decide +kernel) rfl
theorem ki_WD_fall : Cond.instanceMethod yWD_fall ∈ WS := WS_t 238 (by decide +kernel) rfl
theorem ke_WD_WD_fall_WD_fall : Cond.selects RWD yWD_fall yWD_fall ∈ WS := WS_t 239 (by decide +kernel) rfl
theorem kc_WD_fall : Cond.code yWD_fall cWD_fall 4 (some .int) ∈ WS := WS_t 240 (by decide +kernel) rfl
theorem km_TR_46 : Cond.methodLink RTR 46 yWD_zerosBefore ∈ WS := WS_t 241 (by decide +kernel) rfl
theorem ki_WD_zerosBefore : Cond.instanceMethod yWD_zerosBefore ∈ WS := WS_t 242 (by decide +kernel) rfl
theorem ke_WD_WD_zerosBefore_WD_zerosBefore : Cond.selects RWD yWD_zerosBefore yWD_zerosBefore ∈ WS := WS_t 243 (by decide +kernel) rfl
theorem kc_WD_zerosBefore : Cond.code yWD_zerosBefore cWD_zerosBefore 2 (some .int) ∈ WS := WS_t 244 (by decide +kernel) rfl
theorem km_WD_32 : Cond.methodLink RWD 32 yWD_onesBefore ∈ WS := WS_t 245 (by decide +kernel) rfl
theorem ki_WD_onesBefore : Cond.instanceMethod yWD_onesBefore ∈ WS := WS_t 246 (by decide +kernel) rfl
theorem ke_WD_WD_onesBefore_WD_onesBefore : Cond.selects RWD yWD_onesBefore yWD_onesBefore ∈ WS := WS_t 247 (by decide +kernel) rfl
theorem kc_WD_onesBefore : Cond.code yWD_onesBefore cWD_onesBefore 4 (some .int) ∈ WS := WS_t 248 (by decide +kernel) rfl
theorem km_TR_49 : Cond.methodLink RTR 49 yTR_insert ∈ WS := WS_t 249 (by decide +kernel) rfl
theorem ki_TR_insert : Cond.instanceMethod yTR_insert ∈ WS := WS_t 251 (by decide +kernel) rfl
theorem kc_TR_insert : Cond.code yTR_insert cTR_insert 4 none ∈ WS := WS_t 252 (by decide +kernel) rfl
theorem km_TR_53 : Cond.methodLink RTR 53 yTR_comesAfter ∈ WS := WS_t 253 (by decide +kernel) rfl
theorem ki_TR_comesAfter : Cond.instanceMethod yTR_comesAfter ∈ WS := WS_t 255 (by decide +kernel) rfl
theorem kc_TR_comesAfter : Cond.code yTR_comesAfter cTR_comesAfter 4 (some .boolean) ∈ WS := WS_t 256 (by decide +kernel) rfl
theorem km_CW_154 : Cond.methodLink RCW 154 yTR_moveCorners ∈ WS := WS_t 257 (by decide +kernel) rfl
theorem ki_TR_moveCorners : Cond.instanceMethod yTR_moveCorners ∈ WS := WS_t 258 (by decide +kernel) rfl
theorem ke_TR_TR_moveCorners_TR_moveCorners : Cond.selects RTR yTR_moveCorners yTR_moveCorners ∈ WS := WS_t 259 (by decide +kernel) rfl
theorem kc_TR_moveCorners : Cond.code yTR_moveCorners cTR_moveCorners 2 none ∈ WS := WS_t 260 (by decide +kernel) rfl
theorem km_TR_61 : Cond.methodLink RTR 61 yTR_lastCorner ∈ WS := WS_t 261 (by decide +kernel) rfl
theorem ki_TR_lastCorner : Cond.instanceMethod yTR_lastCorner ∈ WS := WS_t 263 (by decide +kernel) rfl
theorem kc_TR_lastCorner : Cond.code yTR_lastCorner cTR_lastCorner 1 (some .int) ∈ WS := WS_t 264 (by decide +kernel) rfl
theorem km_CW_157 : Cond.methodLink RCW 157 yTR_tell ∈ WS := WS_t 265 (by decide +kernel) rfl
theorem ki_TR_tell : Cond.instanceMethod yTR_tell ∈ WS := WS_t 266 (by decide +kernel) rfl
theorem ke_TR_TR_tell_TR_tell : Cond.selects RTR yTR_tell yTR_tell ∈ WS := WS_t 267 (by decide +kernel) rfl
theorem kc_TR_tell : Cond.code yTR_tell cTR_tell 5 none ∈ WS := WS_t 268 (by decide +kernel) rfl
theorem km_TR_26 : Cond.methodLink RTR 26 yWD_pairs ∈ WS := WS_t 269 (by decide +kernel) rfl
theorem km_TR_57 : Cond.methodLink RTR 57 yWD_closeAfter ∈ WS := WS_t 270 (by decide +kernel) rfl
theorem km_LW_93 : Cond.methodLink RLW 93 yCW_complement ∈ WS := WS_t 271 (by decide +kernel) rfl
theorem ki_CW_complement : Cond.instanceMethod yCW_complement ∈ WS := WS_t 272 (by decide +kernel) rfl
theorem ke_CW_CW_complement_CW_complement : Cond.selects RCW yCW_complement yCW_complement ∈ WS := WS_t 273 (by decide +kernel) rfl
theorem kc_CW_complement : Cond.code yCW_complement cCW_complement 1 (some .int) ∈ WS := WS_t 274 (by decide +kernel) rfl
theorem km_CW_160 : Cond.methodLink RCW 160 yPA_tellComplement ∈ WS := WS_t 275 (by decide +kernel) rfl
theorem ki_PA_tellComplement : Cond.instanceMethod yPA_tellComplement ∈ WS := WS_t 276 (by decide +kernel) rfl
theorem ke_PA_PA_tellComplement_PA_tellComplement : Cond.selects RPA yPA_tellComplement yPA_tellComplement ∈ WS := WS_t 277 (by decide +kernel) rfl
theorem kc_PA_tellComplement : Cond.code yPA_tellComplement cPA_tellComplement 5 none ∈ WS := WS_t 278 (by decide +kernel) rfl
theorem km_PA_24 : Cond.methodLink RPA 24 yWD_pairs ∈ WS := WS_t 279 (by decide +kernel) rfl
theorem km_PA_38 : Cond.methodLink RPA 38 yPA_write ∈ WS := WS_t 280 (by decide +kernel) rfl
theorem ki_PA_write : Cond.instanceMethod yPA_write ∈ WS := WS_t 281 (by decide +kernel) rfl
theorem ke_PA_PA_write_PA_write : Cond.selects RPA yPA_write yPA_write ∈ WS := WS_t 282 (by decide +kernel) rfl
theorem kc_PA_write : Cond.code yPA_write cPA_write 7 none ∈ WS := WS_t 283 (by decide +kernel) rfl
theorem km_PA_30 : Cond.methodLink RPA 30 yWD_closingsAfter ∈ WS := WS_t 284 (by decide +kernel) rfl
theorem ki_WD_closingsAfter : Cond.instanceMethod yWD_closingsAfter ∈ WS := WS_t 285 (by decide +kernel) rfl
theorem ke_WD_WD_closingsAfter_WD_closingsAfter : Cond.selects RWD yWD_closingsAfter yWD_closingsAfter ∈ WS := WS_t 286 (by decide +kernel) rfl
theorem kc_WD_closingsAfter : Cond.code yWD_closingsAfter cWD_closingsAfter 2 (some .int) ∈ WS := WS_t 287 (by decide +kernel) rfl
theorem km_PA_42 : Cond.methodLink RPA 42 yPA_next ∈ WS := WS_t 288 (by decide +kernel) rfl
theorem ki_PA_next : Cond.instanceMethod yPA_next ∈ WS := WS_t 290 (by decide +kernel) rfl
theorem kc_PA_next : Cond.code yPA_next cPA_next 4 (some .int) ∈ WS := WS_t 291 (by decide +kernel) rfl
theorem km_PA_46 : Cond.methodLink RPA 46 yPA_greatestReached ∈ WS := WS_t 292 (by decide +kernel) rfl
theorem ki_PA_greatestReached : Cond.instanceMethod yPA_greatestReached ∈ WS := WS_t 294 (by decide +kernel) rfl
theorem kc_PA_greatestReached : Cond.code yPA_greatestReached cPA_greatestReached 6 (some .int) ∈ WS := WS_t 295 (by decide +kernel) rfl
theorem km_PA_34 : Cond.methodLink RPA 34 yWD_closeAfter ∈ WS := WS_t 299 (by decide +kernel) rfl
theorem km_LW_50 : Cond.methodLink RLW 50 yLW_size ∈ WS := WS_t 300 (by decide +kernel) rfl
theorem ks_LW_size : Cond.static yLW_size ∈ WS := WS_t 301 (by decide +kernel) rfl
theorem kl_LW_13 : Cond.classLink RLW 13 "java/lang/IllegalArgumentException" ∈ WS := WS_t 303 (by decide +kernel) rfl
theorem km_LW_7 : Cond.methodLink RLW 7 yCW_size ∈ WS := WS_t 304 (by decide +kernel) rfl
theorem ki_CW_size : Cond.instanceMethod yCW_size ∈ WS := WS_t 305 (by decide +kernel) rfl
theorem ke_CW_CW_size_CW_size : Cond.selects RCW yCW_size yCW_size ∈ WS := WS_t 306 (by decide +kernel) rfl
theorem kc_CW_size : Cond.code yCW_size cCW_size 2 (some .int) ∈ WS := WS_t 307 (by decide +kernel) rfl
theorem kl_CW_75 : Cond.classLink RCW 75 "java/lang/IllegalArgumentException" ∈ WS := WS_t 308 (by decide +kernel) rfl
theorem ka_byte : Cond.arrayClass .byte ∈ WS := WS_t 375 (by decide +kernel) rfl
theorem km_CW_82 : Cond.methodLink RCW 82 yRK_words ∈ WS := WS_t 376 (by decide +kernel) rfl
theorem ki_RK_words : Cond.instanceMethod yRK_words ∈ WS := WS_t 377 (by decide +kernel) rfl
theorem ke_RK_RK_words_RK_words : Cond.selects RRK yRK_words yRK_words ∈ WS := WS_t 378 (by decide +kernel) rfl
theorem kc_RK_words : Cond.code yRK_words cRK_words 2 (some .int) ∈ WS := WS_t 379 (by decide +kernel) rfl
theorem km_LW_64 : Cond.methodLink RLW 64 yLW_unrank ∈ WS := WS_t 380 (by decide +kernel) rfl
theorem ks_LW_unrank : Cond.static yLW_unrank ∈ WS := WS_t 381 (by decide +kernel) rfl
theorem km_LW_15 : Cond.methodLink RLW 15 yCW_unrank ∈ WS := WS_t 383 (by decide +kernel) rfl
theorem ki_CW_unrank : Cond.instanceMethod yCW_unrank ∈ WS := WS_t 384 (by decide +kernel) rfl
theorem ke_CW_CW_unrank_CW_unrank : Cond.selects RCW yCW_unrank yCW_unrank ∈ WS := WS_t 385 (by decide +kernel) rfl
theorem kc_CW_unrank : Cond.code yCW_unrank cCW_unrank 2 none ∈ WS := WS_t 386 (by decide +kernel) rfl
theorem km_CW_90 : Cond.methodLink RCW 90 yCW_isRank ∈ WS := WS_t 387 (by decide +kernel) rfl
theorem ki_CW_isRank : Cond.instanceMethod yCW_isRank ∈ WS := WS_t 389 (by decide +kernel) rfl
theorem kc_CW_isRank : Cond.code yCW_isRank cCW_isRank 2 (some .boolean) ∈ WS := WS_t 390 (by decide +kernel) rfl
theorem km_LW_68 : Cond.methodLink RLW 68 yLW_rows ∈ WS := WS_t 392 (by decide +kernel) rfl
theorem ks_LW_rows : Cond.static yLW_rows ∈ WS := WS_t 393 (by decide +kernel) rfl
theorem km_LW_19 : Cond.methodLink RLW 19 yCW_rows ∈ WS := WS_t 395 (by decide +kernel) rfl
theorem ki_CW_rows : Cond.instanceMethod yCW_rows ∈ WS := WS_t 396 (by decide +kernel) rfl
theorem ke_CW_CW_rows_CW_rows : Cond.selects RCW yCW_rows yCW_rows ∈ WS := WS_t 397 (by decide +kernel) rfl
theorem kc_CW_rows : Cond.code yCW_rows cCW_rows 3 (some .int) ∈ WS := WS_t 398 (by decide +kernel) rfl
theorem km_CW_102 : Cond.methodLink RCW 102 yRK_count ∈ WS := WS_t 400 (by decide +kernel) rfl
theorem ki_RK_count : Cond.instanceMethod yRK_count ∈ WS := WS_t 401 (by decide +kernel) rfl
theorem ke_RK_RK_count_RK_count : Cond.selects RRK yRK_count yRK_count ∈ WS := WS_t 402 (by decide +kernel) rfl
theorem kc_RK_count : Cond.code yRK_count cRK_count 3 (some .int) ∈ WS := WS_t 403 (by decide +kernel) rfl
theorem km_LW_72 : Cond.methodLink RLW 72 yLW_put ∈ WS := WS_t 404 (by decide +kernel) rfl
theorem ks_LW_put : Cond.static yLW_put ∈ WS := WS_t 405 (by decide +kernel) rfl
theorem kl_LW_27 : Cond.classLink RLW 27 "java/lang/IndexOutOfBoundsException" ∈ WS := WS_t 407 (by decide +kernel) rfl
theorem km_LW_23 : Cond.methodLink RLW 23 yCW_put ∈ WS := WS_t 408 (by decide +kernel) rfl
theorem ki_CW_put : Cond.instanceMethod yCW_put ∈ WS := WS_t 409 (by decide +kernel) rfl
theorem ke_CW_CW_put_CW_put : Cond.selects RCW yCW_put yCW_put ∈ WS := WS_t 410 (by decide +kernel) rfl
theorem kc_CW_put : Cond.code yCW_put cCW_put 3 none ∈ WS := WS_t 411 (by decide +kernel) rfl
theorem kl_CW_106 : Cond.classLink RCW 106 "java/lang/IndexOutOfBoundsException" ∈ WS := WS_t 412 (by decide +kernel) rfl
theorem km_LW_76 : Cond.methodLink RLW 76 yLW_note ∈ WS := WS_t 428 (by decide +kernel) rfl
theorem ks_LW_note : Cond.static yLW_note ∈ WS := WS_t 429 (by decide +kernel) rfl
theorem km_LW_29 : Cond.methodLink RLW 29 yCW_note ∈ WS := WS_t 431 (by decide +kernel) rfl
theorem ki_CW_note : Cond.instanceMethod yCW_note ∈ WS := WS_t 432 (by decide +kernel) rfl
theorem ke_CW_CW_note_CW_note : Cond.selects RCW yCW_note yCW_note ∈ WS := WS_t 433 (by decide +kernel) rfl
theorem kc_CW_note : Cond.code yCW_note cCW_note 2 (some .int) ∈ WS := WS_t 434 (by decide +kernel) rfl
theorem km_LW_79 : Cond.methodLink RLW 79 yLW_show ∈ WS := WS_t 435 (by decide +kernel) rfl
theorem ks_LW_show : Cond.static yLW_show ∈ WS := WS_t 436 (by decide +kernel) rfl
theorem km_LW_32 : Cond.methodLink RLW 32 yCW_show ∈ WS := WS_t 438 (by decide +kernel) rfl
theorem ki_CW_show : Cond.instanceMethod yCW_show ∈ WS := WS_t 439 (by decide +kernel) rfl
theorem ke_CW_CW_show_CW_show : Cond.selects RCW yCW_show yCW_show ∈ WS := WS_t 440 (by decide +kernel) rfl
theorem kc_CW_show : Cond.code yCW_show cCW_show 2 (some .int) ∈ WS := WS_t 441 (by decide +kernel) rfl
theorem km_CW_111 : Cond.methodLink RCW 111 yCW_isFamily ∈ WS := WS_t 442 (by decide +kernel) rfl
theorem ki_CW_isFamily : Cond.instanceMethod yCW_isFamily ∈ WS := WS_t 444 (by decide +kernel) rfl
theorem kc_CW_isFamily : Cond.code yCW_isFamily cCW_isFamily 2 (some .boolean) ∈ WS := WS_t 445 (by decide +kernel) rfl
theorem km_CW_116 : Cond.methodLink RCW 116 yFA_write ∈ WS := WS_t 447 (by decide +kernel) rfl
theorem kx_FA_write : Cond.declares yFA_write ∈ lw_tbl := List.mem_append_right _ (List.mem_of_getElem? (i := 448) (by decide +kernel))
theorem kq_FA_write : Cond.sameMethod "CatalanWeb$Family" "CatalanWeb$Family" "write" "(LCatalanWeb$Word;[I)V" ∈ WS := WS_t 449 (by decide +kernel) rfl
theorem ke_BT_FA_write_BT_write : Cond.selects RBT yFA_write yBT_write ∈ WS := WS_t 450 (by decide +kernel) rfl
theorem ki_BT_write : Cond.instanceMethod yBT_write ∈ WS := WS_t 451 (by decide +kernel) rfl
theorem kc_BT_write : Cond.code yBT_write cBT_write 5 none ∈ WS := WS_t 452 (by decide +kernel) rfl
theorem km_BT_15 : Cond.methodLink RBT 15 yWD_length ∈ WS := WS_t 453 (by decide +kernel) rfl
theorem km_BT_21 : Cond.methodLink RBT 21 yWD_isOne ∈ WS := WS_t 454 (by decide +kernel) rfl
theorem km_BT_25 : Cond.methodLink RBT 25 yBT_nodeAt ∈ WS := WS_t 455 (by decide +kernel) rfl
theorem ks_BT_nodeAt : Cond.static yBT_nodeAt ∈ WS := WS_t 456 (by decide +kernel) rfl
theorem kc_BT_nodeAt : Cond.code yBT_nodeAt cBT_nodeAt 2 (some .int) ∈ WS := WS_t 457 (by decide +kernel) rfl
theorem km_BT_33 : Cond.methodLink RBT 33 yWD_onesBefore ∈ WS := WS_t 458 (by decide +kernel) rfl
theorem km_BT_29 : Cond.methodLink RBT 29 yWD_fall ∈ WS := WS_t 459 (by decide +kernel) rfl
theorem ke_BR_FA_write_BR_write : Cond.selects RBR yFA_write yBR_write ∈ WS := WS_t 460 (by decide +kernel) rfl
theorem ki_BR_write : Cond.instanceMethod yBR_write ∈ WS := WS_t 461 (by decide +kernel) rfl
theorem kc_BR_write : Cond.code yBR_write cBR_write 4 none ∈ WS := WS_t 462 (by decide +kernel) rfl
theorem km_BR_7 : Cond.methodLink RBR 7 yWD_length ∈ WS := WS_t 463 (by decide +kernel) rfl
theorem km_BR_13 : Cond.methodLink RBR 13 yWD_isOne ∈ WS := WS_t 464 (by decide +kernel) rfl
theorem ke_PA_FA_write_PA_write : Cond.selects RPA yFA_write yPA_write ∈ WS := WS_t 465 (by decide +kernel) rfl
theorem ke_PE_FA_write_PE_write : Cond.selects RPE yFA_write yPE_write ∈ WS := WS_t 466 (by decide +kernel) rfl
theorem ki_PE_write : Cond.instanceMethod yPE_write ∈ WS := WS_t 467 (by decide +kernel) rfl
theorem kc_PE_write : Cond.code yPE_write cPE_write 5 none ∈ WS := WS_t 468 (by decide +kernel) rfl
theorem km_PE_15 : Cond.methodLink RPE 15 yWD_length ∈ WS := WS_t 469 (by decide +kernel) rfl
theorem km_PE_21 : Cond.methodLink RPE 21 yWD_isOne ∈ WS := WS_t 470 (by decide +kernel) rfl
theorem km_PE_25 : Cond.methodLink RPE 25 yWD_fall ∈ WS := WS_t 471 (by decide +kernel) rfl
theorem km_PE_29 : Cond.methodLink RPE 29 yWD_zerosBefore ∈ WS := WS_t 472 (by decide +kernel) rfl
theorem ke_PT_FA_write_PT_write : Cond.selects RPT yFA_write yPT_write ∈ WS := WS_t 473 (by decide +kernel) rfl
theorem ki_PT_write : Cond.instanceMethod yPT_write ∈ WS := WS_t 474 (by decide +kernel) rfl
theorem kc_PT_write : Cond.code yPT_write cPT_write 6 none ∈ WS := WS_t 475 (by decide +kernel) rfl
theorem km_PT_15 : Cond.methodLink RPT 15 yWD_length ∈ WS := WS_t 476 (by decide +kernel) rfl
theorem km_PT_21 : Cond.methodLink RPT 21 yWD_isOne ∈ WS := WS_t 477 (by decide +kernel) rfl
theorem ke_TR_FA_write_TR_write : Cond.selects RTR yFA_write yTR_write ∈ WS := WS_t 478 (by decide +kernel) rfl
theorem ki_TR_write : Cond.instanceMethod yTR_write ∈ WS := WS_t 479 (by decide +kernel) rfl
theorem kc_TR_write : Cond.code yTR_write cTR_write 4 none ∈ WS := WS_t 480 (by decide +kernel) rfl
theorem km_TR_22 : Cond.methodLink RTR 22 yTR_draw ∈ WS := WS_t 481 (by decide +kernel) rfl
theorem km_CW_120 : Cond.methodLink RCW 120 yFA_length ∈ WS := WS_t 482 (by decide +kernel) rfl
theorem kx_FA_length : Cond.declares yFA_length ∈ lw_tbl := List.mem_append_right _ (List.mem_of_getElem? (i := 483) (by decide +kernel))
theorem kq_FA_length : Cond.sameMethod "CatalanWeb$Family" "CatalanWeb$Family" "length" "(I)I" ∈ WS := WS_t 484 (by decide +kernel) rfl
theorem ke_BT_FA_length_BT_length : Cond.selects RBT yFA_length yBT_length ∈ WS := WS_t 485 (by decide +kernel) rfl
theorem ki_BT_length : Cond.instanceMethod yBT_length ∈ WS := WS_t 486 (by decide +kernel) rfl
theorem kc_BT_length : Cond.code yBT_length cBT_length 2 (some .int) ∈ WS := WS_t 487 (by decide +kernel) rfl
theorem ke_BR_FA_length_BR_length : Cond.selects RBR yFA_length yBR_length ∈ WS := WS_t 488 (by decide +kernel) rfl
theorem ki_BR_length : Cond.instanceMethod yBR_length ∈ WS := WS_t 489 (by decide +kernel) rfl
theorem kc_BR_length : Cond.code yBR_length cBR_length 2 (some .int) ∈ WS := WS_t 490 (by decide +kernel) rfl
theorem ke_PA_FA_length_PA_length : Cond.selects RPA yFA_length yPA_length ∈ WS := WS_t 491 (by decide +kernel) rfl
theorem ki_PA_length : Cond.instanceMethod yPA_length ∈ WS := WS_t 492 (by decide +kernel) rfl
theorem kc_PA_length : Cond.code yPA_length cPA_length 2 (some .int) ∈ WS := WS_t 493 (by decide +kernel) rfl
theorem ke_PE_FA_length_PE_length : Cond.selects RPE yFA_length yPE_length ∈ WS := WS_t 494 (by decide +kernel) rfl
theorem ki_PE_length : Cond.instanceMethod yPE_length ∈ WS := WS_t 495 (by decide +kernel) rfl
theorem kc_PE_length : Cond.code yPE_length cPE_length 2 (some .int) ∈ WS := WS_t 496 (by decide +kernel) rfl
theorem ke_PT_FA_length_PT_length : Cond.selects RPT yFA_length yPT_length ∈ WS := WS_t 497 (by decide +kernel) rfl
theorem ki_PT_length : Cond.instanceMethod yPT_length ∈ WS := WS_t 498 (by decide +kernel) rfl
theorem kc_PT_length : Cond.code yPT_length cPT_length 2 (some .int) ∈ WS := WS_t 499 (by decide +kernel) rfl
theorem ke_TR_FA_length_TR_length : Cond.selects RTR yFA_length yTR_length ∈ WS := WS_t 500 (by decide +kernel) rfl
theorem ki_TR_length : Cond.instanceMethod yTR_length ∈ WS := WS_t 501 (by decide +kernel) rfl
theorem kc_TR_length : Cond.code yTR_length cTR_length 2 (some .int) ∈ WS := WS_t 502 (by decide +kernel) rfl
theorem km_LW_82 : Cond.methodLink RLW 82 yLW_take ∈ WS := WS_t 503 (by decide +kernel) rfl
theorem ks_LW_take : Cond.static yLW_take ∈ WS := WS_t 504 (by decide +kernel) rfl
theorem kl_LW_38 : Cond.classLink RLW 38 "java/lang/IllegalStateException" ∈ WS := WS_t 506 (by decide +kernel) rfl
theorem km_LW_35 : Cond.methodLink RLW 35 yCW_take ∈ WS := WS_t 507 (by decide +kernel) rfl
theorem ki_CW_take : Cond.instanceMethod yCW_take ∈ WS := WS_t 508 (by decide +kernel) rfl
theorem ke_CW_CW_take_CW_take : Cond.selects RCW yCW_take yCW_take ∈ WS := WS_t 509 (by decide +kernel) rfl
theorem kc_CW_take : Cond.code yCW_take cCW_take 2 (some .int) ∈ WS := WS_t 510 (by decide +kernel) rfl
theorem km_CW_123 : Cond.methodLink RCW 123 yCW_draftFromPaper ∈ WS := WS_t 511 (by decide +kernel) rfl
theorem ki_CW_draftFromPaper : Cond.instanceMethod yCW_draftFromPaper ∈ WS := WS_t 513 (by decide +kernel) rfl
theorem kc_CW_draftFromPaper : Cond.code yCW_draftFromPaper cCW_draftFromPaper 3 (some .boolean) ∈ WS := WS_t 514 (by decide +kernel) rfl
theorem km_CW_178 : Cond.methodLink RCW 178 yFA_read ∈ WS := WS_t 515 (by decide +kernel) rfl
theorem kx_FA_read : Cond.declares yFA_read ∈ lw_tbl := List.mem_append_right _ (List.mem_of_getElem? (i := 516) (by decide +kernel))
theorem kq_FA_read : Cond.sameMethod "CatalanWeb$Family" "CatalanWeb$Family" "read" "([ILCatalanWeb$Word;)V" ∈ WS := WS_t 517 (by decide +kernel) rfl
theorem ke_BT_FA_read_BT_read : Cond.selects RBT yFA_read yBT_read ∈ WS := WS_t 518 (by decide +kernel) rfl
theorem ki_BT_read : Cond.instanceMethod yBT_read ∈ WS := WS_t 519 (by decide +kernel) rfl
theorem kc_BT_read : Cond.code yBT_read cBT_read 7 none ∈ WS := WS_t 520 (by decide +kernel) rfl
theorem km_BT_36 : Cond.methodLink RBT 36 yWD_pairs ∈ WS := WS_t 521 (by decide +kernel) rfl
theorem km_BT_39 : Cond.methodLink RBT 39 yAR_fill ∈ WS := WS_t 522 (by decide +kernel) rfl
theorem km_BT_45 : Cond.methodLink RBT 45 yWD_closeAfter ∈ WS := WS_t 523 (by decide +kernel) rfl
theorem ke_BR_FA_read_BR_read : Cond.selects RBR yFA_read yBR_read ∈ WS := WS_t 524 (by decide +kernel) rfl
theorem ki_BR_read : Cond.instanceMethod yBR_read ∈ WS := WS_t 525 (by decide +kernel) rfl
theorem kc_BR_read : Cond.code yBR_read cBR_read 5 none ∈ WS := WS_t 526 (by decide +kernel) rfl
theorem km_BR_17 : Cond.methodLink RBR 17 yWD_closeAfter ∈ WS := WS_t 527 (by decide +kernel) rfl
theorem ke_PA_FA_read_PA_read : Cond.selects RPA yFA_read yPA_read ∈ WS := WS_t 528 (by decide +kernel) rfl
theorem ki_PA_read : Cond.instanceMethod yPA_read ∈ WS := WS_t 529 (by decide +kernel) rfl
theorem kc_PA_read : Cond.code yPA_read cPA_read 6 none ∈ WS := WS_t 530 (by decide +kernel) rfl
theorem ke_PE_FA_read_PE_read : Cond.selects RPE yFA_read yPE_read ∈ WS := WS_t 531 (by decide +kernel) rfl
theorem ki_PE_read : Cond.instanceMethod yPE_read ∈ WS := WS_t 532 (by decide +kernel) rfl
theorem kc_PE_read : Cond.code yPE_read cPE_read 6 none ∈ WS := WS_t 533 (by decide +kernel) rfl
theorem km_PE_32 : Cond.methodLink RPE 32 yWD_pairs ∈ WS := WS_t 534 (by decide +kernel) rfl
theorem km_PE_35 : Cond.methodLink RPE 35 yAR_fill ∈ WS := WS_t 535 (by decide +kernel) rfl
theorem km_PE_47 : Cond.methodLink RPE 47 yWD_closeAfter ∈ WS := WS_t 537 (by decide +kernel) rfl
theorem ke_PT_FA_read_PT_read : Cond.selects RPT yFA_read yPT_read ∈ WS := WS_t 538 (by decide +kernel) rfl
theorem ki_PT_read : Cond.instanceMethod yPT_read ∈ WS := WS_t 539 (by decide +kernel) rfl
theorem kc_PT_read : Cond.code yPT_read cPT_read 6 none ∈ WS := WS_t 540 (by decide +kernel) rfl
theorem km_PT_25 : Cond.methodLink RPT 25 yWD_pairs ∈ WS := WS_t 541 (by decide +kernel) rfl
theorem km_PT_34 : Cond.methodLink RPT 34 yWD_closeAfter ∈ WS := WS_t 543 (by decide +kernel) rfl
theorem ke_TR_FA_read_TR_read : Cond.selects RTR yFA_read yTR_read ∈ WS := WS_t 544 (by decide +kernel) rfl
theorem ki_TR_read : Cond.instanceMethod yTR_read ∈ WS := WS_t 545 (by decide +kernel) rfl
theorem kc_TR_read : Cond.code yTR_read cTR_read 4 none ∈ WS := WS_t 546 (by decide +kernel) rfl
theorem km_TR_32 : Cond.methodLink RTR 32 yTR_tell ∈ WS := WS_t 547 (by decide +kernel) rfl
theorem kl_CW_127 : Cond.classLink RCW 127 "java/lang/IllegalStateException" ∈ WS := WS_t 548 (by decide +kernel) rfl
theorem km_LW_97 : Cond.methodLink RLW 97 yLW_flip ∈ WS := WS_t 564 (by decide +kernel) rfl
theorem ks_LW_flip : Cond.static yLW_flip ∈ WS := WS_t 565 (by decide +kernel) rfl
theorem km_LW_40 : Cond.methodLink RLW 40 yCW_flip ∈ WS := WS_t 567 (by decide +kernel) rfl
theorem ki_CW_flip : Cond.instanceMethod yCW_flip ∈ WS := WS_t 568 (by decide +kernel) rfl
theorem ke_CW_CW_flip_CW_flip : Cond.selects RCW yCW_flip yCW_flip ∈ WS := WS_t 569 (by decide +kernel) rfl
theorem kc_CW_flip : Cond.code yCW_flip cCW_flip 2 (some .int) ∈ WS := WS_t 570 (by decide +kernel) rfl
theorem km_CW_166 : Cond.methodLink RCW 166 yTR_exchange ∈ WS := WS_t 572 (by decide +kernel) rfl
theorem ki_TR_exchange : Cond.instanceMethod yTR_exchange ∈ WS := WS_t 573 (by decide +kernel) rfl
theorem ke_TR_TR_exchange_TR_exchange : Cond.selects RTR yTR_exchange yTR_exchange ∈ WS := WS_t 574 (by decide +kernel) rfl
theorem kc_TR_exchange : Cond.code yTR_exchange cTR_exchange 5 none ∈ WS := WS_t 575 (by decide +kernel) rfl
theorem km_TR_64 : Cond.methodLink RTR 64 yTR_joined ∈ WS := WS_t 576 (by decide +kernel) rfl
theorem ki_TR_joined : Cond.instanceMethod yTR_joined ∈ WS := WS_t 578 (by decide +kernel) rfl
theorem kc_TR_joined : Cond.code yTR_joined cTR_joined 6 (some .boolean) ∈ WS := WS_t 579 (by decide +kernel) rfl
theorem km_LW_100 : Cond.methodLink RLW 100 yLW_flips ∈ WS := WS_t 584 (by decide +kernel) rfl
theorem ks_LW_flips : Cond.static yLW_flips ∈ WS := WS_t 585 (by decide +kernel) rfl
theorem km_LW_43 : Cond.methodLink RLW 43 yCW_flips ∈ WS := WS_t 587 (by decide +kernel) rfl
theorem ki_CW_flips : Cond.instanceMethod yCW_flips ∈ WS := WS_t 588 (by decide +kernel) rfl
theorem ke_CW_CW_flips_CW_flips : Cond.selects RCW yCW_flips yCW_flips ∈ WS := WS_t 589 (by decide +kernel) rfl
theorem kc_CW_flips : Cond.code yCW_flips cCW_flips 2 (some .int) ∈ WS := WS_t 590 (by decide +kernel) rfl
theorem km_CW_171 : Cond.methodLink RCW 171 yCW_graphOf ∈ WS := WS_t 592 (by decide +kernel) rfl
theorem ki_CW_graphOf : Cond.instanceMethod yCW_graphOf ∈ WS := WS_t 594 (by decide +kernel) rfl
theorem kc_CW_graphOf : Cond.code yCW_graphOf cCW_graphOf 3 (some (.object "CatalanWeb$FlipGraph")) ∈ WS := WS_t 595 (by decide +kernel) rfl
theorem kt_FG : Cond.instantiable RFG 5 ∈ WS := WS_t 596 (by decide +kernel) rfl
theorem km_CW_186 : Cond.methodLink RCW 186 yFG_init ∈ WS := WS_t 597 (by decide +kernel) rfl
theorem ki_FG_init : Cond.instanceMethod yFG_init ∈ WS := WS_t 598 (by decide +kernel) rfl
theorem kc_FG_init : Cond.code yFG_init cFG_init 8 none ∈ WS := WS_t 599 (by decide +kernel) rfl
theorem km_FG_9 : Cond.methodLink RFG 9 yRK_words ∈ WS := WS_t 601 (by decide +kernel) rfl
theorem kl_FG_33 : Cond.classLink RFG 33 "CatalanWeb$Word" ∈ WS := WS_t 602 (by decide +kernel) rfl
theorem kn_FG_35 : Cond.methodLinkNest RFG 35 yWD_init RCW ∈ lw_tbl := List.mem_append_right _ (List.mem_of_getElem? (i := 603) (by decide +kernel))
theorem km_FG_36 : Cond.methodLink RFG 36 yRK_seek ∈ WS := WS_t 604 (by decide +kernel) rfl
theorem km_FG_40 : Cond.methodLink RFG 40 yTR_draw ∈ WS := WS_t 605 (by decide +kernel) rfl
theorem km_FG_46 : Cond.methodLink RFG 46 yTR_exchange ∈ WS := WS_t 606 (by decide +kernel) rfl
theorem km_FG_50 : Cond.methodLink RFG 50 yWD_begin ∈ WS := WS_t 607 (by decide +kernel) rfl
theorem km_FG_53 : Cond.methodLink RFG 53 yTR_tell ∈ WS := WS_t 608 (by decide +kernel) rfl
theorem km_FG_56 : Cond.methodLink RFG 56 yWD_finish ∈ WS := WS_t 609 (by decide +kernel) rfl
theorem km_FG_60 : Cond.methodLink RFG 60 yRK_of ∈ WS := WS_t 610 (by decide +kernel) rfl
theorem kf_FG_15 : Cond.fieldLink RFG 15 "CatalanWeb$FlipGraph" "words" "I" ∈ WS := WS_t 611 (by decide +kernel) rfl
theorem kf_FG_20 : Cond.fieldLink RFG 20 "CatalanWeb$FlipGraph" "diagonals" "I" ∈ WS := WS_t 612 (by decide +kernel) rfl
theorem kf_FG_23 : Cond.fieldLink RFG 23 "CatalanWeb$FlipGraph" "links" "[I" ∈ WS := WS_t 613 (by decide +kernel) rfl
theorem kf_FG_27 : Cond.fieldLink RFG 27 "CatalanWeb$FlipGraph" "steps" "[I" ∈ WS := WS_t 614 (by decide +kernel) rfl
theorem kf_FG_30 : Cond.fieldLink RFG 30 "CatalanWeb$FlipGraph" "queue" "[I" ∈ WS := WS_t 615 (by decide +kernel) rfl
theorem km_CW_175 : Cond.methodLink RCW 175 yFG_distance ∈ WS := WS_t 627 (by decide +kernel) rfl
theorem ki_FG_distance : Cond.instanceMethod yFG_distance ∈ WS := WS_t 628 (by decide +kernel) rfl
theorem ke_FG_FG_distance_FG_distance : Cond.selects RFG yFG_distance yFG_distance ∈ WS := WS_t 629 (by decide +kernel) rfl
theorem kc_FG_distance : Cond.code yFG_distance cFG_distance 5 (some .int) ∈ WS := WS_t 630 (by decide +kernel) rfl
theorem km_FG_64 : Cond.methodLink RFG 64 yAR_fill ∈ WS := WS_t 631 (by decide +kernel) rfl
theorem km_FG_70 : Cond.methodLink RFG 70 yFG_findNeighbours ∈ WS := WS_t 632 (by decide +kernel) rfl
theorem ki_FG_findNeighbours : Cond.instanceMethod yFG_findNeighbours ∈ WS := WS_t 634 (by decide +kernel) rfl
theorem kc_FG_findNeighbours : Cond.code yFG_findNeighbours cFG_findNeighbours 6 (some .int) ∈ WS := WS_t 635 (by decide +kernel) rfl
theorem kl_LW_47 : Cond.classLink RLW 47 "CatalanWebModel" ∈ WS := WS_t 636 (by decide +kernel) rfl
theorem kt_MO : Cond.instantiable RMO 15 ∈ WS := WS_t 637 (by decide +kernel) rfl
theorem kf_MO_54 : Cond.fieldLink RMO 54 "CatalanWebModel" "code" "I" ∈ WS := WS_t 642 (by decide +kernel) rfl
theorem kf_MO_7 : Cond.fieldLink RMO 7 "CatalanWebModel" "n" "I" ∈ WS := WS_t 643 (by decide +kernel) rfl
theorem kf_MO_13 : Cond.fieldLink RMO 13 "CatalanWebModel" "word" "[I" ∈ WS := WS_t 644 (by decide +kernel) rfl
theorem kf_MO_17 : Cond.fieldLink RMO 17 "CatalanWebModel" "note" "[I" ∈ WS := WS_t 645 (by decide +kernel) rfl
theorem kf_MO_20 : Cond.fieldLink RMO 20 "CatalanWebModel" "tried" "[I" ∈ WS := WS_t 646 (by decide +kernel) rfl
theorem kf_MO_23 : Cond.fieldLink RMO 23 "CatalanWebModel" "shown" "[I" ∈ WS := WS_t 647 (by decide +kernel) rfl
theorem kf_MO_26 : Cond.fieldLink RMO 26 "CatalanWebModel" "wanted" "[I" ∈ WS := WS_t 648 (by decide +kernel) rfl
theorem kf_MO_29 : Cond.fieldLink RMO 29 "CatalanWebModel" "low" "[I" ∈ WS := WS_t 649 (by decide +kernel) rfl
theorem kf_MO_32 : Cond.fieldLink RMO 32 "CatalanWebModel" "high" "[I" ∈ WS := WS_t 650 (by decide +kernel) rfl
theorem kf_MO_35 : Cond.fieldLink RMO 35 "CatalanWebModel" "opens" "[I" ∈ WS := WS_t 651 (by decide +kernel) rfl
theorem kf_MO_38 : Cond.fieldLink RMO 38 "CatalanWebModel" "closes" "[I" ∈ WS := WS_t 652 (by decide +kernel) rfl
theorem kf_MO_41 : Cond.fieldLink RMO 41 "CatalanWebModel" "pile" "[I" ∈ WS := WS_t 653 (by decide +kernel) rfl
theorem kf_MO_44 : Cond.fieldLink RMO 44 "CatalanWebModel" "mate" "[I" ∈ WS := WS_t 654 (by decide +kernel) rfl
theorem kf_MO_47 : Cond.fieldLink RMO 47 "CatalanWebModel" "sets" "[J" ∈ WS := WS_t 655 (by decide +kernel) rfl
theorem kf_MO_51 : Cond.fieldLink RMO 51 "CatalanWebModel" "far" "[I" ∈ WS := WS_t 656 (by decide +kernel) rfl
theorem ka_long : Cond.arrayClass .long ∈ WS := WS_t 688 (by decide +kernel) rfl
theorem km_LW_56 : Cond.methodLink RLW 56 yMO_thrown ∈ WS := WS_t 689 (by decide +kernel) rfl
theorem ki_MO_thrown : Cond.instanceMethod yMO_thrown ∈ WS := WS_t 690 (by decide +kernel) rfl
theorem ke_MO_MO_thrown_MO_thrown : Cond.selects RMO yMO_thrown yMO_thrown ∈ WS := WS_t 691 (by decide +kernel) rfl
theorem kc_MO_thrown : Cond.code yMO_thrown cMO_thrown 1 (some .int) ∈ WS := WS_t 692 (by decide +kernel) rfl
theorem km_LW_55 : Cond.methodLink RLW 55 yMO_size ∈ WS := WS_t 693 (by decide +kernel) rfl
theorem ki_MO_size : Cond.instanceMethod yMO_size ∈ WS := WS_t 694 (by decide +kernel) rfl
theorem ke_MO_MO_size_MO_size : Cond.selects RMO yMO_size yMO_size ∈ WS := WS_t 695 (by decide +kernel) rfl
theorem kc_MO_size : Cond.code yMO_size cMO_size 2 (some .int) ∈ WS := WS_t 696 (by decide +kernel) rfl
theorem km_MO_57 : Cond.methodLink RMO 57 yMO_first ∈ WS := WS_t 697 (by decide +kernel) rfl
theorem ki_MO_first : Cond.instanceMethod yMO_first ∈ WS := WS_t 699 (by decide +kernel) rfl
theorem kc_MO_first : Cond.code yMO_first cMO_first 3 none ∈ WS := WS_t 700 (by decide +kernel) rfl
theorem km_MO_65 : Cond.methodLink RMO 65 yMO_count ∈ WS := WS_t 701 (by decide +kernel) rfl
theorem ki_MO_count : Cond.instanceMethod yMO_count ∈ WS := WS_t 703 (by decide +kernel) rfl
theorem kc_MO_count : Cond.code yMO_count cMO_count 2 (some .int) ∈ WS := WS_t 704 (by decide +kernel) rfl
theorem km_MO_61 : Cond.methodLink RMO 61 yMO_next ∈ WS := WS_t 705 (by decide +kernel) rfl
theorem ki_MO_next : Cond.instanceMethod yMO_next ∈ WS := WS_t 707 (by decide +kernel) rfl
theorem kc_MO_next : Cond.code yMO_next cMO_next 7 (some .boolean) ∈ WS := WS_t 708 (by decide +kernel) rfl
theorem km_LW_63 : Cond.methodLink RLW 63 yMO_rank ∈ WS := WS_t 709 (by decide +kernel) rfl
theorem ki_MO_rank : Cond.instanceMethod yMO_rank ∈ WS := WS_t 710 (by decide +kernel) rfl
theorem ke_MO_MO_rank_MO_rank : Cond.selects RMO yMO_rank yMO_rank ∈ WS := WS_t 711 (by decide +kernel) rfl
theorem kc_MO_rank : Cond.code yMO_rank cMO_rank 1 (some .int) ∈ WS := WS_t 712 (by decide +kernel) rfl
theorem km_MO_73 : Cond.methodLink RMO 73 yMO_rankOf ∈ WS := WS_t 713 (by decide +kernel) rfl
theorem ki_MO_rankOf : Cond.instanceMethod yMO_rankOf ∈ WS := WS_t 715 (by decide +kernel) rfl
theorem kc_MO_rankOf : Cond.code yMO_rankOf cMO_rankOf 2 (some .int) ∈ WS := WS_t 716 (by decide +kernel) rfl
theorem km_MO_69 : Cond.methodLink RMO 69 yMO_same ∈ WS := WS_t 717 (by decide +kernel) rfl
theorem ki_MO_same : Cond.instanceMethod yMO_same ∈ WS := WS_t 719 (by decide +kernel) rfl
theorem kc_MO_same : Cond.code yMO_same cMO_same 6 (some .boolean) ∈ WS := WS_t 720 (by decide +kernel) rfl
theorem km_LW_67 : Cond.methodLink RLW 67 yMO_unrank ∈ WS := WS_t 721 (by decide +kernel) rfl
theorem ki_MO_unrank : Cond.instanceMethod yMO_unrank ∈ WS := WS_t 722 (by decide +kernel) rfl
theorem ke_MO_MO_unrank_MO_unrank : Cond.selects RMO yMO_unrank yMO_unrank ∈ WS := WS_t 723 (by decide +kernel) rfl
theorem kc_MO_unrank : Cond.code yMO_unrank cMO_unrank 4 none ∈ WS := WS_t 724 (by decide +kernel) rfl
theorem km_MO_76 : Cond.methodLink RMO 76 yMO_copy ∈ WS := WS_t 725 (by decide +kernel) rfl
theorem ki_MO_copy : Cond.instanceMethod yMO_copy ∈ WS := WS_t 727 (by decide +kernel) rfl
theorem kc_MO_copy : Cond.code yMO_copy cMO_copy 5 none ∈ WS := WS_t 728 (by decide +kernel) rfl
theorem km_LW_71 : Cond.methodLink RLW 71 yMO_rows ∈ WS := WS_t 729 (by decide +kernel) rfl
theorem ki_MO_rows : Cond.instanceMethod yMO_rows ∈ WS := WS_t 730 (by decide +kernel) rfl
theorem ke_MO_MO_rows_MO_rows : Cond.selects RMO yMO_rows yMO_rows ∈ WS := WS_t 731 (by decide +kernel) rfl
theorem kc_MO_rows : Cond.code yMO_rows cMO_rows 8 (some .int) ∈ WS := WS_t 732 (by decide +kernel) rfl
theorem km_LW_75 : Cond.methodLink RLW 75 yMO_put ∈ WS := WS_t 733 (by decide +kernel) rfl
theorem ki_MO_put : Cond.instanceMethod yMO_put ∈ WS := WS_t 734 (by decide +kernel) rfl
theorem ke_MO_MO_put_MO_put : Cond.selects RMO yMO_put yMO_put ∈ WS := WS_t 735 (by decide +kernel) rfl
theorem kc_MO_put : Cond.code yMO_put cMO_put 3 none ∈ WS := WS_t 736 (by decide +kernel) rfl
theorem km_LW_78 : Cond.methodLink RLW 78 yMO_note ∈ WS := WS_t 737 (by decide +kernel) rfl
theorem ki_MO_note : Cond.instanceMethod yMO_note ∈ WS := WS_t 738 (by decide +kernel) rfl
theorem ke_MO_MO_note_MO_note : Cond.selects RMO yMO_note yMO_note ∈ WS := WS_t 739 (by decide +kernel) rfl
theorem kc_MO_note : Cond.code yMO_note cMO_note 2 (some .int) ∈ WS := WS_t 740 (by decide +kernel) rfl
theorem km_LW_81 : Cond.methodLink RLW 81 yMO_show ∈ WS := WS_t 741 (by decide +kernel) rfl
theorem ki_MO_show : Cond.instanceMethod yMO_show ∈ WS := WS_t 742 (by decide +kernel) rfl
theorem ke_MO_MO_show_MO_show : Cond.selects RMO yMO_show yMO_show ∈ WS := WS_t 743 (by decide +kernel) rfl
theorem kc_MO_show : Cond.code yMO_show cMO_show 2 (some .int) ∈ WS := WS_t 744 (by decide +kernel) rfl
theorem km_MO_107 : Cond.methodLink RMO 107 yMO_write ∈ WS := WS_t 745 (by decide +kernel) rfl
theorem ki_MO_write : Cond.instanceMethod yMO_write ∈ WS := WS_t 747 (by decide +kernel) rfl
theorem kc_MO_write : Cond.code yMO_write cMO_write 5 (some .int) ∈ WS := WS_t 748 (by decide +kernel) rfl
theorem km_MO_87 : Cond.methodLink RMO 87 yMO_pairs ∈ WS := WS_t 749 (by decide +kernel) rfl
theorem ki_MO_pairs : Cond.instanceMethod yMO_pairs ∈ WS := WS_t 751 (by decide +kernel) rfl
theorem kc_MO_pairs : Cond.code yMO_pairs cMO_pairs 6 none ∈ WS := WS_t 752 (by decide +kernel) rfl
theorem km_MO_90 : Cond.methodLink RMO 90 yMO_showBinary ∈ WS := WS_t 753 (by decide +kernel) rfl
theorem ki_MO_showBinary : Cond.instanceMethod yMO_showBinary ∈ WS := WS_t 755 (by decide +kernel) rfl
theorem kc_MO_showBinary : Cond.code yMO_showBinary cMO_showBinary 4 (some .int) ∈ WS := WS_t 756 (by decide +kernel) rfl
theorem km_MO_84 : Cond.methodLink RMO 84 yMO_nodeAt ∈ WS := WS_t 757 (by decide +kernel) rfl
theorem ki_MO_nodeAt : Cond.instanceMethod yMO_nodeAt ∈ WS := WS_t 759 (by decide +kernel) rfl
theorem kc_MO_nodeAt : Cond.code yMO_nodeAt cMO_nodeAt 4 (some .int) ∈ WS := WS_t 760 (by decide +kernel) rfl
theorem km_MO_80 : Cond.methodLink RMO 80 yMO_onesBefore ∈ WS := WS_t 761 (by decide +kernel) rfl
theorem ks_MO_onesBefore : Cond.static yMO_onesBefore ∈ WS := WS_t 762 (by decide +kernel) rfl
theorem kc_MO_onesBefore : Cond.code yMO_onesBefore cMO_onesBefore 4 (some .int) ∈ WS := WS_t 763 (by decide +kernel) rfl
theorem km_MO_94 : Cond.methodLink RMO 94 yMO_showPlane ∈ WS := WS_t 764 (by decide +kernel) rfl
theorem ki_MO_showPlane : Cond.instanceMethod yMO_showPlane ∈ WS := WS_t 766 (by decide +kernel) rfl
theorem kc_MO_showPlane : Cond.code yMO_showPlane cMO_showPlane 4 (some .int) ∈ WS := WS_t 767 (by decide +kernel) rfl
theorem km_MO_98 : Cond.methodLink RMO 98 yMO_showDiagonals ∈ WS := WS_t 768 (by decide +kernel) rfl
theorem ki_MO_showDiagonals : Cond.instanceMethod yMO_showDiagonals ∈ WS := WS_t 770 (by decide +kernel) rfl
theorem kc_MO_showDiagonals : Cond.code yMO_showDiagonals cMO_showDiagonals 8 (some .int) ∈ WS := WS_t 771 (by decide +kernel) rfl
theorem km_MO_101 : Cond.methodLink RMO 101 yMO_showBlocks ∈ WS := WS_t 772 (by decide +kernel) rfl
theorem ki_MO_showBlocks : Cond.instanceMethod yMO_showBlocks ∈ WS := WS_t 774 (by decide +kernel) rfl
theorem kc_MO_showBlocks : Cond.code yMO_showBlocks cMO_showBlocks 8 (some .int) ∈ WS := WS_t 775 (by decide +kernel) rfl
theorem km_MO_104 : Cond.methodLink RMO 104 yMO_showPermutation ∈ WS := WS_t 776 (by decide +kernel) rfl
theorem ki_MO_showPermutation : Cond.instanceMethod yMO_showPermutation ∈ WS := WS_t 778 (by decide +kernel) rfl
theorem kc_MO_showPermutation : Cond.code yMO_showPermutation cMO_showPermutation 4 (some .int) ∈ WS := WS_t 779 (by decide +kernel) rfl
theorem km_LW_84 : Cond.methodLink RLW 84 yMO_take ∈ WS := WS_t 780 (by decide +kernel) rfl
theorem ki_MO_take : Cond.instanceMethod yMO_take ∈ WS := WS_t 781 (by decide +kernel) rfl
theorem ke_MO_MO_take_MO_take : Cond.selects RMO yMO_take yMO_take ∈ WS := WS_t 782 (by decide +kernel) rfl
theorem kc_MO_take : Cond.code yMO_take cMO_take 3 (some .int) ∈ WS := WS_t 783 (by decide +kernel) rfl
theorem km_MO_111 : Cond.methodLink RMO 111 yMO_find ∈ WS := WS_t 784 (by decide +kernel) rfl
theorem ki_MO_find : Cond.instanceMethod yMO_find ∈ WS := WS_t 786 (by decide +kernel) rfl
theorem kc_MO_find : Cond.code yMO_find cMO_find 6 (some .int) ∈ WS := WS_t 787 (by decide +kernel) rfl
theorem km_LW_88 : Cond.methodLink RLW 88 yMO_mirror ∈ WS := WS_t 788 (by decide +kernel) rfl
theorem ki_MO_mirror : Cond.instanceMethod yMO_mirror ∈ WS := WS_t 789 (by decide +kernel) rfl
theorem ke_MO_MO_mirror_MO_mirror : Cond.selects RMO yMO_mirror yMO_mirror ∈ WS := WS_t 790 (by decide +kernel) rfl
theorem kc_MO_mirror : Cond.code yMO_mirror cMO_mirror 2 (some .int) ∈ WS := WS_t 791 (by decide +kernel) rfl
theorem km_LW_92 : Cond.methodLink RLW 92 yMO_turn ∈ WS := WS_t 792 (by decide +kernel) rfl
theorem ki_MO_turn : Cond.instanceMethod yMO_turn ∈ WS := WS_t 793 (by decide +kernel) rfl
theorem ke_MO_MO_turn_MO_turn : Cond.selects RMO yMO_turn yMO_turn ∈ WS := WS_t 794 (by decide +kernel) rfl
theorem kc_MO_turn : Cond.code yMO_turn cMO_turn 3 (some .int) ∈ WS := WS_t 795 (by decide +kernel) rfl
theorem km_MO_115 : Cond.methodLink RMO 115 yMO_wish ∈ WS := WS_t 796 (by decide +kernel) rfl
theorem ki_MO_wish : Cond.instanceMethod yMO_wish ∈ WS := WS_t 798 (by decide +kernel) rfl
theorem kc_MO_wish : Cond.code yMO_wish cMO_wish 7 none ∈ WS := WS_t 799 (by decide +kernel) rfl
theorem km_LW_96 : Cond.methodLink RLW 96 yMO_complement ∈ WS := WS_t 800 (by decide +kernel) rfl
theorem ki_MO_complement : Cond.instanceMethod yMO_complement ∈ WS := WS_t 801 (by decide +kernel) rfl
theorem ke_MO_MO_complement_MO_complement : Cond.selects RMO yMO_complement yMO_complement ∈ WS := WS_t 802 (by decide +kernel) rfl
theorem kc_MO_complement : Cond.code yMO_complement cMO_complement 4 (some .int) ∈ WS := WS_t 803 (by decide +kernel) rfl
theorem km_LW_99 : Cond.methodLink RLW 99 yMO_flip ∈ WS := WS_t 804 (by decide +kernel) rfl
theorem ki_MO_flip : Cond.instanceMethod yMO_flip ∈ WS := WS_t 805 (by decide +kernel) rfl
theorem ke_MO_MO_flip_MO_flip : Cond.selects RMO yMO_flip yMO_flip ∈ WS := WS_t 806 (by decide +kernel) rfl
theorem kc_MO_flip : Cond.code yMO_flip cMO_flip 9 (some .int) ∈ WS := WS_t 807 (by decide +kernel) rfl
theorem kd_MO_123 : Cond.constantLong RMO 123 (lN 2) ∈ WS := WS_t 808 (by decide +kernel) rfl
theorem km_MO_125 : Cond.methodLink RMO 125 yMO_corner ∈ WS := WS_t 809 (by decide +kernel) rfl
theorem ki_MO_corner : Cond.instanceMethod yMO_corner ∈ WS := WS_t 811 (by decide +kernel) rfl
theorem kc_MO_corner : Cond.code yMO_corner cMO_corner 8 (some .int) ∈ WS := WS_t 812 (by decide +kernel) rfl
theorem km_MO_119 : Cond.methodLink RMO 119 yMO_joined ∈ WS := WS_t 813 (by decide +kernel) rfl
theorem ki_MO_joined : Cond.instanceMethod yMO_joined ∈ WS := WS_t 815 (by decide +kernel) rfl
theorem kc_MO_joined : Cond.code yMO_joined cMO_joined 8 (some .boolean) ∈ WS := WS_t 816 (by decide +kernel) rfl
theorem km_LW_102 : Cond.methodLink RLW 102 yMO_flips ∈ WS := WS_t 817 (by decide +kernel) rfl
theorem ki_MO_flips : Cond.instanceMethod yMO_flips ∈ WS := WS_t 818 (by decide +kernel) rfl
theorem ke_MO_MO_flips_MO_flips : Cond.selects RMO yMO_flips yMO_flips ∈ WS := WS_t 819 (by decide +kernel) rfl
theorem kc_MO_flips : Cond.code yMO_flips cMO_flips 6 (some .int) ∈ WS := WS_t 820 (by decide +kernel) rfl
theorem km_MO_139 : Cond.methodLink RMO 139 yMO_list ∈ WS := WS_t 821 (by decide +kernel) rfl
theorem ki_MO_list : Cond.instanceMethod yMO_list ∈ WS := WS_t 823 (by decide +kernel) rfl
theorem kc_MO_list : Cond.code yMO_list cMO_list 5 (some .int) ∈ WS := WS_t 824 (by decide +kernel) rfl
theorem km_MO_142 : Cond.methodLink RMO 142 yMO_spread ∈ WS := WS_t 825 (by decide +kernel) rfl
theorem ki_MO_spread : Cond.instanceMethod yMO_spread ∈ WS := WS_t 827 (by decide +kernel) rfl
theorem kc_MO_spread : Cond.code yMO_spread cMO_spread 8 none ∈ WS := WS_t 828 (by decide +kernel) rfl
theorem km_MO_135 : Cond.methodLink RMO 135 yMO_flipped ∈ WS := WS_t 829 (by decide +kernel) rfl
theorem ks_MO_flipped : Cond.static yMO_flipped ∈ WS := WS_t 830 (by decide +kernel) rfl
theorem kc_MO_flipped : Cond.code yMO_flipped cMO_flipped 9 (some .long) ∈ WS := WS_t 831 (by decide +kernel) rfl
theorem km_MO_129 : Cond.methodLink RMO 129 yMO_has ∈ WS := WS_t 832 (by decide +kernel) rfl
theorem ks_MO_has : Cond.static yMO_has ∈ WS := WS_t 833 (by decide +kernel) rfl
theorem kc_MO_has : Cond.code yMO_has cMO_has 7 (some .boolean) ∈ WS := WS_t 834 (by decide +kernel) rfl
theorem kd_MO_133 : Cond.constantLong RMO 133 (lN 18446744073709551615) ∈ WS := WS_t 835 (by decide +kernel) rfl
theorem ke_RK_RK_endingsWithOneFirst_RK_endingsWithOneFirst : Cond.selects RRK yRK_endingsWithOneFirst yRK_endingsWithOneFirst ∈ WS := WS_s (q := (yRK_endingsWithOneFirst, 1)) 0 (by decide +kernel) rfl
theorem ke_CW_CW_adoptFinished_CW_adoptFinished : Cond.selects RCW yCW_adoptFinished yCW_adoptFinished ∈ WS := WS_s (q := (yCW_adoptFinished, 9)) 1 (by decide +kernel) rfl
theorem ke_CW_CW_adoptDraft_CW_adoptDraft : Cond.selects RCW yCW_adoptDraft yCW_adoptDraft ∈ WS := WS_s (q := (yCW_adoptDraft, 9)) 2 (by decide +kernel) rfl
theorem ke_TR_TR_insert_TR_insert : Cond.selects RTR yTR_insert yTR_insert ∈ WS := WS_s (q := (yTR_insert, 3)) 3 (by decide +kernel) rfl
theorem ke_TR_TR_comesAfter_TR_comesAfter : Cond.selects RTR yTR_comesAfter yTR_comesAfter ∈ WS := WS_s (q := (yTR_comesAfter, 3)) 4 (by decide +kernel) rfl
theorem ke_TR_TR_lastCorner_TR_lastCorner : Cond.selects RTR yTR_lastCorner yTR_lastCorner ∈ WS := WS_s (q := (yTR_lastCorner, 3)) 5 (by decide +kernel) rfl
theorem ke_PA_PA_next_PA_next : Cond.selects RPA yPA_next yPA_next ∈ WS := WS_s (q := (yPA_next, 4)) 6 (by decide +kernel) rfl
theorem ke_PA_PA_greatestReached_PA_greatestReached : Cond.selects RPA yPA_greatestReached yPA_greatestReached ∈ WS := WS_s (q := (yPA_greatestReached, 4)) 7 (by decide +kernel) rfl
theorem ke_CW_CW_isRank_CW_isRank : Cond.selects RCW yCW_isRank yCW_isRank ∈ WS := WS_s (q := (yCW_isRank, 9)) 9 (by decide +kernel) rfl
theorem ke_CW_CW_isFamily_CW_isFamily : Cond.selects RCW yCW_isFamily yCW_isFamily ∈ WS := WS_s (q := (yCW_isFamily, 9)) 10 (by decide +kernel) rfl
theorem ke_CW_CW_draftFromPaper_CW_draftFromPaper : Cond.selects RCW yCW_draftFromPaper yCW_draftFromPaper ∈ WS := WS_s (q := (yCW_draftFromPaper, 9)) 11 (by decide +kernel) rfl
theorem ke_TR_TR_joined_TR_joined : Cond.selects RTR yTR_joined yTR_joined ∈ WS := WS_s (q := (yTR_joined, 3)) 12 (by decide +kernel) rfl
theorem ke_CW_CW_graphOf_CW_graphOf : Cond.selects RCW yCW_graphOf yCW_graphOf ∈ WS := WS_s (q := (yCW_graphOf, 9)) 13 (by decide +kernel) rfl
theorem ke_FG_FG_findNeighbours_FG_findNeighbours : Cond.selects RFG yFG_findNeighbours yFG_findNeighbours ∈ WS := WS_s (q := (yFG_findNeighbours, 5)) 14 (by decide +kernel) rfl
theorem ke_MO_MO_first_MO_first : Cond.selects RMO yMO_first yMO_first ∈ WS := WS_s (q := (yMO_first, 15)) 15 (by decide +kernel) rfl
theorem ke_MO_MO_count_MO_count : Cond.selects RMO yMO_count yMO_count ∈ WS := WS_s (q := (yMO_count, 15)) 16 (by decide +kernel) rfl
theorem ke_MO_MO_next_MO_next : Cond.selects RMO yMO_next yMO_next ∈ WS := WS_s (q := (yMO_next, 15)) 17 (by decide +kernel) rfl
theorem ke_MO_MO_rankOf_MO_rankOf : Cond.selects RMO yMO_rankOf yMO_rankOf ∈ WS := WS_s (q := (yMO_rankOf, 15)) 18 (by decide +kernel) rfl
theorem ke_MO_MO_same_MO_same : Cond.selects RMO yMO_same yMO_same ∈ WS := WS_s (q := (yMO_same, 15)) 19 (by decide +kernel) rfl
theorem ke_MO_MO_copy_MO_copy : Cond.selects RMO yMO_copy yMO_copy ∈ WS := WS_s (q := (yMO_copy, 15)) 20 (by decide +kernel) rfl
theorem ke_MO_MO_write_MO_write : Cond.selects RMO yMO_write yMO_write ∈ WS := WS_s (q := (yMO_write, 15)) 21 (by decide +kernel) rfl
theorem ke_MO_MO_pairs_MO_pairs : Cond.selects RMO yMO_pairs yMO_pairs ∈ WS := WS_s (q := (yMO_pairs, 15)) 22 (by decide +kernel) rfl
theorem ke_MO_MO_showBinary_MO_showBinary : Cond.selects RMO yMO_showBinary yMO_showBinary ∈ WS := WS_s (q := (yMO_showBinary, 15)) 23 (by decide +kernel) rfl
theorem ke_MO_MO_nodeAt_MO_nodeAt : Cond.selects RMO yMO_nodeAt yMO_nodeAt ∈ WS := WS_s (q := (yMO_nodeAt, 15)) 24 (by decide +kernel) rfl
theorem ke_MO_MO_showPlane_MO_showPlane : Cond.selects RMO yMO_showPlane yMO_showPlane ∈ WS := WS_s (q := (yMO_showPlane, 15)) 25 (by decide +kernel) rfl
theorem ke_MO_MO_showDiagonals_MO_showDiagonals : Cond.selects RMO yMO_showDiagonals yMO_showDiagonals ∈ WS := WS_s (q := (yMO_showDiagonals, 15)) 26 (by decide +kernel) rfl
theorem ke_MO_MO_showBlocks_MO_showBlocks : Cond.selects RMO yMO_showBlocks yMO_showBlocks ∈ WS := WS_s (q := (yMO_showBlocks, 15)) 27 (by decide +kernel) rfl
theorem ke_MO_MO_showPermutation_MO_showPermutation : Cond.selects RMO yMO_showPermutation yMO_showPermutation ∈ WS := WS_s (q := (yMO_showPermutation, 15)) 28 (by decide +kernel) rfl
theorem ke_MO_MO_find_MO_find : Cond.selects RMO yMO_find yMO_find ∈ WS := WS_s (q := (yMO_find, 15)) 29 (by decide +kernel) rfl
theorem ke_MO_MO_wish_MO_wish : Cond.selects RMO yMO_wish yMO_wish ∈ WS := WS_s (q := (yMO_wish, 15)) 30 (by decide +kernel) rfl
theorem ke_MO_MO_corner_MO_corner : Cond.selects RMO yMO_corner yMO_corner ∈ WS := WS_s (q := (yMO_corner, 15)) 31 (by decide +kernel) rfl
theorem ke_MO_MO_joined_MO_joined : Cond.selects RMO yMO_joined yMO_joined ∈ WS := WS_s (q := (yMO_joined, 15)) 32 (by decide +kernel) rfl
theorem ke_MO_MO_list_MO_list : Cond.selects RMO yMO_list yMO_list ∈ WS := WS_s (q := (yMO_list, 15)) 33 (by decide +kernel) rfl
theorem ke_MO_MO_spread_MO_spread : Cond.selects RMO yMO_spread yMO_spread ∈ WS := WS_s (q := (yMO_spread, 15)) 34 (by decide +kernel) rfl
theorem km_PA_49 : Cond.methodLink RPA 49 Lib.Math.max.name ∈ WS := WS_t 296 (by decide +kernel) rfl
theorem ks_MA_max : Cond.static Lib.Math.max.name ∈ WS := WS_t 297 (by decide +kernel) rfl
theorem kc_MA_max : Cond.code Lib.Math.max.name Lib.Math.max.code 2 (some .int) ∈ WS := WS_t 298 (by decide +kernel) rfl
theorem km_PE_41 : Cond.methodLink RPE 41 Lib.Math.max.name ∈ WS := WS_t 536 (by decide +kernel) rfl
theorem km_PT_28 : Cond.methodLink RPT 28 Lib.Math.max.name ∈ WS := WS_t 542 (by decide +kernel) rfl
theorem km_TR_68 : Cond.methodLink RTR 68 Lib.Math.min.name ∈ WS := WS_t 580 (by decide +kernel) rfl
theorem ks_MA_min : Cond.static Lib.Math.min.name ∈ WS := WS_t 581 (by decide +kernel) rfl
theorem kc_MA_min : Cond.code Lib.Math.min.name Lib.Math.min.code 2 (some .int) ∈ WS := WS_t 582 (by decide +kernel) rfl
theorem km_TR_74 : Cond.methodLink RTR 74 Lib.Math.max.name ∈ WS := WS_t 583 (by decide +kernel) rfl
theorem WS_gd {c2 : Cond} (h2 : c2 ∈ WS) : GoodIn WS (c2 :: WS) := fun w hw => by
  have h : w ∈ WS := (List.mem_cons.mp hw).elim (fun e => by rw [e]; exact h2) id
  exact ⟨h, good_of_word (List.mem_filter.mp h).2⟩
abbrev wc_CW_size : List Cond := Cond.code yCW_size cCW_size 2 (some .int) :: WS
theorem cb_CW_size {R : Room} {s : State} {args : Array Value} {own : String} {index : Nat} (hws : ∀ w ∈ WS, w.before args s = true) (rm : Room) (hl : (Cond.methodLink own index yCW_size).before args s = true) (hR : rm.frames + 1 ≤ R.frames ∧ 8 + (2 + 11) + rm.locals ≤ R.locals) : CallB R s args own index yCW_size cCW_size 2 (some .int) wc_CW_size rm rm.cells rm.slots 1 := callB_of 1 hws (WS_gd kc_CW_size) rfl rfl rfl (hws _ kz_CW) hl (by decide +kernel) hR
abbrev wc_CW_rank : List Cond := Cond.code yCW_rank cCW_rank 1 (some .int) :: WS
theorem cb_CW_rank {R : Room} {s : State} {args : Array Value} {own : String} {index : Nat} (hws : ∀ w ∈ WS, w.before args s = true) (rm : Room) (hl : (Cond.methodLink own index yCW_rank).before args s = true) (hR : rm.frames + 1 ≤ R.frames ∧ 8 + (1 + 11) + rm.locals ≤ R.locals) : CallB R s args own index yCW_rank cCW_rank 1 (some .int) wc_CW_rank rm rm.cells rm.slots 0 := callB_of 0 hws (WS_gd kc_CW_rank) rfl rfl rfl (hws _ kz_CW) hl (by decide +kernel) hR
abbrev wc_CW_unrank : List Cond := Cond.code yCW_unrank cCW_unrank 2 none :: WS
theorem cb_CW_unrank {R : Room} {s : State} {args : Array Value} {own : String} {index : Nat} (hws : ∀ w ∈ WS, w.before args s = true) (rm : Room) (hl : (Cond.methodLink own index yCW_unrank).before args s = true) (hR : rm.frames + 1 ≤ R.frames ∧ 8 + (2 + 11) + rm.locals ≤ R.locals) : CallB R s args own index yCW_unrank cCW_unrank 2 none wc_CW_unrank rm rm.cells rm.slots 1 := callB_of 1 hws (WS_gd kc_CW_unrank) rfl rfl rfl (hws _ kz_CW) hl (by decide +kernel) hR
abbrev wc_CW_rows : List Cond := Cond.code yCW_rows cCW_rows 3 (some .int) :: WS
theorem cb_CW_rows {R : Room} {s : State} {args : Array Value} {own : String} {index : Nat} (hws : ∀ w ∈ WS, w.before args s = true) (rm : Room) (hl : (Cond.methodLink own index yCW_rows).before args s = true) (hR : rm.frames + 1 ≤ R.frames ∧ 8 + (3 + 11) + rm.locals ≤ R.locals) : CallB R s args own index yCW_rows cCW_rows 3 (some .int) wc_CW_rows rm rm.cells rm.slots 2 := callB_of 2 hws (WS_gd kc_CW_rows) rfl rfl rfl (hws _ kz_CW) hl (by decide +kernel) hR
abbrev wc_CW_put : List Cond := Cond.code yCW_put cCW_put 3 none :: WS
theorem cb_CW_put {R : Room} {s : State} {args : Array Value} {own : String} {index : Nat} (hws : ∀ w ∈ WS, w.before args s = true) (rm : Room) (hl : (Cond.methodLink own index yCW_put).before args s = true) (hR : rm.frames + 1 ≤ R.frames ∧ 8 + (3 + 11) + rm.locals ≤ R.locals) : CallB R s args own index yCW_put cCW_put 3 none wc_CW_put rm rm.cells rm.slots 2 := callB_of 2 hws (WS_gd kc_CW_put) rfl rfl rfl (hws _ kz_CW) hl (by decide +kernel) hR
abbrev wc_CW_note : List Cond := Cond.code yCW_note cCW_note 2 (some .int) :: WS
theorem cb_CW_note {R : Room} {s : State} {args : Array Value} {own : String} {index : Nat} (hws : ∀ w ∈ WS, w.before args s = true) (rm : Room) (hl : (Cond.methodLink own index yCW_note).before args s = true) (hR : rm.frames + 1 ≤ R.frames ∧ 8 + (2 + 11) + rm.locals ≤ R.locals) : CallB R s args own index yCW_note cCW_note 2 (some .int) wc_CW_note rm rm.cells rm.slots 1 := callB_of 1 hws (WS_gd kc_CW_note) rfl rfl rfl (hws _ kz_CW) hl (by decide +kernel) hR
abbrev wc_CW_show : List Cond := Cond.code yCW_show cCW_show 2 (some .int) :: WS
theorem cb_CW_show {R : Room} {s : State} {args : Array Value} {own : String} {index : Nat} (hws : ∀ w ∈ WS, w.before args s = true) (rm : Room) (hl : (Cond.methodLink own index yCW_show).before args s = true) (hR : rm.frames + 1 ≤ R.frames ∧ 8 + (2 + 11) + rm.locals ≤ R.locals) : CallB R s args own index yCW_show cCW_show 2 (some .int) wc_CW_show rm rm.cells rm.slots 1 := callB_of 1 hws (WS_gd kc_CW_show) rfl rfl rfl (hws _ kz_CW) hl (by decide +kernel) hR
abbrev wc_CW_take : List Cond := Cond.code yCW_take cCW_take 2 (some .int) :: WS
theorem cb_CW_take {R : Room} {s : State} {args : Array Value} {own : String} {index : Nat} (hws : ∀ w ∈ WS, w.before args s = true) (rm : Room) (hl : (Cond.methodLink own index yCW_take).before args s = true) (hR : rm.frames + 1 ≤ R.frames ∧ 8 + (2 + 11) + rm.locals ≤ R.locals) : CallB R s args own index yCW_take cCW_take 2 (some .int) wc_CW_take rm rm.cells rm.slots 1 := callB_of 1 hws (WS_gd kc_CW_take) rfl rfl rfl (hws _ kz_CW) hl (by decide +kernel) hR
abbrev wc_CW_mirror : List Cond := Cond.code yCW_mirror cCW_mirror 3 (some .int) :: WS
theorem cb_CW_mirror {R : Room} {s : State} {args : Array Value} {own : String} {index : Nat} (hws : ∀ w ∈ WS, w.before args s = true) (rm : Room) (hl : (Cond.methodLink own index yCW_mirror).before args s = true) (hR : rm.frames + 1 ≤ R.frames ∧ 8 + (3 + 11) + rm.locals ≤ R.locals) : CallB R s args own index yCW_mirror cCW_mirror 3 (some .int) wc_CW_mirror rm rm.cells rm.slots 0 := callB_of 0 hws (WS_gd kc_CW_mirror) rfl rfl rfl (hws _ kz_CW) hl (by decide +kernel) hR
abbrev wc_CW_turn : List Cond := Cond.code yCW_turn cCW_turn 1 (some .int) :: WS
theorem cb_CW_turn {R : Room} {s : State} {args : Array Value} {own : String} {index : Nat} (hws : ∀ w ∈ WS, w.before args s = true) (rm : Room) (hl : (Cond.methodLink own index yCW_turn).before args s = true) (hR : rm.frames + 1 ≤ R.frames ∧ 8 + (1 + 11) + rm.locals ≤ R.locals) : CallB R s args own index yCW_turn cCW_turn 1 (some .int) wc_CW_turn rm rm.cells rm.slots 0 := callB_of 0 hws (WS_gd kc_CW_turn) rfl rfl rfl (hws _ kz_CW) hl (by decide +kernel) hR
abbrev wc_CW_complement : List Cond := Cond.code yCW_complement cCW_complement 1 (some .int) :: WS
theorem cb_CW_complement {R : Room} {s : State} {args : Array Value} {own : String} {index : Nat} (hws : ∀ w ∈ WS, w.before args s = true) (rm : Room) (hl : (Cond.methodLink own index yCW_complement).before args s = true) (hR : rm.frames + 1 ≤ R.frames ∧ 8 + (1 + 11) + rm.locals ≤ R.locals) : CallB R s args own index yCW_complement cCW_complement 1 (some .int) wc_CW_complement rm rm.cells rm.slots 0 := callB_of 0 hws (WS_gd kc_CW_complement) rfl rfl rfl (hws _ kz_CW) hl (by decide +kernel) hR
abbrev wc_CW_flip : List Cond := Cond.code yCW_flip cCW_flip 2 (some .int) :: WS
theorem cb_CW_flip {R : Room} {s : State} {args : Array Value} {own : String} {index : Nat} (hws : ∀ w ∈ WS, w.before args s = true) (rm : Room) (hl : (Cond.methodLink own index yCW_flip).before args s = true) (hR : rm.frames + 1 ≤ R.frames ∧ 8 + (2 + 11) + rm.locals ≤ R.locals) : CallB R s args own index yCW_flip cCW_flip 2 (some .int) wc_CW_flip rm rm.cells rm.slots 1 := callB_of 1 hws (WS_gd kc_CW_flip) rfl rfl rfl (hws _ kz_CW) hl (by decide +kernel) hR
abbrev wc_CW_flips : List Cond := Cond.code yCW_flips cCW_flips 2 (some .int) :: WS
theorem cb_CW_flips {R : Room} {s : State} {args : Array Value} {own : String} {index : Nat} (hws : ∀ w ∈ WS, w.before args s = true) (rm : Room) (hl : (Cond.methodLink own index yCW_flips).before args s = true) (hR : rm.frames + 1 ≤ R.frames ∧ 8 + (2 + 11) + rm.locals ≤ R.locals) : CallB R s args own index yCW_flips cCW_flips 2 (some .int) wc_CW_flips rm rm.cells rm.slots 1 := callB_of 1 hws (WS_gd kc_CW_flips) rfl rfl rfl (hws _ kz_CW) hl (by decide +kernel) hR
abbrev wc_CW_isRank : List Cond := Cond.code yCW_isRank cCW_isRank 2 (some .boolean) :: WS
theorem cb_CW_isRank {R : Room} {s : State} {args : Array Value} {own : String} {index : Nat} (hws : ∀ w ∈ WS, w.before args s = true) (rm : Room) (hl : (Cond.methodLink own index yCW_isRank).before args s = true) (hR : rm.frames + 1 ≤ R.frames ∧ 8 + (2 + 11) + rm.locals ≤ R.locals) : CallB R s args own index yCW_isRank cCW_isRank 2 (some .boolean) wc_CW_isRank rm rm.cells rm.slots 1 := callB_of 1 hws (WS_gd kc_CW_isRank) rfl rfl rfl (hws _ kz_CW) hl (by decide +kernel) hR
abbrev wc_CW_isFamily : List Cond := Cond.code yCW_isFamily cCW_isFamily 2 (some .boolean) :: WS
theorem cb_CW_isFamily {R : Room} {s : State} {args : Array Value} {own : String} {index : Nat} (hws : ∀ w ∈ WS, w.before args s = true) (rm : Room) (hl : (Cond.methodLink own index yCW_isFamily).before args s = true) (hR : rm.frames + 1 ≤ R.frames ∧ 8 + (2 + 11) + rm.locals ≤ R.locals) : CallB R s args own index yCW_isFamily cCW_isFamily 2 (some .boolean) wc_CW_isFamily rm rm.cells rm.slots 1 := callB_of 1 hws (WS_gd kc_CW_isFamily) rfl rfl rfl (hws _ kz_CW) hl (by decide +kernel) hR
abbrev wc_CW_draftFromPaper : List Cond := Cond.code yCW_draftFromPaper cCW_draftFromPaper 3 (some .boolean) :: WS
theorem cb_CW_draftFromPaper {R : Room} {s : State} {args : Array Value} {own : String} {index : Nat} (hws : ∀ w ∈ WS, w.before args s = true) (rm : Room) (hl : (Cond.methodLink own index yCW_draftFromPaper).before args s = true) (hR : rm.frames + 1 ≤ R.frames ∧ 8 + (3 + 11) + rm.locals ≤ R.locals) : CallB R s args own index yCW_draftFromPaper cCW_draftFromPaper 3 (some .boolean) wc_CW_draftFromPaper rm rm.cells rm.slots 1 := callB_of 1 hws (WS_gd kc_CW_draftFromPaper) rfl rfl rfl (hws _ kz_CW) hl (by decide +kernel) hR
abbrev wc_CW_adoptFinished : List Cond := Cond.code yCW_adoptFinished cCW_adoptFinished 1 (some .int) :: WS
theorem cb_CW_adoptFinished {R : Room} {s : State} {args : Array Value} {own : String} {index : Nat} (hws : ∀ w ∈ WS, w.before args s = true) (rm : Room) (hl : (Cond.methodLink own index yCW_adoptFinished).before args s = true) (hR : rm.frames + 1 ≤ R.frames ∧ 8 + (1 + 11) + rm.locals ≤ R.locals) : CallB R s args own index yCW_adoptFinished cCW_adoptFinished 1 (some .int) wc_CW_adoptFinished rm rm.cells rm.slots 0 := callB_of 0 hws (WS_gd kc_CW_adoptFinished) rfl rfl rfl (hws _ kz_CW) hl (by decide +kernel) hR
abbrev wc_CW_adoptDraft : List Cond := Cond.code yCW_adoptDraft cCW_adoptDraft 2 (some .int) :: WS
theorem cb_CW_adoptDraft {R : Room} {s : State} {args : Array Value} {own : String} {index : Nat} (hws : ∀ w ∈ WS, w.before args s = true) (rm : Room) (hl : (Cond.methodLink own index yCW_adoptDraft).before args s = true) (hR : rm.frames + 1 ≤ R.frames ∧ 8 + (2 + 11) + rm.locals ≤ R.locals) : CallB R s args own index yCW_adoptDraft cCW_adoptDraft 2 (some .int) wc_CW_adoptDraft rm rm.cells rm.slots 0 := callB_of 0 hws (WS_gd kc_CW_adoptDraft) rfl rfl rfl (hws _ kz_CW) hl (by decide +kernel) hR
abbrev wc_CW_graphOf : List Cond := Cond.code yCW_graphOf cCW_graphOf 3 (some (.object "CatalanWeb$FlipGraph")) :: WS
theorem cb_CW_graphOf {R : Room} {s : State} {args : Array Value} {own : String} {index : Nat} (hws : ∀ w ∈ WS, w.before args s = true) (rm : Room) (hl : (Cond.methodLink own index yCW_graphOf).before args s = true) (hR : rm.frames + 1 ≤ R.frames ∧ 8 + (3 + 11) + rm.locals ≤ R.locals) : CallB R s args own index yCW_graphOf cCW_graphOf 3 (some (.object "CatalanWeb$FlipGraph")) wc_CW_graphOf rm rm.cells rm.slots 1 := callB_of 1 hws (WS_gd kc_CW_graphOf) rfl rfl rfl (hws _ kz_CW) hl (by decide +kernel) hR
abbrev wc_MO_thrown : List Cond := Cond.code yMO_thrown cMO_thrown 1 (some .int) :: WS
theorem cb_MO_thrown {R : Room} {s : State} {args : Array Value} {own : String} {index : Nat} (hws : ∀ w ∈ WS, w.before args s = true) (rm : Room) (hl : (Cond.methodLink own index yMO_thrown).before args s = true) (hR : rm.frames + 1 ≤ R.frames ∧ 8 + (1 + 11) + rm.locals ≤ R.locals) : CallB R s args own index yMO_thrown cMO_thrown 1 (some .int) wc_MO_thrown rm rm.cells rm.slots 0 := callB_of 0 hws (WS_gd kc_MO_thrown) rfl rfl rfl (hws _ kz_MO) hl (by decide +kernel) hR
abbrev wc_MO_first : List Cond := Cond.code yMO_first cMO_first 3 none :: WS
theorem cb_MO_first {R : Room} {s : State} {args : Array Value} {own : String} {index : Nat} (hws : ∀ w ∈ WS, w.before args s = true) (rm : Room) (hl : (Cond.methodLink own index yMO_first).before args s = true) (hR : rm.frames + 1 ≤ R.frames ∧ 8 + (3 + 11) + rm.locals ≤ R.locals) : CallB R s args own index yMO_first cMO_first 3 none wc_MO_first rm rm.cells rm.slots 1 := callB_of 1 hws (WS_gd kc_MO_first) rfl rfl rfl (hws _ kz_MO) hl (by decide +kernel) hR
abbrev wc_MO_next : List Cond := Cond.code yMO_next cMO_next 7 (some .boolean) :: WS
theorem cb_MO_next {R : Room} {s : State} {args : Array Value} {own : String} {index : Nat} (hws : ∀ w ∈ WS, w.before args s = true) (rm : Room) (hl : (Cond.methodLink own index yMO_next).before args s = true) (hR : rm.frames + 1 ≤ R.frames ∧ 8 + (7 + 11) + rm.locals ≤ R.locals) : CallB R s args own index yMO_next cMO_next 7 (some .boolean) wc_MO_next rm rm.cells rm.slots 1 := callB_of 1 hws (WS_gd kc_MO_next) rfl rfl rfl (hws _ kz_MO) hl (by decide +kernel) hR
abbrev wc_MO_same : List Cond := Cond.code yMO_same cMO_same 6 (some .boolean) :: WS
theorem cb_MO_same {R : Room} {s : State} {args : Array Value} {own : String} {index : Nat} (hws : ∀ w ∈ WS, w.before args s = true) (rm : Room) (hl : (Cond.methodLink own index yMO_same).before args s = true) (hR : rm.frames + 1 ≤ R.frames ∧ 8 + (6 + 11) + rm.locals ≤ R.locals) : CallB R s args own index yMO_same cMO_same 6 (some .boolean) wc_MO_same rm rm.cells rm.slots 3 := callB_of 3 hws (WS_gd kc_MO_same) rfl rfl rfl (hws _ kz_MO) hl (by decide +kernel) hR
abbrev wc_MO_copy : List Cond := Cond.code yMO_copy cMO_copy 5 none :: WS
theorem cb_MO_copy {R : Room} {s : State} {args : Array Value} {own : String} {index : Nat} (hws : ∀ w ∈ WS, w.before args s = true) (rm : Room) (hl : (Cond.methodLink own index yMO_copy).before args s = true) (hR : rm.frames + 1 ≤ R.frames ∧ 8 + (5 + 11) + rm.locals ≤ R.locals) : CallB R s args own index yMO_copy cMO_copy 5 none wc_MO_copy rm rm.cells rm.slots 3 := callB_of 3 hws (WS_gd kc_MO_copy) rfl rfl rfl (hws _ kz_MO) hl (by decide +kernel) hR
abbrev wc_MO_count : List Cond := Cond.code yMO_count cMO_count 2 (some .int) :: WS
theorem cb_MO_count {R : Room} {s : State} {args : Array Value} {own : String} {index : Nat} (hws : ∀ w ∈ WS, w.before args s = true) (rm : Room) (hl : (Cond.methodLink own index yMO_count).before args s = true) (hR : rm.frames + 1 ≤ R.frames ∧ 8 + (2 + 11) + rm.locals ≤ R.locals) : CallB R s args own index yMO_count cMO_count 2 (some .int) wc_MO_count rm rm.cells rm.slots 0 := callB_of 0 hws (WS_gd kc_MO_count) rfl rfl rfl (hws _ kz_MO) hl (by decide +kernel) hR
abbrev wc_MO_size : List Cond := Cond.code yMO_size cMO_size 2 (some .int) :: WS
theorem cb_MO_size {R : Room} {s : State} {args : Array Value} {own : String} {index : Nat} (hws : ∀ w ∈ WS, w.before args s = true) (rm : Room) (hl : (Cond.methodLink own index yMO_size).before args s = true) (hR : rm.frames + 1 ≤ R.frames ∧ 8 + (2 + 11) + rm.locals ≤ R.locals) : CallB R s args own index yMO_size cMO_size 2 (some .int) wc_MO_size rm rm.cells rm.slots 1 := callB_of 1 hws (WS_gd kc_MO_size) rfl rfl rfl (hws _ kz_MO) hl (by decide +kernel) hR
abbrev wc_MO_rankOf : List Cond := Cond.code yMO_rankOf cMO_rankOf 2 (some .int) :: WS
theorem cb_MO_rankOf {R : Room} {s : State} {args : Array Value} {own : String} {index : Nat} (hws : ∀ w ∈ WS, w.before args s = true) (rm : Room) (hl : (Cond.methodLink own index yMO_rankOf).before args s = true) (hR : rm.frames + 1 ≤ R.frames ∧ 8 + (2 + 11) + rm.locals ≤ R.locals) : CallB R s args own index yMO_rankOf cMO_rankOf 2 (some .int) wc_MO_rankOf rm rm.cells rm.slots 0 := callB_of 0 hws (WS_gd kc_MO_rankOf) rfl rfl rfl (hws _ kz_MO) hl (by decide +kernel) hR
abbrev wc_MO_rank : List Cond := Cond.code yMO_rank cMO_rank 1 (some .int) :: WS
theorem cb_MO_rank {R : Room} {s : State} {args : Array Value} {own : String} {index : Nat} (hws : ∀ w ∈ WS, w.before args s = true) (rm : Room) (hl : (Cond.methodLink own index yMO_rank).before args s = true) (hR : rm.frames + 1 ≤ R.frames ∧ 8 + (1 + 11) + rm.locals ≤ R.locals) : CallB R s args own index yMO_rank cMO_rank 1 (some .int) wc_MO_rank rm rm.cells rm.slots 0 := callB_of 0 hws (WS_gd kc_MO_rank) rfl rfl rfl (hws _ kz_MO) hl (by decide +kernel) hR
abbrev wc_MO_unrank : List Cond := Cond.code yMO_unrank cMO_unrank 4 none :: WS
theorem cb_MO_unrank {R : Room} {s : State} {args : Array Value} {own : String} {index : Nat} (hws : ∀ w ∈ WS, w.before args s = true) (rm : Room) (hl : (Cond.methodLink own index yMO_unrank).before args s = true) (hR : rm.frames + 1 ≤ R.frames ∧ 8 + (4 + 11) + rm.locals ≤ R.locals) : CallB R s args own index yMO_unrank cMO_unrank 4 none wc_MO_unrank rm rm.cells rm.slots 1 := callB_of 1 hws (WS_gd kc_MO_unrank) rfl rfl rfl (hws _ kz_MO) hl (by decide +kernel) hR
abbrev wc_MO_rows : List Cond := Cond.code yMO_rows cMO_rows 8 (some .int) :: WS
theorem cb_MO_rows {R : Room} {s : State} {args : Array Value} {own : String} {index : Nat} (hws : ∀ w ∈ WS, w.before args s = true) (rm : Room) (hl : (Cond.methodLink own index yMO_rows).before args s = true) (hR : rm.frames + 1 ≤ R.frames ∧ 8 + (8 + 11) + rm.locals ≤ R.locals) : CallB R s args own index yMO_rows cMO_rows 8 (some .int) wc_MO_rows rm rm.cells rm.slots 2 := callB_of 2 hws (WS_gd kc_MO_rows) rfl rfl rfl (hws _ kz_MO) hl (by decide +kernel) hR
abbrev wc_MO_put : List Cond := Cond.code yMO_put cMO_put 3 none :: WS
theorem cb_MO_put {R : Room} {s : State} {args : Array Value} {own : String} {index : Nat} (hws : ∀ w ∈ WS, w.before args s = true) (rm : Room) (hl : (Cond.methodLink own index yMO_put).before args s = true) (hR : rm.frames + 1 ≤ R.frames ∧ 8 + (3 + 11) + rm.locals ≤ R.locals) : CallB R s args own index yMO_put cMO_put 3 none wc_MO_put rm rm.cells rm.slots 2 := callB_of 2 hws (WS_gd kc_MO_put) rfl rfl rfl (hws _ kz_MO) hl (by decide +kernel) hR
abbrev wc_MO_note : List Cond := Cond.code yMO_note cMO_note 2 (some .int) :: WS
theorem cb_MO_note {R : Room} {s : State} {args : Array Value} {own : String} {index : Nat} (hws : ∀ w ∈ WS, w.before args s = true) (rm : Room) (hl : (Cond.methodLink own index yMO_note).before args s = true) (hR : rm.frames + 1 ≤ R.frames ∧ 8 + (2 + 11) + rm.locals ≤ R.locals) : CallB R s args own index yMO_note cMO_note 2 (some .int) wc_MO_note rm rm.cells rm.slots 1 := callB_of 1 hws (WS_gd kc_MO_note) rfl rfl rfl (hws _ kz_MO) hl (by decide +kernel) hR
abbrev wc_MO_pairs : List Cond := Cond.code yMO_pairs cMO_pairs 6 none :: WS
theorem cb_MO_pairs {R : Room} {s : State} {args : Array Value} {own : String} {index : Nat} (hws : ∀ w ∈ WS, w.before args s = true) (rm : Room) (hl : (Cond.methodLink own index yMO_pairs).before args s = true) (hR : rm.frames + 1 ≤ R.frames ∧ 8 + (6 + 11) + rm.locals ≤ R.locals) : CallB R s args own index yMO_pairs cMO_pairs 6 none wc_MO_pairs rm rm.cells rm.slots 1 := callB_of 1 hws (WS_gd kc_MO_pairs) rfl rfl rfl (hws _ kz_MO) hl (by decide +kernel) hR
abbrev wc_MO_onesBefore : List Cond := Cond.code yMO_onesBefore cMO_onesBefore 4 (some .int) :: WS
theorem cb_MO_onesBefore {R : Room} {s : State} {args : Array Value} {own : String} {index : Nat} (hws : ∀ w ∈ WS, w.before args s = true) (rm : Room) (hl : (Cond.methodLink own index yMO_onesBefore).before args s = true) (hR : rm.frames + 1 ≤ R.frames ∧ 8 + (4 + 11) + rm.locals ≤ R.locals) : CallB R s args own index yMO_onesBefore cMO_onesBefore 4 (some .int) wc_MO_onesBefore rm rm.cells rm.slots 2 := callB_of 2 hws (WS_gd kc_MO_onesBefore) rfl rfl rfl (hws _ kz_MO) hl (by decide +kernel) hR
abbrev wc_MO_nodeAt : List Cond := Cond.code yMO_nodeAt cMO_nodeAt 4 (some .int) :: WS
theorem cb_MO_nodeAt {R : Room} {s : State} {args : Array Value} {own : String} {index : Nat} (hws : ∀ w ∈ WS, w.before args s = true) (rm : Room) (hl : (Cond.methodLink own index yMO_nodeAt).before args s = true) (hR : rm.frames + 1 ≤ R.frames ∧ 8 + (4 + 11) + rm.locals ≤ R.locals) : CallB R s args own index yMO_nodeAt cMO_nodeAt 4 (some .int) wc_MO_nodeAt rm rm.cells rm.slots 2 := callB_of 2 hws (WS_gd kc_MO_nodeAt) rfl rfl rfl (hws _ kz_MO) hl (by decide +kernel) hR
abbrev wc_MO_showBinary : List Cond := Cond.code yMO_showBinary cMO_showBinary 4 (some .int) :: WS
theorem cb_MO_showBinary {R : Room} {s : State} {args : Array Value} {own : String} {index : Nat} (hws : ∀ w ∈ WS, w.before args s = true) (rm : Room) (hl : (Cond.methodLink own index yMO_showBinary).before args s = true) (hR : rm.frames + 1 ≤ R.frames ∧ 8 + (4 + 11) + rm.locals ≤ R.locals) : CallB R s args own index yMO_showBinary cMO_showBinary 4 (some .int) wc_MO_showBinary rm rm.cells rm.slots 2 := callB_of 2 hws (WS_gd kc_MO_showBinary) rfl rfl rfl (hws _ kz_MO) hl (by decide +kernel) hR
abbrev wc_MO_showPlane : List Cond := Cond.code yMO_showPlane cMO_showPlane 4 (some .int) :: WS
theorem cb_MO_showPlane {R : Room} {s : State} {args : Array Value} {own : String} {index : Nat} (hws : ∀ w ∈ WS, w.before args s = true) (rm : Room) (hl : (Cond.methodLink own index yMO_showPlane).before args s = true) (hR : rm.frames + 1 ≤ R.frames ∧ 8 + (4 + 11) + rm.locals ≤ R.locals) : CallB R s args own index yMO_showPlane cMO_showPlane 4 (some .int) wc_MO_showPlane rm rm.cells rm.slots 1 := callB_of 1 hws (WS_gd kc_MO_showPlane) rfl rfl rfl (hws _ kz_MO) hl (by decide +kernel) hR
abbrev wc_MO_showDiagonals : List Cond := Cond.code yMO_showDiagonals cMO_showDiagonals 8 (some .int) :: WS
theorem cb_MO_showDiagonals {R : Room} {s : State} {args : Array Value} {own : String} {index : Nat} (hws : ∀ w ∈ WS, w.before args s = true) (rm : Room) (hl : (Cond.methodLink own index yMO_showDiagonals).before args s = true) (hR : rm.frames + 1 ≤ R.frames ∧ 8 + (8 + 11) + rm.locals ≤ R.locals) : CallB R s args own index yMO_showDiagonals cMO_showDiagonals 8 (some .int) wc_MO_showDiagonals rm rm.cells rm.slots 2 := callB_of 2 hws (WS_gd kc_MO_showDiagonals) rfl rfl rfl (hws _ kz_MO) hl (by decide +kernel) hR
abbrev wc_MO_showBlocks : List Cond := Cond.code yMO_showBlocks cMO_showBlocks 8 (some .int) :: WS
theorem cb_MO_showBlocks {R : Room} {s : State} {args : Array Value} {own : String} {index : Nat} (hws : ∀ w ∈ WS, w.before args s = true) (rm : Room) (hl : (Cond.methodLink own index yMO_showBlocks).before args s = true) (hR : rm.frames + 1 ≤ R.frames ∧ 8 + (8 + 11) + rm.locals ≤ R.locals) : CallB R s args own index yMO_showBlocks cMO_showBlocks 8 (some .int) wc_MO_showBlocks rm rm.cells rm.slots 2 := callB_of 2 hws (WS_gd kc_MO_showBlocks) rfl rfl rfl (hws _ kz_MO) hl (by decide +kernel) hR
abbrev wc_MO_showPermutation : List Cond := Cond.code yMO_showPermutation cMO_showPermutation 4 (some .int) :: WS
theorem cb_MO_showPermutation {R : Room} {s : State} {args : Array Value} {own : String} {index : Nat} (hws : ∀ w ∈ WS, w.before args s = true) (rm : Room) (hl : (Cond.methodLink own index yMO_showPermutation).before args s = true) (hR : rm.frames + 1 ≤ R.frames ∧ 8 + (4 + 11) + rm.locals ≤ R.locals) : CallB R s args own index yMO_showPermutation cMO_showPermutation 4 (some .int) wc_MO_showPermutation rm rm.cells rm.slots 2 := callB_of 2 hws (WS_gd kc_MO_showPermutation) rfl rfl rfl (hws _ kz_MO) hl (by decide +kernel) hR
abbrev wc_MO_write : List Cond := Cond.code yMO_write cMO_write 5 (some .int) :: WS
theorem cb_MO_write {R : Room} {s : State} {args : Array Value} {own : String} {index : Nat} (hws : ∀ w ∈ WS, w.before args s = true) (rm : Room) (hl : (Cond.methodLink own index yMO_write).before args s = true) (hR : rm.frames + 1 ≤ R.frames ∧ 8 + (5 + 11) + rm.locals ≤ R.locals) : CallB R s args own index yMO_write cMO_write 5 (some .int) wc_MO_write rm rm.cells rm.slots 3 := callB_of 3 hws (WS_gd kc_MO_write) rfl rfl rfl (hws _ kz_MO) hl (by decide +kernel) hR
abbrev wc_MO_show : List Cond := Cond.code yMO_show cMO_show 2 (some .int) :: WS
theorem cb_MO_show {R : Room} {s : State} {args : Array Value} {own : String} {index : Nat} (hws : ∀ w ∈ WS, w.before args s = true) (rm : Room) (hl : (Cond.methodLink own index yMO_show).before args s = true) (hR : rm.frames + 1 ≤ R.frames ∧ 8 + (2 + 11) + rm.locals ≤ R.locals) : CallB R s args own index yMO_show cMO_show 2 (some .int) wc_MO_show rm rm.cells rm.slots 1 := callB_of 1 hws (WS_gd kc_MO_show) rfl rfl rfl (hws _ kz_MO) hl (by decide +kernel) hR
abbrev wc_MO_find : List Cond := Cond.code yMO_find cMO_find 6 (some .int) :: WS
theorem cb_MO_find {R : Room} {s : State} {args : Array Value} {own : String} {index : Nat} (hws : ∀ w ∈ WS, w.before args s = true) (rm : Room) (hl : (Cond.methodLink own index yMO_find).before args s = true) (hR : rm.frames + 1 ≤ R.frames ∧ 8 + (6 + 11) + rm.locals ≤ R.locals) : CallB R s args own index yMO_find cMO_find 6 (some .int) wc_MO_find rm rm.cells rm.slots 2 := callB_of 2 hws (WS_gd kc_MO_find) rfl rfl rfl (hws _ kz_MO) hl (by decide +kernel) hR
abbrev wc_MO_take : List Cond := Cond.code yMO_take cMO_take 3 (some .int) :: WS
theorem cb_MO_take {R : Room} {s : State} {args : Array Value} {own : String} {index : Nat} (hws : ∀ w ∈ WS, w.before args s = true) (rm : Room) (hl : (Cond.methodLink own index yMO_take).before args s = true) (hR : rm.frames + 1 ≤ R.frames ∧ 8 + (3 + 11) + rm.locals ≤ R.locals) : CallB R s args own index yMO_take cMO_take 3 (some .int) wc_MO_take rm rm.cells rm.slots 1 := callB_of 1 hws (WS_gd kc_MO_take) rfl rfl rfl (hws _ kz_MO) hl (by decide +kernel) hR
abbrev wc_MO_mirror : List Cond := Cond.code yMO_mirror cMO_mirror 2 (some .int) :: WS
theorem cb_MO_mirror {R : Room} {s : State} {args : Array Value} {own : String} {index : Nat} (hws : ∀ w ∈ WS, w.before args s = true) (rm : Room) (hl : (Cond.methodLink own index yMO_mirror).before args s = true) (hR : rm.frames + 1 ≤ R.frames ∧ 8 + (2 + 11) + rm.locals ≤ R.locals) : CallB R s args own index yMO_mirror cMO_mirror 2 (some .int) wc_MO_mirror rm rm.cells rm.slots 0 := callB_of 0 hws (WS_gd kc_MO_mirror) rfl rfl rfl (hws _ kz_MO) hl (by decide +kernel) hR
abbrev wc_MO_wish : List Cond := Cond.code yMO_wish cMO_wish 7 none :: WS
theorem cb_MO_wish {R : Room} {s : State} {args : Array Value} {own : String} {index : Nat} (hws : ∀ w ∈ WS, w.before args s = true) (rm : Room) (hl : (Cond.methodLink own index yMO_wish).before args s = true) (hR : rm.frames + 1 ≤ R.frames ∧ 8 + (7 + 11) + rm.locals ≤ R.locals) : CallB R s args own index yMO_wish cMO_wish 7 none wc_MO_wish rm rm.cells rm.slots 3 := callB_of 3 hws (WS_gd kc_MO_wish) rfl rfl rfl (hws _ kz_MO) hl (by decide +kernel) hR
abbrev wc_MO_turn : List Cond := Cond.code yMO_turn cMO_turn 3 (some .int) :: WS
theorem cb_MO_turn {R : Room} {s : State} {args : Array Value} {own : String} {index : Nat} (hws : ∀ w ∈ WS, w.before args s = true) (rm : Room) (hl : (Cond.methodLink own index yMO_turn).before args s = true) (hR : rm.frames + 1 ≤ R.frames ∧ 8 + (3 + 11) + rm.locals ≤ R.locals) : CallB R s args own index yMO_turn cMO_turn 3 (some .int) wc_MO_turn rm rm.cells rm.slots 0 := callB_of 0 hws (WS_gd kc_MO_turn) rfl rfl rfl (hws _ kz_MO) hl (by decide +kernel) hR
abbrev wc_MO_complement : List Cond := Cond.code yMO_complement cMO_complement 4 (some .int) :: WS
theorem cb_MO_complement {R : Room} {s : State} {args : Array Value} {own : String} {index : Nat} (hws : ∀ w ∈ WS, w.before args s = true) (rm : Room) (hl : (Cond.methodLink own index yMO_complement).before args s = true) (hR : rm.frames + 1 ≤ R.frames ∧ 8 + (4 + 11) + rm.locals ≤ R.locals) : CallB R s args own index yMO_complement cMO_complement 4 (some .int) wc_MO_complement rm rm.cells rm.slots 0 := callB_of 0 hws (WS_gd kc_MO_complement) rfl rfl rfl (hws _ kz_MO) hl (by decide +kernel) hR
abbrev wc_MO_joined : List Cond := Cond.code yMO_joined cMO_joined 8 (some .boolean) :: WS
theorem cb_MO_joined {R : Room} {s : State} {args : Array Value} {own : String} {index : Nat} (hws : ∀ w ∈ WS, w.before args s = true) (rm : Room) (hl : (Cond.methodLink own index yMO_joined).before args s = true) (hR : rm.frames + 1 ≤ R.frames ∧ 8 + (8 + 11) + rm.locals ≤ R.locals) : CallB R s args own index yMO_joined cMO_joined 8 (some .boolean) wc_MO_joined rm rm.cells rm.slots 3 := callB_of 3 hws (WS_gd kc_MO_joined) rfl rfl rfl (hws _ kz_MO) hl (by decide +kernel) hR
abbrev wc_MO_corner : List Cond := Cond.code yMO_corner cMO_corner 8 (some .int) :: WS
theorem cb_MO_corner {R : Room} {s : State} {args : Array Value} {own : String} {index : Nat} (hws : ∀ w ∈ WS, w.before args s = true) (rm : Room) (hl : (Cond.methodLink own index yMO_corner).before args s = true) (hR : rm.frames + 1 ≤ R.frames ∧ 8 + (8 + 11) + rm.locals ≤ R.locals) : CallB R s args own index yMO_corner cMO_corner 8 (some .int) wc_MO_corner rm rm.cells rm.slots 4 := callB_of 4 hws (WS_gd kc_MO_corner) rfl rfl rfl (hws _ kz_MO) hl (by decide +kernel) hR
abbrev wc_MO_flip : List Cond := Cond.code yMO_flip cMO_flip 9 (some .int) :: WS
theorem cb_MO_flip {R : Room} {s : State} {args : Array Value} {own : String} {index : Nat} (hws : ∀ w ∈ WS, w.before args s = true) (rm : Room) (hl : (Cond.methodLink own index yMO_flip).before args s = true) (hR : rm.frames + 1 ≤ R.frames ∧ 8 + (9 + 11) + rm.locals ≤ R.locals) : CallB R s args own index yMO_flip cMO_flip 9 (some .int) wc_MO_flip rm rm.cells rm.slots 1 := callB_of 1 hws (WS_gd kc_MO_flip) rfl rfl rfl (hws _ kz_MO) hl (by decide +kernel) hR
abbrev wc_MO_has : List Cond := Cond.code yMO_has cMO_has 7 (some .boolean) :: WS
theorem cb_MO_has {R : Room} {s : State} {args : Array Value} {own : String} {index : Nat} (hws : ∀ w ∈ WS, w.before args s = true) (rm : Room) (hl : (Cond.methodLink own index yMO_has).before args s = true) (hR : rm.frames + 1 ≤ R.frames ∧ 8 + (7 + 11) + rm.locals ≤ R.locals) : CallB R s args own index yMO_has cMO_has 7 (some .boolean) wc_MO_has rm rm.cells rm.slots 4 := callB_of 4 hws (WS_gd kc_MO_has) rfl rfl rfl (hws _ kz_MO) hl (by decide +kernel) hR
abbrev wc_MO_flipped : List Cond := Cond.code yMO_flipped cMO_flipped 9 (some .long) :: WS
theorem cb_MO_flipped {R : Room} {s : State} {args : Array Value} {own : String} {index : Nat} (hws : ∀ w ∈ WS, w.before args s = true) (rm : Room) (hl : (Cond.methodLink own index yMO_flipped).before args s = true) (hR : rm.frames + 1 ≤ R.frames ∧ 8 + (9 + 11) + rm.locals ≤ R.locals) : CallB R s args own index yMO_flipped cMO_flipped 9 (some .long) wc_MO_flipped rm rm.cells rm.slots 4 := callB_of 4 hws (WS_gd kc_MO_flipped) rfl rfl rfl (hws _ kz_MO) hl (by decide +kernel) hR
abbrev wc_MO_list : List Cond := Cond.code yMO_list cMO_list 5 (some .int) :: WS
theorem cb_MO_list {R : Room} {s : State} {args : Array Value} {own : String} {index : Nat} (hws : ∀ w ∈ WS, w.before args s = true) (rm : Room) (hl : (Cond.methodLink own index yMO_list).before args s = true) (hR : rm.frames + 1 ≤ R.frames ∧ 8 + (5 + 11) + rm.locals ≤ R.locals) : CallB R s args own index yMO_list cMO_list 5 (some .int) wc_MO_list rm rm.cells rm.slots 0 := callB_of 0 hws (WS_gd kc_MO_list) rfl rfl rfl (hws _ kz_MO) hl (by decide +kernel) hR
abbrev wc_MO_spread : List Cond := Cond.code yMO_spread cMO_spread 8 none :: WS
theorem cb_MO_spread {R : Room} {s : State} {args : Array Value} {own : String} {index : Nat} (hws : ∀ w ∈ WS, w.before args s = true) (rm : Room) (hl : (Cond.methodLink own index yMO_spread).before args s = true) (hR : rm.frames + 1 ≤ R.frames ∧ 8 + (8 + 11) + rm.locals ≤ R.locals) : CallB R s args own index yMO_spread cMO_spread 8 none wc_MO_spread rm rm.cells rm.slots 2 := callB_of 2 hws (WS_gd kc_MO_spread) rfl rfl rfl (hws _ kz_MO) hl (by decide +kernel) hR
abbrev wc_MO_flips : List Cond := Cond.code yMO_flips cMO_flips 6 (some .int) :: WS
theorem cb_MO_flips {R : Room} {s : State} {args : Array Value} {own : String} {index : Nat} (hws : ∀ w ∈ WS, w.before args s = true) (rm : Room) (hl : (Cond.methodLink own index yMO_flips).before args s = true) (hR : rm.frames + 1 ≤ R.frames ∧ 8 + (6 + 11) + rm.locals ≤ R.locals) : CallB R s args own index yMO_flips cMO_flips 6 (some .int) wc_MO_flips rm rm.cells rm.slots 1 := callB_of 1 hws (WS_gd kc_MO_flips) rfl rfl rfl (hws _ kz_MO) hl (by decide +kernel) hR
abbrev wc_BT_init : List Cond := Cond.code yBT_init cBT_init 1 none :: WS
theorem cb_BT_init {R : Room} {s : State} {args : Array Value} {own : String} {index : Nat} (hws : ∀ w ∈ WS, w.before args s = true) (rm : Room) (hl : (Cond.methodLink own index yBT_init).before args s = true) (hR : rm.frames + 1 ≤ R.frames ∧ 8 + (1 + 11) + rm.locals ≤ R.locals) : CallB R s args own index yBT_init cBT_init 1 none wc_BT_init rm rm.cells rm.slots 0 := callB_of 0 hws (WS_gd kc_BT_init) rfl rfl rfl (hws _ kz_BT) hl (by decide +kernel) hR
abbrev wc_BT_length : List Cond := Cond.code yBT_length cBT_length 2 (some .int) :: WS
theorem cb_BT_length {R : Room} {s : State} {args : Array Value} {own : String} {index : Nat} (hws : ∀ w ∈ WS, w.before args s = true) (rm : Room) (hl : (Cond.methodLink own index yBT_length).before args s = true) (hR : rm.frames + 1 ≤ R.frames ∧ 8 + (2 + 11) + rm.locals ≤ R.locals) : CallB R s args own index yBT_length cBT_length 2 (some .int) wc_BT_length rm rm.cells rm.slots 1 := callB_of 1 hws (WS_gd kc_BT_length) rfl rfl rfl (hws _ kz_BT) hl (by decide +kernel) hR
abbrev wc_BT_write : List Cond := Cond.code yBT_write cBT_write 5 none :: WS
theorem cb_BT_write {R : Room} {s : State} {args : Array Value} {own : String} {index : Nat} (hws : ∀ w ∈ WS, w.before args s = true) (rm : Room) (hl : (Cond.methodLink own index yBT_write).before args s = true) (hR : rm.frames + 1 ≤ R.frames ∧ 8 + (5 + 11) + rm.locals ≤ R.locals) : CallB R s args own index yBT_write cBT_write 5 none wc_BT_write rm rm.cells rm.slots 2 := callB_of 2 hws (WS_gd kc_BT_write) rfl rfl rfl (hws _ kz_BT) hl (by decide +kernel) hR
abbrev wc_BT_nodeAt : List Cond := Cond.code yBT_nodeAt cBT_nodeAt 2 (some .int) :: WS
theorem cb_BT_nodeAt {R : Room} {s : State} {args : Array Value} {own : String} {index : Nat} (hws : ∀ w ∈ WS, w.before args s = true) (rm : Room) (hl : (Cond.methodLink own index yBT_nodeAt).before args s = true) (hR : rm.frames + 1 ≤ R.frames ∧ 8 + (2 + 11) + rm.locals ≤ R.locals) : CallB R s args own index yBT_nodeAt cBT_nodeAt 2 (some .int) wc_BT_nodeAt rm rm.cells rm.slots 2 := callB_of 2 hws (WS_gd kc_BT_nodeAt) rfl rfl rfl (hws _ kz_BT) hl (by decide +kernel) hR
abbrev wc_BT_read : List Cond := Cond.code yBT_read cBT_read 7 none :: WS
theorem cb_BT_read {R : Room} {s : State} {args : Array Value} {own : String} {index : Nat} (hws : ∀ w ∈ WS, w.before args s = true) (rm : Room) (hl : (Cond.methodLink own index yBT_read).before args s = true) (hR : rm.frames + 1 ≤ R.frames ∧ 8 + (7 + 11) + rm.locals ≤ R.locals) : CallB R s args own index yBT_read cBT_read 7 none wc_BT_read rm rm.cells rm.slots 2 := callB_of 2 hws (WS_gd kc_BT_read) rfl rfl rfl (hws _ kz_BT) hl (by decide +kernel) hR
abbrev wc_BR_init : List Cond := Cond.code yBR_init cBR_init 1 none :: WS
theorem cb_BR_init {R : Room} {s : State} {args : Array Value} {own : String} {index : Nat} (hws : ∀ w ∈ WS, w.before args s = true) (rm : Room) (hl : (Cond.methodLink own index yBR_init).before args s = true) (hR : rm.frames + 1 ≤ R.frames ∧ 8 + (1 + 11) + rm.locals ≤ R.locals) : CallB R s args own index yBR_init cBR_init 1 none wc_BR_init rm rm.cells rm.slots 0 := callB_of 0 hws (WS_gd kc_BR_init) rfl rfl rfl (hws _ kz_BR) hl (by decide +kernel) hR
abbrev wc_BR_length : List Cond := Cond.code yBR_length cBR_length 2 (some .int) :: WS
theorem cb_BR_length {R : Room} {s : State} {args : Array Value} {own : String} {index : Nat} (hws : ∀ w ∈ WS, w.before args s = true) (rm : Room) (hl : (Cond.methodLink own index yBR_length).before args s = true) (hR : rm.frames + 1 ≤ R.frames ∧ 8 + (2 + 11) + rm.locals ≤ R.locals) : CallB R s args own index yBR_length cBR_length 2 (some .int) wc_BR_length rm rm.cells rm.slots 1 := callB_of 1 hws (WS_gd kc_BR_length) rfl rfl rfl (hws _ kz_BR) hl (by decide +kernel) hR
abbrev wc_BR_write : List Cond := Cond.code yBR_write cBR_write 4 none :: WS
theorem cb_BR_write {R : Room} {s : State} {args : Array Value} {own : String} {index : Nat} (hws : ∀ w ∈ WS, w.before args s = true) (rm : Room) (hl : (Cond.methodLink own index yBR_write).before args s = true) (hR : rm.frames + 1 ≤ R.frames ∧ 8 + (4 + 11) + rm.locals ≤ R.locals) : CallB R s args own index yBR_write cBR_write 4 none wc_BR_write rm rm.cells rm.slots 2 := callB_of 2 hws (WS_gd kc_BR_write) rfl rfl rfl (hws _ kz_BR) hl (by decide +kernel) hR
abbrev wc_BR_read : List Cond := Cond.code yBR_read cBR_read 5 none :: WS
theorem cb_BR_read {R : Room} {s : State} {args : Array Value} {own : String} {index : Nat} (hws : ∀ w ∈ WS, w.before args s = true) (rm : Room) (hl : (Cond.methodLink own index yBR_read).before args s = true) (hR : rm.frames + 1 ≤ R.frames ∧ 8 + (5 + 11) + rm.locals ≤ R.locals) : CallB R s args own index yBR_read cBR_read 5 none wc_BR_read rm rm.cells rm.slots 2 := callB_of 2 hws (WS_gd kc_BR_read) rfl rfl rfl (hws _ kz_BR) hl (by decide +kernel) hR
abbrev wc_FA_init : List Cond := Cond.code yFA_init cFA_init 1 none :: WS
theorem cb_FA_init {R : Room} {s : State} {args : Array Value} {own : String} {index : Nat} (hws : ∀ w ∈ WS, w.before args s = true) (rm : Room) (hl : (Cond.methodLink own index yFA_init).before args s = true) (hR : rm.frames + 1 ≤ R.frames ∧ 8 + (1 + 11) + rm.locals ≤ R.locals) : CallB R s args own index yFA_init cFA_init 1 none wc_FA_init rm rm.cells rm.slots 0 := callB_of 0 hws (WS_gd kc_FA_init) rfl rfl rfl (hws _ kz_FA) hl (by decide +kernel) hR
abbrev wc_FG_init : List Cond := Cond.code yFG_init cFG_init 8 none :: WS
theorem cb_FG_init {R : Room} {s : State} {args : Array Value} {own : String} {index : Nat} (hws : ∀ w ∈ WS, w.before args s = true) (rm : Room) (hl : (Cond.methodLink own index yFG_init).before args s = true) (hR : rm.frames + 1 ≤ R.frames ∧ 8 + (8 + 11) + rm.locals ≤ R.locals) : CallB R s args own index yFG_init cFG_init 8 none wc_FG_init rm rm.cells rm.slots 3 := callB_of 3 hws (WS_gd kc_FG_init) rfl rfl rfl (hws _ kz_FG) hl (by decide +kernel) hR
abbrev wc_FG_distance : List Cond := Cond.code yFG_distance cFG_distance 5 (some .int) :: WS
theorem cb_FG_distance {R : Room} {s : State} {args : Array Value} {own : String} {index : Nat} (hws : ∀ w ∈ WS, w.before args s = true) (rm : Room) (hl : (Cond.methodLink own index yFG_distance).before args s = true) (hR : rm.frames + 1 ≤ R.frames ∧ 8 + (5 + 11) + rm.locals ≤ R.locals) : CallB R s args own index yFG_distance cFG_distance 5 (some .int) wc_FG_distance rm rm.cells rm.slots 2 := callB_of 2 hws (WS_gd kc_FG_distance) rfl rfl rfl (hws _ kz_FG) hl (by decide +kernel) hR
abbrev wc_FG_findNeighbours : List Cond := Cond.code yFG_findNeighbours cFG_findNeighbours 6 (some .int) :: WS
theorem cb_FG_findNeighbours {R : Room} {s : State} {args : Array Value} {own : String} {index : Nat} (hws : ∀ w ∈ WS, w.before args s = true) (rm : Room) (hl : (Cond.methodLink own index yFG_findNeighbours).before args s = true) (hR : rm.frames + 1 ≤ R.frames ∧ 8 + (6 + 11) + rm.locals ≤ R.locals) : CallB R s args own index yFG_findNeighbours cFG_findNeighbours 6 (some .int) wc_FG_findNeighbours rm rm.cells rm.slots 2 := callB_of 2 hws (WS_gd kc_FG_findNeighbours) rfl rfl rfl (hws _ kz_FG) hl (by decide +kernel) hR
abbrev wc_PA_init : List Cond := Cond.code yPA_init cPA_init 1 none :: WS
theorem cb_PA_init {R : Room} {s : State} {args : Array Value} {own : String} {index : Nat} (hws : ∀ w ∈ WS, w.before args s = true) (rm : Room) (hl : (Cond.methodLink own index yPA_init).before args s = true) (hR : rm.frames + 1 ≤ R.frames ∧ 8 + (1 + 11) + rm.locals ≤ R.locals) : CallB R s args own index yPA_init cPA_init 1 none wc_PA_init rm rm.cells rm.slots 0 := callB_of 0 hws (WS_gd kc_PA_init) rfl rfl rfl (hws _ kz_PA) hl (by decide +kernel) hR
abbrev wc_PA_length : List Cond := Cond.code yPA_length cPA_length 2 (some .int) :: WS
theorem cb_PA_length {R : Room} {s : State} {args : Array Value} {own : String} {index : Nat} (hws : ∀ w ∈ WS, w.before args s = true) (rm : Room) (hl : (Cond.methodLink own index yPA_length).before args s = true) (hR : rm.frames + 1 ≤ R.frames ∧ 8 + (2 + 11) + rm.locals ≤ R.locals) : CallB R s args own index yPA_length cPA_length 2 (some .int) wc_PA_length rm rm.cells rm.slots 1 := callB_of 1 hws (WS_gd kc_PA_length) rfl rfl rfl (hws _ kz_PA) hl (by decide +kernel) hR
abbrev wc_PA_write : List Cond := Cond.code yPA_write cPA_write 7 none :: WS
theorem cb_PA_write {R : Room} {s : State} {args : Array Value} {own : String} {index : Nat} (hws : ∀ w ∈ WS, w.before args s = true) (rm : Room) (hl : (Cond.methodLink own index yPA_write).before args s = true) (hR : rm.frames + 1 ≤ R.frames ∧ 8 + (7 + 11) + rm.locals ≤ R.locals) : CallB R s args own index yPA_write cPA_write 7 none wc_PA_write rm rm.cells rm.slots 2 := callB_of 2 hws (WS_gd kc_PA_write) rfl rfl rfl (hws _ kz_PA) hl (by decide +kernel) hR
abbrev wc_PA_read : List Cond := Cond.code yPA_read cPA_read 6 none :: WS
theorem cb_PA_read {R : Room} {s : State} {args : Array Value} {own : String} {index : Nat} (hws : ∀ w ∈ WS, w.before args s = true) (rm : Room) (hl : (Cond.methodLink own index yPA_read).before args s = true) (hR : rm.frames + 1 ≤ R.frames ∧ 8 + (6 + 11) + rm.locals ≤ R.locals) : CallB R s args own index yPA_read cPA_read 6 none wc_PA_read rm rm.cells rm.slots 2 := callB_of 2 hws (WS_gd kc_PA_read) rfl rfl rfl (hws _ kz_PA) hl (by decide +kernel) hR
abbrev wc_PA_tellComplement : List Cond := Cond.code yPA_tellComplement cPA_tellComplement 5 none :: WS
theorem cb_PA_tellComplement {R : Room} {s : State} {args : Array Value} {own : String} {index : Nat} (hws : ∀ w ∈ WS, w.before args s = true) (rm : Room) (hl : (Cond.methodLink own index yPA_tellComplement).before args s = true) (hR : rm.frames + 1 ≤ R.frames ∧ 8 + (5 + 11) + rm.locals ≤ R.locals) : CallB R s args own index yPA_tellComplement cPA_tellComplement 5 none wc_PA_tellComplement rm rm.cells rm.slots 2 := callB_of 2 hws (WS_gd kc_PA_tellComplement) rfl rfl rfl (hws _ kz_PA) hl (by decide +kernel) hR
abbrev wc_PA_next : List Cond := Cond.code yPA_next cPA_next 4 (some .int) :: WS
theorem cb_PA_next {R : Room} {s : State} {args : Array Value} {own : String} {index : Nat} (hws : ∀ w ∈ WS, w.before args s = true) (rm : Room) (hl : (Cond.methodLink own index yPA_next).before args s = true) (hR : rm.frames + 1 ≤ R.frames ∧ 8 + (4 + 11) + rm.locals ≤ R.locals) : CallB R s args own index yPA_next cPA_next 4 (some .int) wc_PA_next rm rm.cells rm.slots 2 := callB_of 2 hws (WS_gd kc_PA_next) rfl rfl rfl (hws _ kz_PA) hl (by decide +kernel) hR
abbrev wc_PA_greatestReached : List Cond := Cond.code yPA_greatestReached cPA_greatestReached 6 (some .int) :: WS
theorem cb_PA_greatestReached {R : Room} {s : State} {args : Array Value} {own : String} {index : Nat} (hws : ∀ w ∈ WS, w.before args s = true) (rm : Room) (hl : (Cond.methodLink own index yPA_greatestReached).before args s = true) (hR : rm.frames + 1 ≤ R.frames ∧ 8 + (6 + 11) + rm.locals ≤ R.locals) : CallB R s args own index yPA_greatestReached cPA_greatestReached 6 (some .int) wc_PA_greatestReached rm rm.cells rm.slots 2 := callB_of 2 hws (WS_gd kc_PA_greatestReached) rfl rfl rfl (hws _ kz_PA) hl (by decide +kernel) hR
abbrev wc_PE_init : List Cond := Cond.code yPE_init cPE_init 1 none :: WS
theorem cb_PE_init {R : Room} {s : State} {args : Array Value} {own : String} {index : Nat} (hws : ∀ w ∈ WS, w.before args s = true) (rm : Room) (hl : (Cond.methodLink own index yPE_init).before args s = true) (hR : rm.frames + 1 ≤ R.frames ∧ 8 + (1 + 11) + rm.locals ≤ R.locals) : CallB R s args own index yPE_init cPE_init 1 none wc_PE_init rm rm.cells rm.slots 0 := callB_of 0 hws (WS_gd kc_PE_init) rfl rfl rfl (hws _ kz_PE) hl (by decide +kernel) hR
abbrev wc_PE_length : List Cond := Cond.code yPE_length cPE_length 2 (some .int) :: WS
theorem cb_PE_length {R : Room} {s : State} {args : Array Value} {own : String} {index : Nat} (hws : ∀ w ∈ WS, w.before args s = true) (rm : Room) (hl : (Cond.methodLink own index yPE_length).before args s = true) (hR : rm.frames + 1 ≤ R.frames ∧ 8 + (2 + 11) + rm.locals ≤ R.locals) : CallB R s args own index yPE_length cPE_length 2 (some .int) wc_PE_length rm rm.cells rm.slots 1 := callB_of 1 hws (WS_gd kc_PE_length) rfl rfl rfl (hws _ kz_PE) hl (by decide +kernel) hR
abbrev wc_PE_write : List Cond := Cond.code yPE_write cPE_write 5 none :: WS
theorem cb_PE_write {R : Room} {s : State} {args : Array Value} {own : String} {index : Nat} (hws : ∀ w ∈ WS, w.before args s = true) (rm : Room) (hl : (Cond.methodLink own index yPE_write).before args s = true) (hR : rm.frames + 1 ≤ R.frames ∧ 8 + (5 + 11) + rm.locals ≤ R.locals) : CallB R s args own index yPE_write cPE_write 5 none wc_PE_write rm rm.cells rm.slots 2 := callB_of 2 hws (WS_gd kc_PE_write) rfl rfl rfl (hws _ kz_PE) hl (by decide +kernel) hR
abbrev wc_PE_read : List Cond := Cond.code yPE_read cPE_read 6 none :: WS
theorem cb_PE_read {R : Room} {s : State} {args : Array Value} {own : String} {index : Nat} (hws : ∀ w ∈ WS, w.before args s = true) (rm : Room) (hl : (Cond.methodLink own index yPE_read).before args s = true) (hR : rm.frames + 1 ≤ R.frames ∧ 8 + (6 + 11) + rm.locals ≤ R.locals) : CallB R s args own index yPE_read cPE_read 6 none wc_PE_read rm rm.cells rm.slots 2 := callB_of 2 hws (WS_gd kc_PE_read) rfl rfl rfl (hws _ kz_PE) hl (by decide +kernel) hR
abbrev wc_PT_init : List Cond := Cond.code yPT_init cPT_init 1 none :: WS
theorem cb_PT_init {R : Room} {s : State} {args : Array Value} {own : String} {index : Nat} (hws : ∀ w ∈ WS, w.before args s = true) (rm : Room) (hl : (Cond.methodLink own index yPT_init).before args s = true) (hR : rm.frames + 1 ≤ R.frames ∧ 8 + (1 + 11) + rm.locals ≤ R.locals) : CallB R s args own index yPT_init cPT_init 1 none wc_PT_init rm rm.cells rm.slots 0 := callB_of 0 hws (WS_gd kc_PT_init) rfl rfl rfl (hws _ kz_PT) hl (by decide +kernel) hR
abbrev wc_PT_length : List Cond := Cond.code yPT_length cPT_length 2 (some .int) :: WS
theorem cb_PT_length {R : Room} {s : State} {args : Array Value} {own : String} {index : Nat} (hws : ∀ w ∈ WS, w.before args s = true) (rm : Room) (hl : (Cond.methodLink own index yPT_length).before args s = true) (hR : rm.frames + 1 ≤ R.frames ∧ 8 + (2 + 11) + rm.locals ≤ R.locals) : CallB R s args own index yPT_length cPT_length 2 (some .int) wc_PT_length rm rm.cells rm.slots 1 := callB_of 1 hws (WS_gd kc_PT_length) rfl rfl rfl (hws _ kz_PT) hl (by decide +kernel) hR
abbrev wc_PT_write : List Cond := Cond.code yPT_write cPT_write 6 none :: WS
theorem cb_PT_write {R : Room} {s : State} {args : Array Value} {own : String} {index : Nat} (hws : ∀ w ∈ WS, w.before args s = true) (rm : Room) (hl : (Cond.methodLink own index yPT_write).before args s = true) (hR : rm.frames + 1 ≤ R.frames ∧ 8 + (6 + 11) + rm.locals ≤ R.locals) : CallB R s args own index yPT_write cPT_write 6 none wc_PT_write rm rm.cells rm.slots 2 := callB_of 2 hws (WS_gd kc_PT_write) rfl rfl rfl (hws _ kz_PT) hl (by decide +kernel) hR
abbrev wc_PT_read : List Cond := Cond.code yPT_read cPT_read 6 none :: WS
theorem cb_PT_read {R : Room} {s : State} {args : Array Value} {own : String} {index : Nat} (hws : ∀ w ∈ WS, w.before args s = true) (rm : Room) (hl : (Cond.methodLink own index yPT_read).before args s = true) (hR : rm.frames + 1 ≤ R.frames ∧ 8 + (6 + 11) + rm.locals ≤ R.locals) : CallB R s args own index yPT_read cPT_read 6 none wc_PT_read rm rm.cells rm.slots 2 := callB_of 2 hws (WS_gd kc_PT_read) rfl rfl rfl (hws _ kz_PT) hl (by decide +kernel) hR
abbrev wc_RK_init : List Cond := Cond.code yRK_init cRK_init 3 none :: WS
theorem cb_RK_init {R : Room} {s : State} {args : Array Value} {own : String} {index : Nat} (hws : ∀ w ∈ WS, w.before args s = true) (rm : Room) (hl : (Cond.methodLink own index yRK_init).before args s = true) (hR : rm.frames + 1 ≤ R.frames ∧ 8 + (3 + 11) + rm.locals ≤ R.locals) : CallB R s args own index yRK_init cRK_init 3 none wc_RK_init rm rm.cells rm.slots 0 := callB_of 0 hws (WS_gd kc_RK_init) rfl rfl rfl (hws _ kz_RK) hl (by decide +kernel) hR
abbrev wc_RK_count : List Cond := Cond.code yRK_count cRK_count 3 (some .int) :: WS
theorem cb_RK_count {R : Room} {s : State} {args : Array Value} {own : String} {index : Nat} (hws : ∀ w ∈ WS, w.before args s = true) (rm : Room) (hl : (Cond.methodLink own index yRK_count).before args s = true) (hR : rm.frames + 1 ≤ R.frames ∧ 8 + (3 + 11) + rm.locals ≤ R.locals) : CallB R s args own index yRK_count cRK_count 3 (some .int) wc_RK_count rm rm.cells rm.slots 2 := callB_of 2 hws (WS_gd kc_RK_count) rfl rfl rfl (hws _ kz_RK) hl (by decide +kernel) hR
abbrev wc_RK_words : List Cond := Cond.code yRK_words cRK_words 2 (some .int) :: WS
theorem cb_RK_words {R : Room} {s : State} {args : Array Value} {own : String} {index : Nat} (hws : ∀ w ∈ WS, w.before args s = true) (rm : Room) (hl : (Cond.methodLink own index yRK_words).before args s = true) (hR : rm.frames + 1 ≤ R.frames ∧ 8 + (2 + 11) + rm.locals ≤ R.locals) : CallB R s args own index yRK_words cRK_words 2 (some .int) wc_RK_words rm rm.cells rm.slots 1 := callB_of 1 hws (WS_gd kc_RK_words) rfl rfl rfl (hws _ kz_RK) hl (by decide +kernel) hR
abbrev wc_RK_of : List Cond := Cond.code yRK_of cRK_of 6 (some .int) :: WS
theorem cb_RK_of {R : Room} {s : State} {args : Array Value} {own : String} {index : Nat} (hws : ∀ w ∈ WS, w.before args s = true) (rm : Room) (hl : (Cond.methodLink own index yRK_of).before args s = true) (hR : rm.frames + 1 ≤ R.frames ∧ 8 + (6 + 11) + rm.locals ≤ R.locals) : CallB R s args own index yRK_of cRK_of 6 (some .int) wc_RK_of rm rm.cells rm.slots 1 := callB_of 1 hws (WS_gd kc_RK_of) rfl rfl rfl (hws _ kz_RK) hl (by decide +kernel) hR
abbrev wc_RK_seek : List Cond := Cond.code yRK_seek cRK_seek 9 none :: WS
theorem cb_RK_seek {R : Room} {s : State} {args : Array Value} {own : String} {index : Nat} (hws : ∀ w ∈ WS, w.before args s = true) (rm : Room) (hl : (Cond.methodLink own index yRK_seek).before args s = true) (hR : rm.frames + 1 ≤ R.frames ∧ 8 + (9 + 11) + rm.locals ≤ R.locals) : CallB R s args own index yRK_seek cRK_seek 9 none wc_RK_seek rm rm.cells rm.slots 3 := callB_of 3 hws (WS_gd kc_RK_seek) rfl rfl rfl (hws _ kz_RK) hl (by decide +kernel) hR
abbrev wc_RK_endingsWithOneFirst : List Cond := Cond.code yRK_endingsWithOneFirst cRK_endingsWithOneFirst 3 (some .int) :: WS
theorem cb_RK_endingsWithOneFirst {R : Room} {s : State} {args : Array Value} {own : String} {index : Nat} (hws : ∀ w ∈ WS, w.before args s = true) (rm : Room) (hl : (Cond.methodLink own index yRK_endingsWithOneFirst).before args s = true) (hR : rm.frames + 1 ≤ R.frames ∧ 8 + (3 + 11) + rm.locals ≤ R.locals) : CallB R s args own index yRK_endingsWithOneFirst cRK_endingsWithOneFirst 3 (some .int) wc_RK_endingsWithOneFirst rm rm.cells rm.slots 2 := callB_of 2 hws (WS_gd kc_RK_endingsWithOneFirst) rfl rfl rfl (hws _ kz_RK) hl (by decide +kernel) hR
abbrev wc_TR_init : List Cond := Cond.code yTR_init cTR_init 1 none :: WS
theorem cb_TR_init {R : Room} {s : State} {args : Array Value} {own : String} {index : Nat} (hws : ∀ w ∈ WS, w.before args s = true) (rm : Room) (hl : (Cond.methodLink own index yTR_init).before args s = true) (hR : rm.frames + 1 ≤ R.frames ∧ 8 + (1 + 11) + rm.locals ≤ R.locals) : CallB R s args own index yTR_init cTR_init 1 none wc_TR_init rm rm.cells rm.slots 0 := callB_of 0 hws (WS_gd kc_TR_init) rfl rfl rfl (hws _ kz_TR) hl (by decide +kernel) hR
abbrev wc_TR_length : List Cond := Cond.code yTR_length cTR_length 2 (some .int) :: WS
theorem cb_TR_length {R : Room} {s : State} {args : Array Value} {own : String} {index : Nat} (hws : ∀ w ∈ WS, w.before args s = true) (rm : Room) (hl : (Cond.methodLink own index yTR_length).before args s = true) (hR : rm.frames + 1 ≤ R.frames ∧ 8 + (2 + 11) + rm.locals ≤ R.locals) : CallB R s args own index yTR_length cTR_length 2 (some .int) wc_TR_length rm rm.cells rm.slots 1 := callB_of 1 hws (WS_gd kc_TR_length) rfl rfl rfl (hws _ kz_TR) hl (by decide +kernel) hR
abbrev wc_TR_write : List Cond := Cond.code yTR_write cTR_write 4 none :: WS
theorem cb_TR_write {R : Room} {s : State} {args : Array Value} {own : String} {index : Nat} (hws : ∀ w ∈ WS, w.before args s = true) (rm : Room) (hl : (Cond.methodLink own index yTR_write).before args s = true) (hR : rm.frames + 1 ≤ R.frames ∧ 8 + (4 + 11) + rm.locals ≤ R.locals) : CallB R s args own index yTR_write cTR_write 4 none wc_TR_write rm rm.cells rm.slots 2 := callB_of 2 hws (WS_gd kc_TR_write) rfl rfl rfl (hws _ kz_TR) hl (by decide +kernel) hR
abbrev wc_TR_read : List Cond := Cond.code yTR_read cTR_read 4 none :: WS
theorem cb_TR_read {R : Room} {s : State} {args : Array Value} {own : String} {index : Nat} (hws : ∀ w ∈ WS, w.before args s = true) (rm : Room) (hl : (Cond.methodLink own index yTR_read).before args s = true) (hR : rm.frames + 1 ≤ R.frames ∧ 8 + (4 + 11) + rm.locals ≤ R.locals) : CallB R s args own index yTR_read cTR_read 4 none wc_TR_read rm rm.cells rm.slots 2 := callB_of 2 hws (WS_gd kc_TR_read) rfl rfl rfl (hws _ kz_TR) hl (by decide +kernel) hR
abbrev wc_TR_draw : List Cond := Cond.code yTR_draw cTR_draw 4 none :: WS
theorem cb_TR_draw {R : Room} {s : State} {args : Array Value} {own : String} {index : Nat} (hws : ∀ w ∈ WS, w.before args s = true) (rm : Room) (hl : (Cond.methodLink own index yTR_draw).before args s = true) (hR : rm.frames + 1 ≤ R.frames ∧ 8 + (4 + 11) + rm.locals ≤ R.locals) : CallB R s args own index yTR_draw cTR_draw 4 none wc_TR_draw rm rm.cells rm.slots 1 := callB_of 1 hws (WS_gd kc_TR_draw) rfl rfl rfl (hws _ kz_TR) hl (by decide +kernel) hR
abbrev wc_TR_insert : List Cond := Cond.code yTR_insert cTR_insert 4 none :: WS
theorem cb_TR_insert {R : Room} {s : State} {args : Array Value} {own : String} {index : Nat} (hws : ∀ w ∈ WS, w.before args s = true) (rm : Room) (hl : (Cond.methodLink own index yTR_insert).before args s = true) (hR : rm.frames + 1 ≤ R.frames ∧ 8 + (4 + 11) + rm.locals ≤ R.locals) : CallB R s args own index yTR_insert cTR_insert 4 none wc_TR_insert rm rm.cells rm.slots 2 := callB_of 2 hws (WS_gd kc_TR_insert) rfl rfl rfl (hws _ kz_TR) hl (by decide +kernel) hR
abbrev wc_TR_comesAfter : List Cond := Cond.code yTR_comesAfter cTR_comesAfter 4 (some .boolean) :: WS
theorem cb_TR_comesAfter {R : Room} {s : State} {args : Array Value} {own : String} {index : Nat} (hws : ∀ w ∈ WS, w.before args s = true) (rm : Room) (hl : (Cond.methodLink own index yTR_comesAfter).before args s = true) (hR : rm.frames + 1 ≤ R.frames ∧ 8 + (4 + 11) + rm.locals ≤ R.locals) : CallB R s args own index yTR_comesAfter cTR_comesAfter 4 (some .boolean) wc_TR_comesAfter rm rm.cells rm.slots 3 := callB_of 3 hws (WS_gd kc_TR_comesAfter) rfl rfl rfl (hws _ kz_TR) hl (by decide +kernel) hR
abbrev wc_TR_tell : List Cond := Cond.code yTR_tell cTR_tell 5 none :: WS
theorem cb_TR_tell {R : Room} {s : State} {args : Array Value} {own : String} {index : Nat} (hws : ∀ w ∈ WS, w.before args s = true) (rm : Room) (hl : (Cond.methodLink own index yTR_tell).before args s = true) (hR : rm.frames + 1 ≤ R.frames ∧ 8 + (5 + 11) + rm.locals ≤ R.locals) : CallB R s args own index yTR_tell cTR_tell 5 none wc_TR_tell rm rm.cells rm.slots 1 := callB_of 1 hws (WS_gd kc_TR_tell) rfl rfl rfl (hws _ kz_TR) hl (by decide +kernel) hR
abbrev wc_TR_moveCorners : List Cond := Cond.code yTR_moveCorners cTR_moveCorners 2 none :: WS
theorem cb_TR_moveCorners {R : Room} {s : State} {args : Array Value} {own : String} {index : Nat} (hws : ∀ w ∈ WS, w.before args s = true) (rm : Room) (hl : (Cond.methodLink own index yTR_moveCorners).before args s = true) (hR : rm.frames + 1 ≤ R.frames ∧ 8 + (2 + 11) + rm.locals ≤ R.locals) : CallB R s args own index yTR_moveCorners cTR_moveCorners 2 none wc_TR_moveCorners rm rm.cells rm.slots 0 := callB_of 0 hws (WS_gd kc_TR_moveCorners) rfl rfl rfl (hws _ kz_TR) hl (by decide +kernel) hR
abbrev wc_TR_exchange : List Cond := Cond.code yTR_exchange cTR_exchange 5 none :: WS
theorem cb_TR_exchange {R : Room} {s : State} {args : Array Value} {own : String} {index : Nat} (hws : ∀ w ∈ WS, w.before args s = true) (rm : Room) (hl : (Cond.methodLink own index yTR_exchange).before args s = true) (hR : rm.frames + 1 ≤ R.frames ∧ 8 + (5 + 11) + rm.locals ≤ R.locals) : CallB R s args own index yTR_exchange cTR_exchange 5 none wc_TR_exchange rm rm.cells rm.slots 1 := callB_of 1 hws (WS_gd kc_TR_exchange) rfl rfl rfl (hws _ kz_TR) hl (by decide +kernel) hR
abbrev wc_TR_lastCorner : List Cond := Cond.code yTR_lastCorner cTR_lastCorner 1 (some .int) :: WS
theorem cb_TR_lastCorner {R : Room} {s : State} {args : Array Value} {own : String} {index : Nat} (hws : ∀ w ∈ WS, w.before args s = true) (rm : Room) (hl : (Cond.methodLink own index yTR_lastCorner).before args s = true) (hR : rm.frames + 1 ≤ R.frames ∧ 8 + (1 + 11) + rm.locals ≤ R.locals) : CallB R s args own index yTR_lastCorner cTR_lastCorner 1 (some .int) wc_TR_lastCorner rm rm.cells rm.slots 0 := callB_of 0 hws (WS_gd kc_TR_lastCorner) rfl rfl rfl (hws _ kz_TR) hl (by decide +kernel) hR
abbrev wc_TR_joined : List Cond := Cond.code yTR_joined cTR_joined 6 (some .boolean) :: WS
theorem cb_TR_joined {R : Room} {s : State} {args : Array Value} {own : String} {index : Nat} (hws : ∀ w ∈ WS, w.before args s = true) (rm : Room) (hl : (Cond.methodLink own index yTR_joined).before args s = true) (hR : rm.frames + 1 ≤ R.frames ∧ 8 + (6 + 11) + rm.locals ≤ R.locals) : CallB R s args own index yTR_joined cTR_joined 6 (some .boolean) wc_TR_joined rm rm.cells rm.slots 2 := callB_of 2 hws (WS_gd kc_TR_joined) rfl rfl rfl (hws _ kz_TR) hl (by decide +kernel) hR
abbrev wc_WD_init : List Cond := Cond.code yWD_init cWD_init 1 none :: WS
theorem cb_WD_init {R : Room} {s : State} {args : Array Value} {own : String} {index : Nat} (hws : ∀ w ∈ WS, w.before args s = true) (rm : Room) (hl : (Cond.methodLink own index yWD_init).before args s = true) (hR : rm.frames + 1 ≤ R.frames ∧ 8 + (1 + 11) + rm.locals ≤ R.locals) : CallB R s args own index yWD_init cWD_init 1 none wc_WD_init rm rm.cells rm.slots 0 := callB_of 0 hws (WS_gd kc_WD_init) rfl rfl rfl (hws _ kz_WD) hl (by decide +kernel) hR
abbrev wc_WD_begin : List Cond := Cond.code yWD_begin cWD_begin 2 none :: WS
theorem cb_WD_begin {R : Room} {s : State} {args : Array Value} {own : String} {index : Nat} (hws : ∀ w ∈ WS, w.before args s = true) (rm : Room) (hl : (Cond.methodLink own index yWD_begin).before args s = true) (hR : rm.frames + 1 ≤ R.frames ∧ 8 + (2 + 11) + rm.locals ≤ R.locals) : CallB R s args own index yWD_begin cWD_begin 2 none wc_WD_begin rm rm.cells rm.slots 1 := callB_of 1 hws (WS_gd kc_WD_begin) rfl rfl rfl (hws _ kz_WD) hl (by decide +kernel) hR
abbrev wc_WD_closeAfter : List Cond := Cond.code yWD_closeAfter cWD_closeAfter 2 none :: WS
theorem cb_WD_closeAfter {R : Room} {s : State} {args : Array Value} {own : String} {index : Nat} (hws : ∀ w ∈ WS, w.before args s = true) (rm : Room) (hl : (Cond.methodLink own index yWD_closeAfter).before args s = true) (hR : rm.frames + 1 ≤ R.frames ∧ 8 + (2 + 11) + rm.locals ≤ R.locals) : CallB R s args own index yWD_closeAfter cWD_closeAfter 2 none wc_WD_closeAfter rm rm.cells rm.slots 1 := callB_of 1 hws (WS_gd kc_WD_closeAfter) rfl rfl rfl (hws _ kz_WD) hl (by decide +kernel) hR
abbrev wc_WD_finish : List Cond := Cond.code yWD_finish cWD_finish 5 (some .boolean) :: WS
theorem cb_WD_finish {R : Room} {s : State} {args : Array Value} {own : String} {index : Nat} (hws : ∀ w ∈ WS, w.before args s = true) (rm : Room) (hl : (Cond.methodLink own index yWD_finish).before args s = true) (hR : rm.frames + 1 ≤ R.frames ∧ 8 + (5 + 11) + rm.locals ≤ R.locals) : CallB R s args own index yWD_finish cWD_finish 5 (some .boolean) wc_WD_finish rm rm.cells rm.slots 0 := callB_of 0 hws (WS_gd kc_WD_finish) rfl rfl rfl (hws _ kz_WD) hl (by decide +kernel) hR
abbrev wc_WD_pairs : List Cond := Cond.code yWD_pairs cWD_pairs 1 (some .int) :: WS
theorem cb_WD_pairs {R : Room} {s : State} {args : Array Value} {own : String} {index : Nat} (hws : ∀ w ∈ WS, w.before args s = true) (rm : Room) (hl : (Cond.methodLink own index yWD_pairs).before args s = true) (hR : rm.frames + 1 ≤ R.frames ∧ 8 + (1 + 11) + rm.locals ≤ R.locals) : CallB R s args own index yWD_pairs cWD_pairs 1 (some .int) wc_WD_pairs rm rm.cells rm.slots 0 := callB_of 0 hws (WS_gd kc_WD_pairs) rfl rfl rfl (hws _ kz_WD) hl (by decide +kernel) hR
abbrev wc_WD_length : List Cond := Cond.code yWD_length cWD_length 1 (some .int) :: WS
theorem cb_WD_length {R : Room} {s : State} {args : Array Value} {own : String} {index : Nat} (hws : ∀ w ∈ WS, w.before args s = true) (rm : Room) (hl : (Cond.methodLink own index yWD_length).before args s = true) (hR : rm.frames + 1 ≤ R.frames ∧ 8 + (1 + 11) + rm.locals ≤ R.locals) : CallB R s args own index yWD_length cWD_length 1 (some .int) wc_WD_length rm rm.cells rm.slots 0 := callB_of 0 hws (WS_gd kc_WD_length) rfl rfl rfl (hws _ kz_WD) hl (by decide +kernel) hR
abbrev wc_WD_isOne : List Cond := Cond.code yWD_isOne cWD_isOne 2 (some .boolean) :: WS
theorem cb_WD_isOne {R : Room} {s : State} {args : Array Value} {own : String} {index : Nat} (hws : ∀ w ∈ WS, w.before args s = true) (rm : Room) (hl : (Cond.methodLink own index yWD_isOne).before args s = true) (hR : rm.frames + 1 ≤ R.frames ∧ 8 + (2 + 11) + rm.locals ≤ R.locals) : CallB R s args own index yWD_isOne cWD_isOne 2 (some .boolean) wc_WD_isOne rm rm.cells rm.slots 1 := callB_of 1 hws (WS_gd kc_WD_isOne) rfl rfl rfl (hws _ kz_WD) hl (by decide +kernel) hR
abbrev wc_WD_closingsAfter : List Cond := Cond.code yWD_closingsAfter cWD_closingsAfter 2 (some .int) :: WS
theorem cb_WD_closingsAfter {R : Room} {s : State} {args : Array Value} {own : String} {index : Nat} (hws : ∀ w ∈ WS, w.before args s = true) (rm : Room) (hl : (Cond.methodLink own index yWD_closingsAfter).before args s = true) (hR : rm.frames + 1 ≤ R.frames ∧ 8 + (2 + 11) + rm.locals ≤ R.locals) : CallB R s args own index yWD_closingsAfter cWD_closingsAfter 2 (some .int) wc_WD_closingsAfter rm rm.cells rm.slots 1 := callB_of 1 hws (WS_gd kc_WD_closingsAfter) rfl rfl rfl (hws _ kz_WD) hl (by decide +kernel) hR
abbrev wc_WD_zerosBefore : List Cond := Cond.code yWD_zerosBefore cWD_zerosBefore 2 (some .int) :: WS
theorem cb_WD_zerosBefore {R : Room} {s : State} {args : Array Value} {own : String} {index : Nat} (hws : ∀ w ∈ WS, w.before args s = true) (rm : Room) (hl : (Cond.methodLink own index yWD_zerosBefore).before args s = true) (hR : rm.frames + 1 ≤ R.frames ∧ 8 + (2 + 11) + rm.locals ≤ R.locals) : CallB R s args own index yWD_zerosBefore cWD_zerosBefore 2 (some .int) wc_WD_zerosBefore rm rm.cells rm.slots 1 := callB_of 1 hws (WS_gd kc_WD_zerosBefore) rfl rfl rfl (hws _ kz_WD) hl (by decide +kernel) hR
abbrev wc_WD_onesBefore : List Cond := Cond.code yWD_onesBefore cWD_onesBefore 4 (some .int) :: WS
theorem cb_WD_onesBefore {R : Room} {s : State} {args : Array Value} {own : String} {index : Nat} (hws : ∀ w ∈ WS, w.before args s = true) (rm : Room) (hl : (Cond.methodLink own index yWD_onesBefore).before args s = true) (hR : rm.frames + 1 ≤ R.frames ∧ 8 + (4 + 11) + rm.locals ≤ R.locals) : CallB R s args own index yWD_onesBefore cWD_onesBefore 4 (some .int) wc_WD_onesBefore rm rm.cells rm.slots 1 := callB_of 1 hws (WS_gd kc_WD_onesBefore) rfl rfl rfl (hws _ kz_WD) hl (by decide +kernel) hR
abbrev wc_WD_fall : List Cond := Cond.code yWD_fall cWD_fall 4 (some .int) :: WS
theorem cb_WD_fall {R : Room} {s : State} {args : Array Value} {own : String} {index : Nat} (hws : ∀ w ∈ WS, w.before args s = true) (rm : Room) (hl : (Cond.methodLink own index yWD_fall).before args s = true) (hR : rm.frames + 1 ≤ R.frames ∧ 8 + (4 + 11) + rm.locals ≤ R.locals) : CallB R s args own index yWD_fall cWD_fall 4 (some .int) wc_WD_fall rm rm.cells rm.slots 1 := callB_of 1 hws (WS_gd kc_WD_fall) rfl rfl rfl (hws _ kz_WD) hl (by decide +kernel) hR
abbrev wc_AR_fill : List Cond := Cond.code yAR_fill cAR_fill 4 none :: WS
theorem cb_AR_fill {R : Room} {s : State} {args : Array Value} {own : String} {index : Nat} (hws : ∀ w ∈ WS, w.before args s = true) (rm : Room) (hl : (Cond.methodLink own index yAR_fill).before args s = true) (hR : rm.frames + 1 ≤ R.frames ∧ 8 + (4 + 11) + rm.locals ≤ R.locals) : CallB R s args own index yAR_fill cAR_fill 4 none wc_AR_fill rm rm.cells rm.slots 2 := callB_of 2 hws (WS_gd kc_AR_fill) rfl rfl rfl (hws _ kz_AR) hl (by decide +kernel) hR
