theorem tw_of {w : Cond} (i : Nat) (h : lw_tbl[i]? = some w) (g : goodWord w = true) : w ∈ TB := TB_in (List.mem_of_getElem? h) g
theorem tn_of {w : Cond} (i : Nat) (h : lw_tbl[i]? = some w) (g : isNest w = true) : w ∈ nestWs := List.mem_filter.mpr ⟨List.mem_of_getElem? h, g⟩
theorem tw0 : (Cond.selects "BitCongruences" yX6_factAt yX6_factAt) ∈ TB := tw_of 0 (by decide +kernel) rfl
theorem tw1 : (Cond.selects "BitCongruences$Fact" yX1_fitBits yX1_fitBits) ∈ TB := tw_of 1 (by decide +kernel) rfl
theorem tw2 : (Cond.selects "BitCongruences$Fact" yX1_fitRest yX1_fitRest) ∈ TB := tw_of 2 (by decide +kernel) rfl
theorem tw3 : (Cond.selects "BitCongruences$Fact" yX1_learnBits yX1_learnBits) ∈ TB := tw_of 3 (by decide +kernel) rfl
theorem tw4 : (Cond.selects "BitCongruences" yX6_meetBesides yX6_meetBesides) ∈ TB := tw_of 4 (by decide +kernel) rfl
theorem tw5 : (Cond.selects "BitCongruences$Acts" yX0_shifted yX0_shifted) ∈ TB := tw_of 5 (by decide +kernel) rfl
theorem tw6 : (Cond.selects "BitCongruences$Acts" yX0_move yX0_move) ∈ TB := tw_of 6 (by decide +kernel) rfl
theorem tw7 : (Cond.selects "BitCongruences$Acts" yX0_moveLeft yX0_moveLeft) ∈ TB := tw_of 7 (by decide +kernel) rfl
theorem tw8 : (Cond.selects "BitCongruences$Acts" yX0_moveRightZeros yX0_moveRightZeros) ∈ TB := tw_of 8 (by decide +kernel) rfl
theorem tw9 : (Cond.selects "BitCongruences" yX6_routineAt yX6_routineAt) ∈ TB := tw_of 9 (by decide +kernel) rfl
theorem tw10 : (Cond.selects "BitCongruences$Finder" yX2_send yX2_send) ∈ TB := tw_of 10 (by decide +kernel) rfl
theorem tw11 : (Cond.selects "BitCongruences$Finder" yX2_someComeToNone yX2_someComeToNone) ∈ TB := tw_of 11 (by decide +kernel) rfl
theorem tw12 : (Cond.selects "BitCongruences$Finder" yX2_merge yX2_merge) ∈ TB := tw_of 12 (by decide +kernel) rfl
theorem tw13 : (Cond.selects "BitCongruences$Finder" yX2_fetch yX2_fetch) ∈ TB := tw_of 13 (by decide +kernel) rfl
theorem tw14 : (Cond.selects "BitCongruences$Finder" yX2_lookUp yX2_lookUp) ∈ TB := tw_of 14 (by decide +kernel) rfl
theorem tw15 : (Cond.selects "BitCongruences$Finder" yX2_branch yX2_branch) ∈ TB := tw_of 15 (by decide +kernel) rfl
theorem tw16 : (Cond.selects "BitCongruences$Run" yX4_look yX4_look) ∈ TB := tw_of 16 (by decide +kernel) rfl
theorem tw17 : (Cond.selects "BitCongruences$Run" yX4_step yX4_step) ∈ TB := tw_of 17 (by decide +kernel) rfl
theorem tw18 : (Cond.selects "BitCongruences$Run" yX4_lookUp yX4_lookUp) ∈ TB := tw_of 18 (by decide +kernel) rfl
theorem tw19 : (Cond.selects "BitCongruences$Run" yX4_compute yX4_compute) ∈ TB := tw_of 19 (by decide +kernel) rfl
theorem tw20 : (Cond.selects "BitCongruencesModel" yX7_all yX7_all) ∈ TB := tw_of 20 (by decide +kernel) rfl
theorem tw21 : (Cond.selects "BitCongruencesModel" yX7_put yX7_put) ∈ TB := tw_of 21 (by decide +kernel) rfl
theorem tw22 : (Cond.selects "BitCongruencesModel" yX7_nothing yX7_nothing) ∈ TB := tw_of 22 (by decide +kernel) rfl
theorem tw23 : (Cond.selects "BitCongruencesModel" yX7_sharpen yX7_sharpen) ∈ TB := tw_of 23 (by decide +kernel) rfl
theorem tw24 : (Cond.selects "BitCongruencesModel" yX7_byBits yX7_byBits) ∈ TB := tw_of 24 (by decide +kernel) rfl
theorem tw25 : (Cond.selects "BitCongruencesModel" yX7_up yX7_up) ∈ TB := tw_of 25 (by decide +kernel) rfl
theorem tw26 : (Cond.selects "BitCongruencesModel" yX7_down yX7_down) ∈ TB := tw_of 26 (by decide +kernel) rfl
theorem tw27 : (Cond.selects "BitCongruencesModel" yX7_byRest yX7_byRest) ∈ TB := tw_of 27 (by decide +kernel) rfl
theorem tw28 : (Cond.selects "BitCongruencesModel" yX7_byEnds yX7_byEnds) ∈ TB := tw_of 28 (by decide +kernel) rfl
theorem tw29 : (Cond.selects "BitCongruencesModel" yX7_number yX7_number) ∈ TB := tw_of 29 (by decide +kernel) rfl
theorem tw30 : (Cond.selects "BitCongruencesModel" yX7_meet yX7_meet) ∈ TB := tw_of 30 (by decide +kernel) rfl
theorem tw31 : (Cond.selects "BitCongruencesModel" yX7_setRest yX7_setRest) ∈ TB := tw_of 31 (by decide +kernel) rfl
theorem tw32 : (Cond.selects "BitCongruencesModel" yX7_join yX7_join) ∈ TB := tw_of 32 (by decide +kernel) rfl
theorem tw33 : (Cond.selects "BitCongruencesModel" yX7_copy yX7_copy) ∈ TB := tw_of 33 (by decide +kernel) rfl
theorem tw34 : (Cond.selects "BitCongruencesModel" yX7_isNumber yX7_isNumber) ∈ TB := tw_of 34 (by decide +kernel) rfl
theorem tw35 : (Cond.selects "BitCongruencesModel" yX7_restOf yX7_restOf) ∈ TB := tw_of 35 (by decide +kernel) rfl
theorem tw36 : (Cond.selects "BitCongruencesModel" yX7_byOf yX7_byOf) ∈ TB := tw_of 36 (by decide +kernel) rfl
theorem tw37 : (Cond.selects "BitCongruencesModel" yX7_does yX7_does) ∈ TB := tw_of 37 (by decide +kernel) rfl
theorem tw38 : (Cond.selects "BitCongruencesModel" yX7_add yX7_add) ∈ TB := tw_of 38 (by decide +kernel) rfl
theorem tw39 : (Cond.selects "BitCongruencesModel" yX7_turn yX7_turn) ∈ TB := tw_of 39 (by decide +kernel) rfl
theorem tw40 : (Cond.selects "BitCongruencesModel" yX7_ripple yX7_ripple) ∈ TB := tw_of 40 (by decide +kernel) rfl
theorem tw41 : (Cond.selects "BitCongruencesModel" yX7_bit yX7_bit) ∈ TB := tw_of 41 (by decide +kernel) rfl
theorem tw42 : (Cond.selects "BitCongruencesModel" yX7_multiply yX7_multiply) ∈ TB := tw_of 42 (by decide +kernel) rfl
theorem tw43 : (Cond.selects "BitCongruencesModel" yX7_oddProduct yX7_oddProduct) ∈ TB := tw_of 43 (by decide +kernel) rfl
theorem tw44 : (Cond.selects "BitCongruencesModel" yX7_bitwise yX7_bitwise) ∈ TB := tw_of 44 (by decide +kernel) rfl
theorem tw45 : (Cond.selects "BitCongruencesModel" yX7_shift yX7_shift) ∈ TB := tw_of 45 (by decide +kernel) rfl
theorem tw46 : (Cond.selects "BitCongruencesModel" yX7_move yX7_move) ∈ TB := tw_of 46 (by decide +kernel) rfl
theorem tw47 : (Cond.selects "BitCongruencesModel" yX7_divide yX7_divide) ∈ TB := tw_of 47 (by decide +kernel) rfl
theorem tw48 : (Cond.selects "BitCongruencesModel" yX7_narrow yX7_narrow) ∈ TB := tw_of 48 (by decide +kernel) rfl
theorem tw49 : (Cond.selects "BitCongruencesModel" yX7_isIn yX7_isIn) ∈ TB := tw_of 49 (by decide +kernel) rfl
theorem tw50 : (Cond.selects "BitCongruencesModel" yX7_isMethod yX7_isMethod) ∈ TB := tw_of 50 (by decide +kernel) rfl
theorem tw51 : (Cond.selects "BitCongruencesModel" yX7_cell yX7_cell) ∈ TB := tw_of 51 (by decide +kernel) rfl
theorem tw52 : (Cond.selects "BitCongruencesModel" yX7_some yX7_some) ∈ TB := tw_of 52 (by decide +kernel) rfl
theorem tw53 : (Cond.selects "BitCongruencesModel" yX7_work yX7_work) ∈ TB := tw_of 53 (by decide +kernel) rfl
theorem tw54 : (Cond.selects "BitCongruencesModel" yX7_ready yX7_ready) ∈ TB := tw_of 54 (by decide +kernel) rfl
theorem tw55 : (Cond.selects "BitCongruencesModel" yX7_asked yX7_asked) ∈ TB := tw_of 55 (by decide +kernel) rfl
theorem tw56 : (Cond.selects "BitCongruencesModel" yX7_apart yX7_apart) ∈ TB := tw_of 56 (by decide +kernel) rfl
theorem tw57 : (Cond.selects "BitCongruencesModel" yX7_atMost yX7_atMost) ∈ TB := tw_of 57 (by decide +kernel) rfl
theorem tw58 : (Cond.selects "BitCongruencesModel" yX7_atLeast yX7_atLeast) ∈ TB := tw_of 58 (by decide +kernel) rfl
theorem tw59 : (Cond.selects "BitCongruencesModel" yX7_goTo yX7_goTo) ∈ TB := tw_of 59 (by decide +kernel) rfl
theorem tw60 : (Cond.selects "BitCongruencesModel" yX7_widen yX7_widen) ∈ TB := tw_of 60 (by decide +kernel) rfl
theorem tw61 : (Cond.selects "BitCongruencesModel" yX7_alike yX7_alike) ∈ TB := tw_of 61 (by decide +kernel) rfl
theorem tw62 : (Cond.selects "BitCongruencesModel" yX7_look yX7_look) ∈ TB := tw_of 62 (by decide +kernel) rfl
theorem tw63 : (Cond.selects "BitCongruencesModel" yX7_gives yX7_gives) ∈ TB := tw_of 63 (by decide +kernel) rfl
theorem tw64 : (Cond.selects "BitCongruencesModel" yX7_numbers yX7_numbers) ∈ TB := tw_of 64 (by decide +kernel) rfl
theorem tw65 : (Cond.selects "BitCongruencesModel" yX7_check yX7_check) ∈ TB := tw_of 65 (by decide +kernel) rfl
theorem tw66 : (Cond.selects "BitCongruencesModel" yX7_line yX7_line) ∈ TB := tw_of 66 (by decide +kernel) rfl
theorem tw68 : (Jvm.Cond.initialized "BitCongruences") ∈ TB := tw_of 68 (by decide +kernel) rfl
theorem tw69 : (Jvm.Cond.initialized "BitCongruences$Tables") ∈ TB := tw_of 69 (by decide +kernel) rfl
theorem tw70 : (Jvm.Cond.initialized "BitCongruences$Acts") ∈ TB := tw_of 70 (by decide +kernel) rfl
theorem tw71 : (Jvm.Cond.initialized "BitCongruences$Fact") ∈ TB := tw_of 71 (by decide +kernel) rfl
theorem tw72 : (Jvm.Cond.initialized "BitCongruences$Finder") ∈ TB := tw_of 72 (by decide +kernel) rfl
theorem tw73 : (Jvm.Cond.initialized "BitCongruences$Run") ∈ TB := tw_of 73 (by decide +kernel) rfl
theorem tw74 : (Jvm.Cond.initialized "BitCongruencesModel") ∈ TB := tw_of 74 (by decide +kernel) rfl
theorem tw75 : (Jvm.Cond.initialized "java/lang/Math") ∈ TB := tw_of 75 (by decide +kernel) rfl
theorem tw76 : (Jvm.Cond.initialized "java/lang/Long") ∈ TB := tw_of 76 (by decide +kernel) rfl
theorem tw77 : (Jvm.Cond.initialized "BitCongruences$Routine") ∈ TB := tw_of 77 (by decide +kernel) rfl
theorem tw80 : (Jvm.Cond.methodLink "BitCongruencesLaw" (9 : Nat) yX6_init) ∈ TB := tw_of 80 (by decide +kernel) rfl
theorem tw81 : (Jvm.Cond.instanceMethod yX6_init) ∈ TB := tw_of 81 (by decide +kernel) rfl
set_option maxRecDepth 100000 in
theorem tw82 : (Jvm.Cond.code yX6_init prog_1_method_1_code (2 : Nat) (Option.none : Option Jvm.ClassFile.FieldType)) ∈ TB := tw_of 82 rfl rfl
theorem tn92 : (Jvm.Cond.methodLinkNest "BitCongruences" (27 : Nat) yX5_init "BitCongruences") ∈ nestWs := tn_of 92 (by decide +kernel) rfl
theorem tw93 : (Jvm.Cond.instanceMethod yX5_init) ∈ TB := tw_of 93 (by decide +kernel) rfl
set_option maxRecDepth 100000 in
theorem tw94 : (Jvm.Cond.code yX5_init prog_7_method_1_code (1 : Nat) (Option.none : Option Jvm.ClassFile.FieldType)) ∈ TB := tw_of 94 rfl rfl
theorem tw113 : (Jvm.Cond.methodLink "BitCongruences" (34 : Nat) yX0_init) ∈ TB := tw_of 113 (by decide +kernel) rfl
theorem tw114 : (Jvm.Cond.instanceMethod yX0_init) ∈ TB := tw_of 114 (by decide +kernel) rfl
set_option maxRecDepth 100000 in
theorem tw115 : (Jvm.Cond.code yX0_init prog_2_method_1_code (1 : Nat) (Option.none : Option Jvm.ClassFile.FieldType)) ∈ TB := tw_of 115 rfl rfl
theorem tw119 : (Jvm.Cond.methodLink "BitCongruences$Acts" (11 : Nat) yX1_init) ∈ TB := tw_of 119 (by decide +kernel) rfl
theorem tw120 : (Jvm.Cond.instanceMethod yX1_init) ∈ TB := tw_of 120 (by decide +kernel) rfl
set_option maxRecDepth 100000 in
theorem tw121 : (Jvm.Cond.code yX1_init prog_3_method_1_code (1 : Nat) (Option.none : Option Jvm.ClassFile.FieldType)) ∈ TB := tw_of 121 rfl rfl
theorem tw166 : (Jvm.Cond.methodLink "BitCongruences$Acts" (21 : Nat) yX1_makeConstant) ∈ TB := tw_of 166 (by decide +kernel) rfl
theorem tw167 : (Jvm.Cond.instanceMethod yX1_makeConstant) ∈ TB := tw_of 167 (by decide +kernel) rfl
theorem tw168 : (Jvm.Cond.selects "BitCongruences$Fact" yX1_makeConstant yX1_makeConstant) ∈ TB := tw_of 168 (by decide +kernel) rfl
set_option maxRecDepth 100000 in
theorem tw169 : (Jvm.Cond.code yX1_makeConstant prog_3_method_4_code (3 : Nat) (Option.none : Option Jvm.ClassFile.FieldType)) ∈ TB := tw_of 169 rfl rfl
theorem tw171 : (Jvm.Cond.methodLink "BitCongruences$Fact" (25 : Nat) yX1_become) ∈ TB := tw_of 171 (by decide +kernel) rfl
theorem tw172 : (Jvm.Cond.instanceMethod yX1_become) ∈ TB := tw_of 172 (by decide +kernel) rfl
theorem tw173 : (Jvm.Cond.selects "BitCongruences$Fact" yX1_become yX1_become) ∈ TB := tw_of 173 (by decide +kernel) rfl
set_option maxRecDepth 100000 in
theorem tw174 : (Jvm.Cond.code yX1_become prog_3_method_5_code (13 : Nat) (Option.none : Option Jvm.ClassFile.FieldType)) ∈ TB := tw_of 174 rfl rfl
theorem tw184 : (Jvm.Cond.methodLink "BitCongruences" (41 : Nat) yX2_init) ∈ TB := tw_of 184 (by decide +kernel) rfl
theorem tw185 : (Jvm.Cond.instanceMethod yX2_init) ∈ TB := tw_of 185 (by decide +kernel) rfl
set_option maxRecDepth 100000 in
theorem tw186 : (Jvm.Cond.code yX2_init prog_4_method_1_code (2 : Nat) (Option.none : Option Jvm.ClassFile.FieldType)) ∈ TB := tw_of 186 rfl rfl
theorem tw189 : (Jvm.Cond.methodLink "BitCongruences$Finder" (11 : Nat) yX0_init) ∈ TB := tw_of 189 (by decide +kernel) rfl
theorem tw191 : (Jvm.Cond.methodLink "BitCongruences$Finder" (24 : Nat) yX1_init) ∈ TB := tw_of 191 (by decide +kernel) rfl
theorem tn214 : (Jvm.Cond.methodLinkNest "BitCongruences" (48 : Nat) yX4_init "BitCongruences") ∈ nestWs := tn_of 214 (by decide +kernel) rfl
theorem tw215 : (Jvm.Cond.instanceMethod yX4_init) ∈ TB := tw_of 215 (by decide +kernel) rfl
set_option maxRecDepth 100000 in
theorem tw216 : (Jvm.Cond.code yX4_init prog_6_method_1_code (1 : Nat) (Option.none : Option Jvm.ClassFile.FieldType)) ∈ TB := tw_of 216 rfl rfl
theorem tw235 : (Jvm.Cond.methodLink "BitCongruences" (57 : Nat) yX1_init) ∈ TB := tw_of 235 (by decide +kernel) rfl
theorem tw267 : (Jvm.Cond.methodLink "BitCongruencesLaw" (15 : Nat) yX6_fact) ∈ TB := tw_of 267 (by decide +kernel) rfl
theorem tw268 : (Jvm.Cond.instanceMethod yX6_fact) ∈ TB := tw_of 268 (by decide +kernel) rfl
theorem tw269 : (Jvm.Cond.selects "BitCongruences" yX6_fact yX6_fact) ∈ TB := tw_of 269 (by decide +kernel) rfl
set_option maxRecDepth 100000 in
theorem tw270 : (Jvm.Cond.code yX6_fact prog_1_method_2_code (7 : Nat) (Option.some Jvm.ClassFile.FieldType.int)) ∈ TB := tw_of 270 rfl rfl
theorem tw271 : (Jvm.Cond.methodLink "BitCongruences" (65 : Nat) yX6_factAt) ∈ TB := tw_of 271 (by decide +kernel) rfl
theorem tw273 : (Jvm.Cond.instanceMethod yX6_factAt) ∈ TB := tw_of 273 (by decide +kernel) rfl
set_option maxRecDepth 100000 in
theorem tw274 : (Jvm.Cond.code yX6_factAt prog_1_method_19_code (2 : Nat) (Option.some (Jvm.ClassFile.FieldType.object "BitCongruences$Fact"))) ∈ TB := tw_of 274 rfl rfl
theorem tw275 : (Jvm.Cond.methodLink "BitCongruences" (69 : Nat) yX1_makeAll) ∈ TB := tw_of 275 (by decide +kernel) rfl
theorem tw276 : (Jvm.Cond.instanceMethod yX1_makeAll) ∈ TB := tw_of 276 (by decide +kernel) rfl
theorem tw277 : (Jvm.Cond.selects "BitCongruences$Fact" yX1_makeAll yX1_makeAll) ∈ TB := tw_of 277 (by decide +kernel) rfl
set_option maxRecDepth 100000 in
theorem tw278 : (Jvm.Cond.code yX1_makeAll prog_3_method_2_code (1 : Nat) (Option.none : Option Jvm.ClassFile.FieldType)) ∈ TB := tw_of 278 rfl rfl
theorem tw279 : (Jvm.Cond.methodLink "BitCongruences" (79 : Nat) yX1_sharpen) ∈ TB := tw_of 279 (by decide +kernel) rfl
theorem tw280 : (Jvm.Cond.instanceMethod yX1_sharpen) ∈ TB := tw_of 280 (by decide +kernel) rfl
theorem tw281 : (Jvm.Cond.selects "BitCongruences$Fact" yX1_sharpen yX1_sharpen) ∈ TB := tw_of 281 (by decide +kernel) rfl
set_option maxRecDepth 100000 in
theorem tw282 : (Jvm.Cond.code yX1_sharpen prog_3_method_12_code (8 : Nat) (Option.none : Option Jvm.ClassFile.FieldType)) ∈ TB := tw_of 282 rfl rfl
theorem tw283 : (Jvm.Cond.methodLink "BitCongruences$Fact" (52 : Nat) yX1_fitBits) ∈ TB := tw_of 283 (by decide +kernel) rfl
theorem tw285 : (Jvm.Cond.instanceMethod yX1_fitBits) ∈ TB := tw_of 285 (by decide +kernel) rfl
set_option maxRecDepth 100000 in
theorem tw286 : (Jvm.Cond.code yX1_fitBits prog_3_method_13_code (5 : Nat) (Option.some Jvm.ClassFile.FieldType.boolean)) ∈ TB := tw_of 286 rfl rfl
theorem tn287 : (Jvm.Cond.methodLinkNest "BitCongruences$Fact" (68 : Nat) yX6_leastWithBits "BitCongruences") ∈ nestWs := tn_of 287 (by decide +kernel) rfl
theorem tw288 : (Jvm.Cond.static yX6_leastWithBits) ∈ TB := tw_of 288 (by decide +kernel) rfl
set_option maxRecDepth 100000 in
theorem tw289 : (Jvm.Cond.code yX6_leastWithBits prog_1_method_29_code (18 : Nat) (Option.some Jvm.ClassFile.FieldType.long)) ∈ TB := tw_of 289 rfl rfl
theorem tw292 : (Jvm.Cond.methodLink "BitCongruences$Fact" (55 : Nat) yX1_fitRest) ∈ TB := tw_of 292 (by decide +kernel) rfl
theorem tw294 : (Jvm.Cond.instanceMethod yX1_fitRest) ∈ TB := tw_of 294 (by decide +kernel) rfl
set_option maxRecDepth 100000 in
theorem tw295 : (Jvm.Cond.code yX1_fitRest prog_3_method_14_code (5 : Nat) (Option.some Jvm.ClassFile.FieldType.boolean)) ∈ TB := tw_of 295 rfl rfl
theorem tn296 : (Jvm.Cond.methodLinkNest "BitCongruences$Fact" (44 : Nat) yX6_restBy "BitCongruences") ∈ nestWs := tn_of 296 (by decide +kernel) rfl
theorem tw297 : (Jvm.Cond.static yX6_restBy) ∈ TB := tw_of 297 (by decide +kernel) rfl
set_option maxRecDepth 100000 in
theorem tw298 : (Jvm.Cond.code yX6_restBy prog_1_method_25_code (6 : Nat) (Option.some Jvm.ClassFile.FieldType.long)) ∈ TB := tw_of 298 rfl rfl
theorem tw299 : (Jvm.Cond.methodLink "BitCongruences$Fact" (58 : Nat) yX1_learnBits) ∈ TB := tw_of 299 (by decide +kernel) rfl
theorem tw301 : (Jvm.Cond.instanceMethod yX1_learnBits) ∈ TB := tw_of 301 (by decide +kernel) rfl
set_option maxRecDepth 100000 in
theorem tw302 : (Jvm.Cond.code yX1_learnBits prog_3_method_15_code (5 : Nat) (Option.some Jvm.ClassFile.FieldType.boolean)) ∈ TB := tw_of 302 rfl rfl
theorem tw303 : (Jvm.Cond.methodLink "BitCongruences$Fact" (61 : Nat) yX1_makeNone) ∈ TB := tw_of 303 (by decide +kernel) rfl
theorem tw304 : (Jvm.Cond.instanceMethod yX1_makeNone) ∈ TB := tw_of 304 (by decide +kernel) rfl
theorem tw305 : (Jvm.Cond.selects "BitCongruences$Fact" yX1_makeNone yX1_makeNone) ∈ TB := tw_of 305 (by decide +kernel) rfl
set_option maxRecDepth 100000 in
theorem tw306 : (Jvm.Cond.code yX1_makeNone prog_3_method_3_code (1 : Nat) (Option.none : Option Jvm.ClassFile.FieldType)) ∈ TB := tw_of 306 rfl rfl
theorem tw307 : (Jvm.Cond.methodLink "BitCongruences$Fact" (64 : Nat) yX1_makeConstant) ∈ TB := tw_of 307 (by decide +kernel) rfl
theorem tw308 : (Jvm.Cond.methodLink "BitCongruences" (82 : Nat) yX6_oneUnlessNone) ∈ TB := tw_of 308 (by decide +kernel) rfl
theorem tw309 : (Jvm.Cond.static yX6_oneUnlessNone) ∈ TB := tw_of 309 (by decide +kernel) rfl
set_option maxRecDepth 100000 in
theorem tw310 : (Jvm.Cond.code yX6_oneUnlessNone prog_1_method_22_code (1 : Nat) (Option.some Jvm.ClassFile.FieldType.int)) ∈ TB := tw_of 310 rfl rfl
theorem tw311 : (Jvm.Cond.methodLink "BitCongruencesLaw" (20 : Nat) yX6_bits) ∈ TB := tw_of 311 (by decide +kernel) rfl
theorem tw312 : (Jvm.Cond.instanceMethod yX6_bits) ∈ TB := tw_of 312 (by decide +kernel) rfl
theorem tw313 : (Jvm.Cond.selects "BitCongruences" yX6_bits yX6_bits) ∈ TB := tw_of 313 (by decide +kernel) rfl
set_option maxRecDepth 100000 in
theorem tw314 : (Jvm.Cond.code yX6_bits prog_1_method_3_code (7 : Nat) (Option.some Jvm.ClassFile.FieldType.int)) ∈ TB := tw_of 314 rfl rfl
theorem tw315 : (Jvm.Cond.methodLink "BitCongruences" (92 : Nat) yX6_meetBesides) ∈ TB := tw_of 315 (by decide +kernel) rfl
theorem tw317 : (Jvm.Cond.instanceMethod yX6_meetBesides) ∈ TB := tw_of 317 (by decide +kernel) rfl
set_option maxRecDepth 100000 in
theorem tw318 : (Jvm.Cond.code yX6_meetBesides prog_1_method_21_code (2 : Nat) (Option.some Jvm.ClassFile.FieldType.int)) ∈ TB := tw_of 318 rfl rfl
theorem tw319 : (Jvm.Cond.methodLink "BitCongruences" (109 : Nat) yX1_becomeMeet) ∈ TB := tw_of 319 (by decide +kernel) rfl
theorem tw320 : (Jvm.Cond.instanceMethod yX1_becomeMeet) ∈ TB := tw_of 320 (by decide +kernel) rfl
theorem tw321 : (Jvm.Cond.selects "BitCongruences$Fact" yX1_becomeMeet yX1_becomeMeet) ∈ TB := tw_of 321 (by decide +kernel) rfl
set_option maxRecDepth 100000 in
theorem tw322 : (Jvm.Cond.code yX1_becomeMeet prog_3_method_18_code (4 : Nat) (Option.none : Option Jvm.ClassFile.FieldType)) ∈ TB := tw_of 322 rfl rfl
theorem tw323 : (Jvm.Cond.methodLink "BitCongruences$Fact" (85 : Nat) yJ9_max_f86c9) ∈ TB := tw_of 323 (by decide +kernel) rfl
theorem tw324 : (Jvm.Cond.static yJ9_max_f86c9) ∈ TB := tw_of 324 (by decide +kernel) rfl
set_option maxRecDepth 100000 in
theorem tw325 : (Jvm.Cond.code yJ9_max_f86c9 prog_11_method_66_code (4 : Nat) (Option.some Jvm.ClassFile.FieldType.long)) ∈ TB := tw_of 325 rfl rfl
theorem tw326 : (Jvm.Cond.methodLink "BitCongruences$Fact" (80 : Nat) yJ9_min_f86c9) ∈ TB := tw_of 326 (by decide +kernel) rfl
theorem tw327 : (Jvm.Cond.static yJ9_min_f86c9) ∈ TB := tw_of 327 (by decide +kernel) rfl
set_option maxRecDepth 100000 in
theorem tw328 : (Jvm.Cond.code yJ9_min_f86c9 prog_11_method_70_code (4 : Nat) (Option.some Jvm.ClassFile.FieldType.long)) ∈ TB := tw_of 328 rfl rfl
theorem tw329 : (Jvm.Cond.methodLink "BitCongruences$Fact" (92 : Nat) yX1_sharpen) ∈ TB := tw_of 329 (by decide +kernel) rfl
theorem tw330 : (Jvm.Cond.methodLink "BitCongruencesLaw" (24 : Nat) yX6_rest) ∈ TB := tw_of 330 (by decide +kernel) rfl
theorem tw331 : (Jvm.Cond.instanceMethod yX6_rest) ∈ TB := tw_of 331 (by decide +kernel) rfl
theorem tw332 : (Jvm.Cond.selects "BitCongruences" yX6_rest yX6_rest) ∈ TB := tw_of 332 (by decide +kernel) rfl
set_option maxRecDepth 100000 in
theorem tw333 : (Jvm.Cond.code yX6_rest prog_1_method_4_code (6 : Nat) (Option.some Jvm.ClassFile.FieldType.int)) ∈ TB := tw_of 333 rfl rfl
theorem tw334 : (Jvm.Cond.methodLink "BitCongruences" (98 : Nat) yX6_restBy) ∈ TB := tw_of 334 (by decide +kernel) rfl
theorem tw335 : (Jvm.Cond.methodLink "BitCongruencesLaw" (29 : Nat) yX6_act) ∈ TB := tw_of 335 (by decide +kernel) rfl
theorem tw336 : (Jvm.Cond.instanceMethod yX6_act) ∈ TB := tw_of 336 (by decide +kernel) rfl
theorem tw337 : (Jvm.Cond.selects "BitCongruences" yX6_act yX6_act) ∈ TB := tw_of 337 (by decide +kernel) rfl
set_option maxRecDepth 100000 in
theorem tw338 : (Jvm.Cond.code yX6_act prog_1_method_5_code (8 : Nat) (Option.some Jvm.ClassFile.FieldType.int)) ∈ TB := tw_of 338 rfl rfl
theorem tw339 : (Jvm.Cond.methodLink "BitCongruences" (105 : Nat) yX1_becomeJoin) ∈ TB := tw_of 339 (by decide +kernel) rfl
theorem tw340 : (Jvm.Cond.instanceMethod yX1_becomeJoin) ∈ TB := tw_of 340 (by decide +kernel) rfl
theorem tw341 : (Jvm.Cond.selects "BitCongruences$Fact" yX1_becomeJoin yX1_becomeJoin) ∈ TB := tw_of 341 (by decide +kernel) rfl
set_option maxRecDepth 100000 in
theorem tw342 : (Jvm.Cond.code yX1_becomeJoin prog_3_method_16_code (7 : Nat) (Option.none : Option Jvm.ClassFile.FieldType)) ∈ TB := tw_of 342 rfl rfl
theorem tw343 : (Jvm.Cond.methodLink "BitCongruences$Fact" (72 : Nat) yX1_copy) ∈ TB := tw_of 343 (by decide +kernel) rfl
theorem tw344 : (Jvm.Cond.instanceMethod yX1_copy) ∈ TB := tw_of 344 (by decide +kernel) rfl
theorem tw345 : (Jvm.Cond.selects "BitCongruences$Fact" yX1_copy yX1_copy) ∈ TB := tw_of 345 (by decide +kernel) rfl
set_option maxRecDepth 100000 in
theorem tw346 : (Jvm.Cond.code yX1_copy prog_3_method_6_code (2 : Nat) (Option.none : Option Jvm.ClassFile.FieldType)) ∈ TB := tw_of 346 rfl rfl
theorem tw347 : (Jvm.Cond.methodLink "BitCongruences$Fact" (48 : Nat) yX1_isConstant) ∈ TB := tw_of 347 (by decide +kernel) rfl
theorem tw348 : (Jvm.Cond.instanceMethod yX1_isConstant) ∈ TB := tw_of 348 (by decide +kernel) rfl
theorem tw349 : (Jvm.Cond.selects "BitCongruences$Fact" yX1_isConstant yX1_isConstant) ∈ TB := tw_of 349 (by decide +kernel) rfl
set_option maxRecDepth 100000 in
theorem tw350 : (Jvm.Cond.code yX1_isConstant prog_3_method_7_code (1 : Nat) (Option.some Jvm.ClassFile.FieldType.boolean)) ∈ TB := tw_of 350 rfl rfl
theorem tw351 : (Jvm.Cond.methodLink "BitCongruences$Fact" (76 : Nat) yX1_joinModulus) ∈ TB := tw_of 351 (by decide +kernel) rfl
theorem tw352 : (Jvm.Cond.static yX1_joinModulus) ∈ TB := tw_of 352 (by decide +kernel) rfl
set_option maxRecDepth 100000 in
theorem tw353 : (Jvm.Cond.code yX1_joinModulus prog_3_method_17_code (6 : Nat) (Option.some Jvm.ClassFile.FieldType.long)) ∈ TB := tw_of 353 rfl rfl
theorem tw354 : (Jvm.Cond.methodLink "BitCongruences$Fact" (95 : Nat) yX1_countedModulus) ∈ TB := tw_of 354 (by decide +kernel) rfl
theorem tw355 : (Jvm.Cond.instanceMethod yX1_countedModulus) ∈ TB := tw_of 355 (by decide +kernel) rfl
theorem tw356 : (Jvm.Cond.selects "BitCongruences$Fact" yX1_countedModulus yX1_countedModulus) ∈ TB := tw_of 356 (by decide +kernel) rfl
set_option maxRecDepth 100000 in
theorem tw357 : (Jvm.Cond.code yX1_countedModulus prog_3_method_10_code (1 : Nat) (Option.some Jvm.ClassFile.FieldType.long)) ∈ TB := tw_of 357 rfl rfl
theorem tn358 : (Jvm.Cond.methodLinkNest "BitCongruences$Fact" (98 : Nat) yX6_commonDivisor "BitCongruences") ∈ nestWs := tn_of 358 (by decide +kernel) rfl
theorem tw359 : (Jvm.Cond.static yX6_commonDivisor) ∈ TB := tw_of 359 (by decide +kernel) rfl
set_option maxRecDepth 100000 in
theorem tw360 : (Jvm.Cond.code yX6_commonDivisor prog_1_method_26_code (11 : Nat) (Option.some Jvm.ClassFile.FieldType.long)) ∈ TB := tw_of 360 rfl rfl
theorem tn361 : (Jvm.Cond.methodLinkNest "BitCongruences$Fact" (101 : Nat) yX6_oddPart "BitCongruences") ∈ nestWs := tn_of 361 (by decide +kernel) rfl
theorem tw362 : (Jvm.Cond.static yX6_oddPart) ∈ TB := tw_of 362 (by decide +kernel) rfl
set_option maxRecDepth 100000 in
theorem tw363 : (Jvm.Cond.code yX6_oddPart prog_1_method_28_code (4 : Nat) (Option.some Jvm.ClassFile.FieldType.long)) ∈ TB := tw_of 363 rfl rfl
theorem tw364 : (Jvm.Cond.methodLink "BitCongruences" (219 : Nat) yX6_withoutTwos) ∈ TB := tw_of 364 (by decide +kernel) rfl
theorem tw365 : (Jvm.Cond.static yX6_withoutTwos) ∈ TB := tw_of 365 (by decide +kernel) rfl
set_option maxRecDepth 100000 in
theorem tw366 : (Jvm.Cond.code yX6_withoutTwos prog_1_method_27_code (5 : Nat) (Option.some Jvm.ClassFile.FieldType.long)) ∈ TB := tw_of 366 rfl rfl
theorem tw368 : (Jvm.Cond.methodLink "BitCongruences$Fact" (88 : Nat) yX1_countedRest) ∈ TB := tw_of 368 (by decide +kernel) rfl
theorem tw369 : (Jvm.Cond.instanceMethod yX1_countedRest) ∈ TB := tw_of 369 (by decide +kernel) rfl
theorem tw370 : (Jvm.Cond.selects "BitCongruences$Fact" yX1_countedRest yX1_countedRest) ∈ TB := tw_of 370 (by decide +kernel) rfl
set_option maxRecDepth 100000 in
theorem tw371 : (Jvm.Cond.code yX1_countedRest prog_3_method_11_code (1 : Nat) (Option.some Jvm.ClassFile.FieldType.long)) ∈ TB := tw_of 371 rfl rfl
theorem tw372 : (Jvm.Cond.methodLink "BitCongruences$Fact" (105 : Nat) yJ9_abs_067f4) ∈ TB := tw_of 372 (by decide +kernel) rfl
theorem tw373 : (Jvm.Cond.static yJ9_abs_067f4) ∈ TB := tw_of 373 (by decide +kernel) rfl
set_option maxRecDepth 100000 in
theorem tw374 : (Jvm.Cond.code yJ9_abs_067f4 prog_11_method_61_code (2 : Nat) (Option.some Jvm.ClassFile.FieldType.long)) ∈ TB := tw_of 374 rfl rfl
theorem tw375 : (Jvm.Cond.methodLink "BitCongruences" (112 : Nat) yX0_work) ∈ TB := tw_of 375 (by decide +kernel) rfl
theorem tw376 : (Jvm.Cond.instanceMethod yX0_work) ∈ TB := tw_of 376 (by decide +kernel) rfl
theorem tw377 : (Jvm.Cond.selects "BitCongruences$Acts" yX0_work yX0_work) ∈ TB := tw_of 377 (by decide +kernel) rfl
set_option maxRecDepth 100000 in
theorem tw378 : (Jvm.Cond.code yX0_work prog_2_method_5_code (5 : Nat) (Option.none : Option Jvm.ClassFile.FieldType)) ∈ TB := tw_of 378 rfl rfl
theorem tw379 : (Jvm.Cond.methodLink "BitCongruences$Acts" (58 : Nat) yX1_makeNone) ∈ TB := tw_of 379 (by decide +kernel) rfl
theorem tw380 : (Jvm.Cond.methodLink "BitCongruences$Acts" (47 : Nat) yX1_isConstant) ∈ TB := tw_of 380 (by decide +kernel) rfl
theorem tw381 : (Jvm.Cond.methodLink "BitCongruences$Acts" (61 : Nat) yX0_constant) ∈ TB := tw_of 381 (by decide +kernel) rfl
theorem tw382 : (Jvm.Cond.static yX0_constant) ∈ TB := tw_of 382 (by decide +kernel) rfl
set_option maxRecDepth 100000 in
theorem tw383 : (Jvm.Cond.code yX0_constant prog_2_method_6_code (6 : Nat) (Option.none : Option Jvm.ClassFile.FieldType)) ∈ TB := tw_of 383 rfl rfl
theorem tw384 : (Jvm.Cond.methodLink "BitCongruences$Acts" (107 : Nat) yX0_stops) ∈ TB := tw_of 384 (by decide +kernel) rfl
theorem tw385 : (Jvm.Cond.static yX0_stops) ∈ TB := tw_of 385 (by decide +kernel) rfl
set_option maxRecDepth 100000 in
theorem tw386 : (Jvm.Cond.code yX0_stops prog_2_method_2_code (3 : Nat) (Option.some Jvm.ClassFile.FieldType.boolean)) ∈ TB := tw_of 386 rfl rfl
theorem tw387 : (Jvm.Cond.methodLink "BitCongruences$Acts" (111 : Nat) yX0_number) ∈ TB := tw_of 387 (by decide +kernel) rfl
theorem tw388 : (Jvm.Cond.static yX0_number) ∈ TB := tw_of 388 (by decide +kernel) rfl
set_option maxRecDepth 100000 in
theorem tw389 : (Jvm.Cond.code yX0_number prog_2_method_3_code (5 : Nat) (Option.some Jvm.ClassFile.FieldType.long)) ∈ TB := tw_of 389 rfl rfl
theorem tw396 : (Jvm.Cond.methodLink "BitCongruences$Acts" (65 : Nat) yX1_makeAll) ∈ TB := tw_of 396 (by decide +kernel) rfl
theorem tw397 : (Jvm.Cond.methodLink "BitCongruences$Acts" (68 : Nat) yX0_givesUp) ∈ TB := tw_of 397 (by decide +kernel) rfl
theorem tw398 : (Jvm.Cond.static yX0_givesUp) ∈ TB := tw_of 398 (by decide +kernel) rfl
set_option maxRecDepth 100000 in
theorem tw399 : (Jvm.Cond.code yX0_givesUp prog_2_method_4_code (3 : Nat) (Option.some Jvm.ClassFile.FieldType.boolean)) ∈ TB := tw_of 399 rfl rfl
theorem tw400 : (Jvm.Cond.methodLink "BitCongruences$Acts" (41 : Nat) yJ13_bitCount_95d88) ∈ TB := tw_of 400 (by decide +kernel) rfl
theorem tw401 : (Jvm.Cond.static yJ13_bitCount_95d88) ∈ TB := tw_of 401 (by decide +kernel) rfl
set_option maxRecDepth 100000 in
theorem tw402 : (Jvm.Cond.code yJ13_bitCount_95d88 prog_10_method_50_code (2 : Nat) (Option.some Jvm.ClassFile.FieldType.int)) ∈ TB := tw_of 402 rfl rfl
theorem tw406 : (Jvm.Cond.methodLink "BitCongruences$Acts" (72 : Nat) yX0_plus) ∈ TB := tw_of 406 (by decide +kernel) rfl
theorem tw407 : (Jvm.Cond.static yX0_plus) ∈ TB := tw_of 407 (by decide +kernel) rfl
set_option maxRecDepth 100000 in
theorem tw408 : (Jvm.Cond.code yX0_plus prog_2_method_7_code (7 : Nat) (Option.none : Option Jvm.ClassFile.FieldType)) ∈ TB := tw_of 408 rfl rfl
theorem tw409 : (Jvm.Cond.methodLink "BitCongruences$Acts" (118 : Nat) yX1_becomeBitSum) ∈ TB := tw_of 409 (by decide +kernel) rfl
theorem tw410 : (Jvm.Cond.instanceMethod yX1_becomeBitSum) ∈ TB := tw_of 410 (by decide +kernel) rfl
theorem tw411 : (Jvm.Cond.selects "BitCongruences$Fact" yX1_becomeBitSum yX1_becomeBitSum) ∈ TB := tw_of 411 (by decide +kernel) rfl
set_option maxRecDepth 100000 in
theorem tw412 : (Jvm.Cond.code yX1_becomeBitSum prog_3_method_19_code (21 : Nat) (Option.none : Option Jvm.ClassFile.FieldType)) ∈ TB := tw_of 412 rfl rfl
theorem tn413 : (Jvm.Cond.methodLinkNest "BitCongruences$Acts" (122 : Nat) yX6_sumWraps "BitCongruences") ∈ nestWs := tn_of 413 (by decide +kernel) rfl
theorem tw414 : (Jvm.Cond.static yX6_sumWraps) ∈ TB := tw_of 414 (by decide +kernel) rfl
set_option maxRecDepth 100000 in
theorem tw415 : (Jvm.Cond.code yX6_sumWraps prog_1_method_30_code (4 : Nat) (Option.some Jvm.ClassFile.FieldType.boolean)) ∈ TB := tw_of 415 rfl rfl
theorem tw416 : (Jvm.Cond.methodLink "BitCongruences$Acts" (129 : Nat) yX1_countedModulus) ∈ TB := tw_of 416 (by decide +kernel) rfl
theorem tn417 : (Jvm.Cond.methodLinkNest "BitCongruences$Acts" (133 : Nat) yX6_commonDivisor "BitCongruences") ∈ nestWs := tn_of 417 (by decide +kernel) rfl
theorem tn418 : (Jvm.Cond.methodLinkNest "BitCongruences$Acts" (137 : Nat) yX6_oddPart "BitCongruences") ∈ nestWs := tn_of 418 (by decide +kernel) rfl
theorem tw419 : (Jvm.Cond.methodLink "BitCongruences$Acts" (141 : Nat) yX1_countedRest) ∈ TB := tw_of 419 (by decide +kernel) rfl
theorem tn420 : (Jvm.Cond.methodLinkNest "BitCongruences$Acts" (144 : Nat) yX6_restBy "BitCongruences") ∈ nestWs := tn_of 420 (by decide +kernel) rfl
theorem tw421 : (Jvm.Cond.methodLink "BitCongruences$Acts" (147 : Nat) yX1_limit) ∈ TB := tw_of 421 (by decide +kernel) rfl
theorem tw422 : (Jvm.Cond.instanceMethod yX1_limit) ∈ TB := tw_of 422 (by decide +kernel) rfl
theorem tw423 : (Jvm.Cond.selects "BitCongruences$Fact" yX1_limit yX1_limit) ∈ TB := tw_of 423 (by decide +kernel) rfl
set_option maxRecDepth 100000 in
theorem tw424 : (Jvm.Cond.code yX1_limit prog_3_method_20_code (9 : Nat) (Option.none : Option Jvm.ClassFile.FieldType)) ∈ TB := tw_of 424 rfl rfl
theorem tw425 : (Jvm.Cond.methodLink "BitCongruences$Acts" (76 : Nat) yX0_minus) ∈ TB := tw_of 425 (by decide +kernel) rfl
theorem tw426 : (Jvm.Cond.static yX0_minus) ∈ TB := tw_of 426 (by decide +kernel) rfl
set_option maxRecDepth 100000 in
theorem tw427 : (Jvm.Cond.code yX0_minus prog_2_method_8_code (7 : Nat) (Option.none : Option Jvm.ClassFile.FieldType)) ∈ TB := tw_of 427 rfl rfl
theorem tn428 : (Jvm.Cond.methodLinkNest "BitCongruences$Acts" (151 : Nat) yX6_differenceWraps "BitCongruences") ∈ nestWs := tn_of 428 (by decide +kernel) rfl
theorem tw429 : (Jvm.Cond.static yX6_differenceWraps) ∈ TB := tw_of 429 (by decide +kernel) rfl
set_option maxRecDepth 100000 in
theorem tw430 : (Jvm.Cond.code yX6_differenceWraps prog_1_method_31_code (4 : Nat) (Option.some Jvm.ClassFile.FieldType.boolean)) ∈ TB := tw_of 430 rfl rfl
theorem tw431 : (Jvm.Cond.methodLink "BitCongruences$Acts" (79 : Nat) yX0_times) ∈ TB := tw_of 431 (by decide +kernel) rfl
theorem tw432 : (Jvm.Cond.static yX0_times) ∈ TB := tw_of 432 (by decide +kernel) rfl
set_option maxRecDepth 100000 in
theorem tw433 : (Jvm.Cond.code yX0_times prog_2_method_9_code (15 : Nat) (Option.none : Option Jvm.ClassFile.FieldType)) ∈ TB := tw_of 433 rfl rfl
theorem tw434 : (Jvm.Cond.methodLink "BitCongruences$Acts" (154 : Nat) yX0_productBits) ∈ TB := tw_of 434 (by decide +kernel) rfl
theorem tw435 : (Jvm.Cond.static yX0_productBits) ∈ TB := tw_of 435 (by decide +kernel) rfl
set_option maxRecDepth 100000 in
theorem tw436 : (Jvm.Cond.code yX0_productBits prog_2_method_10_code (10 : Nat) (Option.none : Option Jvm.ClassFile.FieldType)) ∈ TB := tw_of 436 rfl rfl
theorem tn437 : (Jvm.Cond.methodLinkNest "BitCongruences$Acts" (157 : Nat) yX6_productWraps "BitCongruences") ∈ nestWs := tn_of 437 (by decide +kernel) rfl
theorem tw438 : (Jvm.Cond.static yX6_productWraps) ∈ TB := tw_of 438 (by decide +kernel) rfl
set_option maxRecDepth 100000 in
theorem tw439 : (Jvm.Cond.code yX6_productWraps prog_1_method_32_code (4 : Nat) (Option.some Jvm.ClassFile.FieldType.boolean)) ∈ TB := tw_of 439 rfl rfl
theorem tw440 : (Jvm.Cond.methodLink "BitCongruences$Acts" (160 : Nat) yX0_productModulus) ∈ TB := tw_of 440 (by decide +kernel) rfl
theorem tw441 : (Jvm.Cond.static yX0_productModulus) ∈ TB := tw_of 441 (by decide +kernel) rfl
set_option maxRecDepth 100000 in
theorem tw442 : (Jvm.Cond.code yX0_productModulus prog_2_method_11_code (4 : Nat) (Option.some Jvm.ClassFile.FieldType.long)) ∈ TB := tw_of 442 rfl rfl
theorem tw443 : (Jvm.Cond.methodLink "BitCongruences$Acts" (175 : Nat) yX0_multipliedModulus) ∈ TB := tw_of 443 (by decide +kernel) rfl
theorem tw444 : (Jvm.Cond.static yX0_multipliedModulus) ∈ TB := tw_of 444 (by decide +kernel) rfl
set_option maxRecDepth 100000 in
theorem tw445 : (Jvm.Cond.code yX0_multipliedModulus prog_2_method_12_code (6 : Nat) (Option.some Jvm.ClassFile.FieldType.long)) ∈ TB := tw_of 445 rfl rfl
theorem tw446 : (Jvm.Cond.methodLink "BitCongruences$Acts" (181 : Nat) yJ9_abs_067f4) ∈ TB := tw_of 446 (by decide +kernel) rfl
theorem tn447 : (Jvm.Cond.methodLinkNest "BitCongruences$Acts" (184 : Nat) yX6_withoutTwos "BitCongruences") ∈ nestWs := tn_of 447 (by decide +kernel) rfl
theorem tw449 : (Jvm.Cond.methodLink "BitCongruences$Acts" (164 : Nat) yJ9_min_f86c9) ∈ TB := tw_of 449 (by decide +kernel) rfl
theorem tw450 : (Jvm.Cond.methodLink "BitCongruences$Acts" (169 : Nat) yJ9_max_f86c9) ∈ TB := tw_of 450 (by decide +kernel) rfl
theorem tw451 : (Jvm.Cond.methodLink "BitCongruences$Acts" (82 : Nat) yX0_bitwise) ∈ TB := tw_of 451 (by decide +kernel) rfl
theorem tw452 : (Jvm.Cond.static yX0_bitwise) ∈ TB := tw_of 452 (by decide +kernel) rfl
set_option maxRecDepth 100000 in
theorem tw453 : (Jvm.Cond.code yX0_bitwise prog_2_method_13_code (12 : Nat) (Option.none : Option Jvm.ClassFile.FieldType)) ∈ TB := tw_of 453 rfl rfl
theorem tw454 : (Jvm.Cond.methodLink "BitCongruences$Acts" (86 : Nat) yX0_shifted) ∈ TB := tw_of 454 (by decide +kernel) rfl
theorem tw456 : (Jvm.Cond.instanceMethod yX0_shifted) ∈ TB := tw_of 456 (by decide +kernel) rfl
set_option maxRecDepth 100000 in
theorem tw457 : (Jvm.Cond.code yX0_shifted prog_2_method_14_code (10 : Nat) (Option.none : Option Jvm.ClassFile.FieldType)) ∈ TB := tw_of 457 rfl rfl
theorem tw458 : (Jvm.Cond.methodLink "BitCongruences$Acts" (189 : Nat) yX0_move) ∈ TB := tw_of 458 (by decide +kernel) rfl
theorem tw460 : (Jvm.Cond.instanceMethod yX0_move) ∈ TB := tw_of 460 (by decide +kernel) rfl
set_option maxRecDepth 100000 in
theorem tw461 : (Jvm.Cond.code yX0_move prog_2_method_15_code (4 : Nat) (Option.none : Option Jvm.ClassFile.FieldType)) ∈ TB := tw_of 461 rfl rfl
theorem tw462 : (Jvm.Cond.methodLink "BitCongruences$Acts" (196 : Nat) yX1_copy) ∈ TB := tw_of 462 (by decide +kernel) rfl
theorem tw463 : (Jvm.Cond.methodLink "BitCongruences$Acts" (200 : Nat) yX0_moveLeft) ∈ TB := tw_of 463 (by decide +kernel) rfl
theorem tw465 : (Jvm.Cond.instanceMethod yX0_moveLeft) ∈ TB := tw_of 465 (by decide +kernel) rfl
set_option maxRecDepth 100000 in
theorem tw466 : (Jvm.Cond.code yX0_moveLeft prog_2_method_16_code (12 : Nat) (Option.none : Option Jvm.ClassFile.FieldType)) ∈ TB := tw_of 466 rfl rfl
theorem tw467 : (Jvm.Cond.methodLink "BitCongruences$Acts" (204 : Nat) yX1_become) ∈ TB := tw_of 467 (by decide +kernel) rfl
theorem tw468 : (Jvm.Cond.methodLink "BitCongruences$Acts" (208 : Nat) yX0_moveRightZeros) ∈ TB := tw_of 468 (by decide +kernel) rfl
theorem tw470 : (Jvm.Cond.instanceMethod yX0_moveRightZeros) ∈ TB := tw_of 470 (by decide +kernel) rfl
set_option maxRecDepth 100000 in
theorem tw471 : (Jvm.Cond.code yX0_moveRightZeros prog_2_method_17_code (4 : Nat) (Option.none : Option Jvm.ClassFile.FieldType)) ∈ TB := tw_of 471 rfl rfl
theorem tw472 : (Jvm.Cond.methodLink "BitCongruences$Acts" (104 : Nat) yX1_sharpen) ∈ TB := tw_of 472 (by decide +kernel) rfl
theorem tw473 : (Jvm.Cond.methodLink "BitCongruences$Acts" (193 : Nat) yX1_becomeJoin) ∈ TB := tw_of 473 (by decide +kernel) rfl
theorem tw474 : (Jvm.Cond.methodLink "BitCongruences$Acts" (89 : Nat) yX0_quotient) ∈ TB := tw_of 474 (by decide +kernel) rfl
theorem tw475 : (Jvm.Cond.static yX0_quotient) ∈ TB := tw_of 475 (by decide +kernel) rfl
set_option maxRecDepth 100000 in
theorem tw476 : (Jvm.Cond.code yX0_quotient prog_2_method_18_code (4 : Nat) (Option.none : Option Jvm.ClassFile.FieldType)) ∈ TB := tw_of 476 rfl rfl
theorem tw477 : (Jvm.Cond.methodLink "BitCongruences$Acts" (93 : Nat) yX0_remainder) ∈ TB := tw_of 477 (by decide +kernel) rfl
theorem tw478 : (Jvm.Cond.static yX0_remainder) ∈ TB := tw_of 478 (by decide +kernel) rfl
set_option maxRecDepth 100000 in
theorem tw479 : (Jvm.Cond.code yX0_remainder prog_2_method_19_code (8 : Nat) (Option.none : Option Jvm.ClassFile.FieldType)) ∈ TB := tw_of 479 rfl rfl
theorem tw480 : (Jvm.Cond.methodLink "BitCongruences$Acts" (96 : Nat) yX0_turned) ∈ TB := tw_of 480 (by decide +kernel) rfl
theorem tw481 : (Jvm.Cond.static yX0_turned) ∈ TB := tw_of 481 (by decide +kernel) rfl
set_option maxRecDepth 100000 in
theorem tw482 : (Jvm.Cond.code yX0_turned prog_2_method_20_code (2 : Nat) (Option.none : Option Jvm.ClassFile.FieldType)) ∈ TB := tw_of 482 rfl rfl
theorem tw483 : (Jvm.Cond.methodLink "BitCongruences$Acts" (100 : Nat) yX0_narrowed) ∈ TB := tw_of 483 (by decide +kernel) rfl
theorem tw484 : (Jvm.Cond.static yX0_narrowed) ∈ TB := tw_of 484 (by decide +kernel) rfl
set_option maxRecDepth 100000 in
theorem tw485 : (Jvm.Cond.code yX0_narrowed prog_2_method_21_code (10 : Nat) (Option.none : Option Jvm.ClassFile.FieldType)) ∈ TB := tw_of 485 rfl rfl
theorem tw486 : (Jvm.Cond.methodLink "BitCongruences" (116 : Nat) yX1_copy) ∈ TB := tw_of 486 (by decide +kernel) rfl
theorem tw487 : (Jvm.Cond.methodLink "BitCongruencesLaw" (34 : Nat) yX6_told) ∈ TB := tw_of 487 (by decide +kernel) rfl
theorem tw488 : (Jvm.Cond.instanceMethod yX6_told) ∈ TB := tw_of 488 (by decide +kernel) rfl
theorem tw489 : (Jvm.Cond.selects "BitCongruences" yX6_told yX6_told) ∈ TB := tw_of 489 (by decide +kernel) rfl
set_option maxRecDepth 100000 in
theorem tw490 : (Jvm.Cond.code yX6_told prog_1_method_6_code (4 : Nat) (Option.some Jvm.ClassFile.FieldType.long)) ∈ TB := tw_of 490 rfl rfl
theorem tw491 : (Jvm.Cond.methodLink "BitCongruencesLaw" (39 : Nat) yX6_isOf) ∈ TB := tw_of 491 (by decide +kernel) rfl
theorem tw492 : (Jvm.Cond.instanceMethod yX6_isOf) ∈ TB := tw_of 492 (by decide +kernel) rfl
theorem tw493 : (Jvm.Cond.selects "BitCongruences" yX6_isOf yX6_isOf) ∈ TB := tw_of 493 (by decide +kernel) rfl
set_option maxRecDepth 100000 in
theorem tw494 : (Jvm.Cond.code yX6_isOf prog_1_method_7_code (5 : Nat) (Option.some Jvm.ClassFile.FieldType.boolean)) ∈ TB := tw_of 494 rfl rfl
theorem tw495 : (Jvm.Cond.methodLink "BitCongruences" (124 : Nat) yX1_holds) ∈ TB := tw_of 495 (by decide +kernel) rfl
theorem tw496 : (Jvm.Cond.instanceMethod yX1_holds) ∈ TB := tw_of 496 (by decide +kernel) rfl
theorem tw497 : (Jvm.Cond.selects "BitCongruences$Fact" yX1_holds yX1_holds) ∈ TB := tw_of 497 (by decide +kernel) rfl
set_option maxRecDepth 100000 in
theorem tw498 : (Jvm.Cond.code yX1_holds prog_3_method_9_code (3 : Nat) (Option.some Jvm.ClassFile.FieldType.boolean)) ∈ TB := tw_of 498 rfl rfl
theorem tw499 : (Jvm.Cond.methodLink "BitCongruencesLaw" (44 : Nat) yX6_method) ∈ TB := tw_of 499 (by decide +kernel) rfl
theorem tw500 : (Jvm.Cond.instanceMethod yX6_method) ∈ TB := tw_of 500 (by decide +kernel) rfl
theorem tw501 : (Jvm.Cond.selects "BitCongruences" yX6_method yX6_method) ∈ TB := tw_of 501 (by decide +kernel) rfl
set_option maxRecDepth 100000 in
theorem tw502 : (Jvm.Cond.code yX6_method prog_1_method_8_code (1 : Nat) (Option.some Jvm.ClassFile.FieldType.int)) ∈ TB := tw_of 502 rfl rfl
theorem tw504 : (Jvm.Cond.methodLink "BitCongruences" (128 : Nat) yX3_init) ∈ TB := tw_of 504 (by decide +kernel) rfl
theorem tw505 : (Jvm.Cond.instanceMethod yX3_init) ∈ TB := tw_of 505 (by decide +kernel) rfl
set_option maxRecDepth 100000 in
theorem tw506 : (Jvm.Cond.code yX3_init prog_5_method_1_code (2 : Nat) (Option.none : Option Jvm.ClassFile.FieldType)) ∈ TB := tw_of 506 rfl rfl
theorem tw509 : (Jvm.Cond.methodLink "BitCongruences$Routine" (45 : Nat) yX1_init) ∈ TB := tw_of 509 (by decide +kernel) rfl
theorem tw559 : (Jvm.Cond.methodLink "BitCongruencesLaw" (49 : Nat) yX6_op) ∈ TB := tw_of 559 (by decide +kernel) rfl
theorem tw560 : (Jvm.Cond.instanceMethod yX6_op) ∈ TB := tw_of 560 (by decide +kernel) rfl
theorem tw561 : (Jvm.Cond.selects "BitCongruences" yX6_op yX6_op) ∈ TB := tw_of 561 (by decide +kernel) rfl
set_option maxRecDepth 100000 in
theorem tw562 : (Jvm.Cond.code yX6_op prog_1_method_9_code (6 : Nat) (Option.some Jvm.ClassFile.FieldType.int)) ∈ TB := tw_of 562 rfl rfl
theorem tw563 : (Jvm.Cond.methodLink "BitCongruences" (129 : Nat) yX6_routineAt) ∈ TB := tw_of 563 (by decide +kernel) rfl
theorem tw565 : (Jvm.Cond.instanceMethod yX6_routineAt) ∈ TB := tw_of 565 (by decide +kernel) rfl
set_option maxRecDepth 100000 in
theorem tw566 : (Jvm.Cond.code yX6_routineAt prog_1_method_20_code (2 : Nat) (Option.some (Jvm.ClassFile.FieldType.object "BitCongruences$Routine"))) ∈ TB := tw_of 566 rfl rfl
theorem tw567 : (Jvm.Cond.methodLink "BitCongruences" (133 : Nat) yX6_isLine) ∈ TB := tw_of 567 (by decide +kernel) rfl
theorem tw568 : (Jvm.Cond.static yX6_isLine) ∈ TB := tw_of 568 (by decide +kernel) rfl
set_option maxRecDepth 100000 in
theorem tw569 : (Jvm.Cond.code yX6_isLine prog_1_method_24_code (3 : Nat) (Option.some Jvm.ClassFile.FieldType.boolean)) ∈ TB := tw_of 569 rfl rfl
theorem tw570 : (Jvm.Cond.methodLink "BitCongruences" (155 : Nat) yX6_isPlace) ∈ TB := tw_of 570 (by decide +kernel) rfl
theorem tw571 : (Jvm.Cond.static yX6_isPlace) ∈ TB := tw_of 571 (by decide +kernel) rfl
set_option maxRecDepth 100000 in
theorem tw572 : (Jvm.Cond.code yX6_isPlace prog_1_method_23_code (1 : Nat) (Option.some Jvm.ClassFile.FieldType.boolean)) ∈ TB := tw_of 572 rfl rfl
theorem tw573 : (Jvm.Cond.methodLink "BitCongruences" (140 : Nat) yX3_addLine) ∈ TB := tw_of 573 (by decide +kernel) rfl
theorem tw574 : (Jvm.Cond.instanceMethod yX3_addLine) ∈ TB := tw_of 574 (by decide +kernel) rfl
theorem tw575 : (Jvm.Cond.selects "BitCongruences$Routine" yX3_addLine yX3_addLine) ∈ TB := tw_of 575 (by decide +kernel) rfl
set_option maxRecDepth 100000 in
theorem tw576 : (Jvm.Cond.code yX3_addLine prog_5_method_2_code (4 : Nat) (Option.none : Option Jvm.ClassFile.FieldType)) ∈ TB := tw_of 576 rfl rfl
theorem tw577 : (Jvm.Cond.methodLink "BitCongruencesLaw" (53 : Nat) yX6_table) ∈ TB := tw_of 577 (by decide +kernel) rfl
theorem tw578 : (Jvm.Cond.instanceMethod yX6_table) ∈ TB := tw_of 578 (by decide +kernel) rfl
theorem tw579 : (Jvm.Cond.selects "BitCongruences" yX6_table yX6_table) ∈ TB := tw_of 579 (by decide +kernel) rfl
set_option maxRecDepth 100000 in
theorem tw580 : (Jvm.Cond.code yX6_table prog_1_method_10_code (5 : Nat) (Option.some Jvm.ClassFile.FieldType.int)) ∈ TB := tw_of 580 rfl rfl
theorem tw581 : (Jvm.Cond.methodLink "BitCongruences" (148 : Nat) yX5_addNumber) ∈ TB := tw_of 581 (by decide +kernel) rfl
theorem tw582 : (Jvm.Cond.instanceMethod yX5_addNumber) ∈ TB := tw_of 582 (by decide +kernel) rfl
theorem tw583 : (Jvm.Cond.selects "BitCongruences$Tables" yX5_addNumber yX5_addNumber) ∈ TB := tw_of 583 (by decide +kernel) rfl
set_option maxRecDepth 100000 in
theorem tw584 : (Jvm.Cond.code yX5_addNumber prog_7_method_2_code (4 : Nat) (Option.none : Option Jvm.ClassFile.FieldType)) ∈ TB := tw_of 584 rfl rfl
theorem tw585 : (Jvm.Cond.methodLink "BitCongruencesLaw" (58 : Nat) yX6_given) ∈ TB := tw_of 585 (by decide +kernel) rfl
theorem tw586 : (Jvm.Cond.instanceMethod yX6_given) ∈ TB := tw_of 586 (by decide +kernel) rfl
theorem tw587 : (Jvm.Cond.selects "BitCongruences" yX6_given yX6_given) ∈ TB := tw_of 587 (by decide +kernel) rfl
set_option maxRecDepth 100000 in
theorem tw588 : (Jvm.Cond.code yX6_given prog_1_method_11_code (6 : Nat) (Option.some Jvm.ClassFile.FieldType.int)) ∈ TB := tw_of 588 rfl rfl
theorem tw589 : (Jvm.Cond.methodLink "BitCongruencesLaw" (63 : Nat) yX6_find) ∈ TB := tw_of 589 (by decide +kernel) rfl
theorem tw590 : (Jvm.Cond.instanceMethod yX6_find) ∈ TB := tw_of 590 (by decide +kernel) rfl
theorem tw591 : (Jvm.Cond.selects "BitCongruences" yX6_find yX6_find) ∈ TB := tw_of 591 (by decide +kernel) rfl
set_option maxRecDepth 100000 in
theorem tw592 : (Jvm.Cond.code yX6_find prog_1_method_12_code (5 : Nat) (Option.some Jvm.ClassFile.FieldType.int)) ∈ TB := tw_of 592 rfl rfl
theorem tw593 : (Jvm.Cond.methodLink "BitCongruences" (162 : Nat) yX2_begin) ∈ TB := tw_of 593 (by decide +kernel) rfl
theorem tw594 : (Jvm.Cond.instanceMethod yX2_begin) ∈ TB := tw_of 594 (by decide +kernel) rfl
theorem tw595 : (Jvm.Cond.selects "BitCongruences$Finder" yX2_begin yX2_begin) ∈ TB := tw_of 595 (by decide +kernel) rfl
set_option maxRecDepth 100000 in
theorem tw596 : (Jvm.Cond.code yX2_begin prog_4_method_2_code (3 : Nat) (Option.none : Option Jvm.ClassFile.FieldType)) ∈ TB := tw_of 596 rfl rfl
theorem tw597 : (Jvm.Cond.methodLink "BitCongruences$Finder" (52 : Nat) yX1_copy) ∈ TB := tw_of 597 (by decide +kernel) rfl
theorem tw598 : (Jvm.Cond.methodLink "BitCongruences$Finder" (56 : Nat) yX2_send) ∈ TB := tw_of 598 (by decide +kernel) rfl
theorem tw600 : (Jvm.Cond.instanceMethod yX2_send) ∈ TB := tw_of 600 (by decide +kernel) rfl
set_option maxRecDepth 100000 in
theorem tw601 : (Jvm.Cond.code yX2_send prog_4_method_16_code (7 : Nat) (Option.none : Option Jvm.ClassFile.FieldType)) ∈ TB := tw_of 601 rfl rfl
theorem tw602 : (Jvm.Cond.methodLink "BitCongruences$Finder" (185 : Nat) yX2_someComeToNone) ∈ TB := tw_of 602 (by decide +kernel) rfl
theorem tw604 : (Jvm.Cond.instanceMethod yX2_someComeToNone) ∈ TB := tw_of 604 (by decide +kernel) rfl
set_option maxRecDepth 100000 in
theorem tw605 : (Jvm.Cond.code yX2_someComeToNone prog_4_method_17_code (2 : Nat) (Option.some Jvm.ClassFile.FieldType.boolean)) ∈ TB := tw_of 605 rfl rfl
theorem tw606 : (Jvm.Cond.methodLink "BitCongruences$Finder" (188 : Nat) yX2_merge) ∈ TB := tw_of 606 (by decide +kernel) rfl
theorem tw608 : (Jvm.Cond.instanceMethod yX2_merge) ∈ TB := tw_of 608 (by decide +kernel) rfl
set_option maxRecDepth 100000 in
theorem tw609 : (Jvm.Cond.code yX2_merge prog_4_method_18_code (6 : Nat) (Option.some Jvm.ClassFile.FieldType.boolean)) ∈ TB := tw_of 609 rfl rfl
theorem tw610 : (Jvm.Cond.methodLink "BitCongruences$Finder" (125 : Nat) yX1_becomeJoin) ∈ TB := tw_of 610 (by decide +kernel) rfl
theorem tw613 : (Jvm.Cond.methodLink "BitCongruences$Finder" (166 : Nat) yX1_sharpen) ∈ TB := tw_of 613 (by decide +kernel) rfl
theorem tw614 : (Jvm.Cond.methodLink "BitCongruences$Finder" (195 : Nat) yX1_isLike) ∈ TB := tw_of 614 (by decide +kernel) rfl
theorem tw615 : (Jvm.Cond.instanceMethod yX1_isLike) ∈ TB := tw_of 615 (by decide +kernel) rfl
theorem tw616 : (Jvm.Cond.selects "BitCongruences$Fact" yX1_isLike yX1_isLike) ∈ TB := tw_of 616 (by decide +kernel) rfl
set_option maxRecDepth 100000 in
theorem tw617 : (Jvm.Cond.code yX1_isLike prog_3_method_8_code (2 : Nat) (Option.some Jvm.ClassFile.FieldType.boolean)) ∈ TB := tw_of 617 rfl rfl
theorem tw618 : (Jvm.Cond.methodLink "BitCongruences" (166 : Nat) yX2_someWait) ∈ TB := tw_of 618 (by decide +kernel) rfl
theorem tw619 : (Jvm.Cond.instanceMethod yX2_someWait) ∈ TB := tw_of 619 (by decide +kernel) rfl
theorem tw620 : (Jvm.Cond.selects "BitCongruences$Finder" yX2_someWait yX2_someWait) ∈ TB := tw_of 620 (by decide +kernel) rfl
set_option maxRecDepth 100000 in
theorem tw621 : (Jvm.Cond.code yX2_someWait prog_4_method_3_code (2 : Nat) (Option.some Jvm.ClassFile.FieldType.boolean)) ∈ TB := tw_of 621 rfl rfl
theorem tw622 : (Jvm.Cond.methodLink "BitCongruences" (170 : Nat) yX2_workLine) ∈ TB := tw_of 622 (by decide +kernel) rfl
theorem tw623 : (Jvm.Cond.instanceMethod yX2_workLine) ∈ TB := tw_of 623 (by decide +kernel) rfl
theorem tw624 : (Jvm.Cond.selects "BitCongruences$Finder" yX2_workLine yX2_workLine) ∈ TB := tw_of 624 (by decide +kernel) rfl
set_option maxRecDepth 100000 in
theorem tw625 : (Jvm.Cond.code yX2_workLine prog_4_method_6_code (10 : Nat) (Option.none : Option Jvm.ClassFile.FieldType)) ∈ TB := tw_of 625 rfl rfl
theorem tw626 : (Jvm.Cond.methodLink "BitCongruences$Finder" (81 : Nat) yX2_fetch) ∈ TB := tw_of 626 (by decide +kernel) rfl
theorem tw628 : (Jvm.Cond.instanceMethod yX2_fetch) ∈ TB := tw_of 628 (by decide +kernel) rfl
set_option maxRecDepth 100000 in
theorem tw629 : (Jvm.Cond.code yX2_fetch prog_4_method_7_code (4 : Nat) (Option.none : Option Jvm.ClassFile.FieldType)) ∈ TB := tw_of 629 rfl rfl
theorem tw630 : (Jvm.Cond.methodLink "BitCongruences$Finder" (93 : Nat) yX1_makeConstant) ∈ TB := tw_of 630 (by decide +kernel) rfl
theorem tw631 : (Jvm.Cond.methodLink "BitCongruences$Finder" (97 : Nat) yX2_lookUp) ∈ TB := tw_of 631 (by decide +kernel) rfl
theorem tw633 : (Jvm.Cond.instanceMethod yX2_lookUp) ∈ TB := tw_of 633 (by decide +kernel) rfl
set_option maxRecDepth 100000 in
theorem tw634 : (Jvm.Cond.code yX2_lookUp prog_4_method_8_code (6 : Nat) (Option.none : Option Jvm.ClassFile.FieldType)) ∈ TB := tw_of 634 rfl rfl
theorem tw635 : (Jvm.Cond.methodLink "BitCongruences$Finder" (109 : Nat) yX1_makeNone) ∈ TB := tw_of 635 (by decide +kernel) rfl
theorem tw636 : (Jvm.Cond.methodLink "BitCongruences$Finder" (117 : Nat) yX1_holds) ∈ TB := tw_of 636 (by decide +kernel) rfl
theorem tw637 : (Jvm.Cond.methodLink "BitCongruences$Finder" (101 : Nat) yX2_branch) ∈ TB := tw_of 637 (by decide +kernel) rfl
theorem tw639 : (Jvm.Cond.instanceMethod yX2_branch) ∈ TB := tw_of 639 (by decide +kernel) rfl
set_option maxRecDepth 100000 in
theorem tw640 : (Jvm.Cond.code yX2_branch prog_4_method_9_code (11 : Nat) (Option.none : Option Jvm.ClassFile.FieldType)) ∈ TB := tw_of 640 rfl rfl
theorem tw641 : (Jvm.Cond.methodLink "BitCongruences$Finder" (129 : Nat) yX2_learnBit) ∈ TB := tw_of 641 (by decide +kernel) rfl
theorem tw642 : (Jvm.Cond.static yX2_learnBit) ∈ TB := tw_of 642 (by decide +kernel) rfl
set_option maxRecDepth 100000 in
theorem tw643 : (Jvm.Cond.code yX2_learnBit prog_4_method_10_code (6 : Nat) (Option.none : Option Jvm.ClassFile.FieldType)) ∈ TB := tw_of 643 rfl rfl
theorem tw644 : (Jvm.Cond.methodLink "BitCongruences$Finder" (133 : Nat) yX1_becomeMeet) ∈ TB := tw_of 644 (by decide +kernel) rfl
theorem tw645 : (Jvm.Cond.methodLink "BitCongruences$Finder" (136 : Nat) yX2_keepApart) ∈ TB := tw_of 645 (by decide +kernel) rfl
theorem tw646 : (Jvm.Cond.static yX2_keepApart) ∈ TB := tw_of 646 (by decide +kernel) rfl
set_option maxRecDepth 100000 in
theorem tw647 : (Jvm.Cond.code yX2_keepApart prog_4_method_11_code (3 : Nat) (Option.none : Option Jvm.ClassFile.FieldType)) ∈ TB := tw_of 647 rfl rfl
theorem tw648 : (Jvm.Cond.methodLink "BitCongruences$Finder" (169 : Nat) yX1_isConstant) ∈ TB := tw_of 648 (by decide +kernel) rfl
theorem tw649 : (Jvm.Cond.methodLink "BitCongruences$Finder" (140 : Nat) yX2_keepBelow) ∈ TB := tw_of 649 (by decide +kernel) rfl
theorem tw650 : (Jvm.Cond.static yX2_keepBelow) ∈ TB := tw_of 650 (by decide +kernel) rfl
set_option maxRecDepth 100000 in
theorem tw651 : (Jvm.Cond.code yX2_keepBelow prog_4_method_12_code (3 : Nat) (Option.none : Option Jvm.ClassFile.FieldType)) ∈ TB := tw_of 651 rfl rfl
theorem tw652 : (Jvm.Cond.methodLink "BitCongruences$Finder" (157 : Nat) yX2_keepUpTo) ∈ TB := tw_of 652 (by decide +kernel) rfl
theorem tw653 : (Jvm.Cond.static yX2_keepUpTo) ∈ TB := tw_of 653 (by decide +kernel) rfl
set_option maxRecDepth 100000 in
theorem tw654 : (Jvm.Cond.code yX2_keepUpTo prog_4_method_15_code (4 : Nat) (Option.none : Option Jvm.ClassFile.FieldType)) ∈ TB := tw_of 654 rfl rfl
theorem tw655 : (Jvm.Cond.methodLink "BitCongruences$Finder" (182 : Nat) yJ9_min_f86c9) ∈ TB := tw_of 655 (by decide +kernel) rfl
theorem tw656 : (Jvm.Cond.methodLink "BitCongruences$Finder" (143 : Nat) yX2_keepAbove) ∈ TB := tw_of 656 (by decide +kernel) rfl
theorem tw657 : (Jvm.Cond.static yX2_keepAbove) ∈ TB := tw_of 657 (by decide +kernel) rfl
set_option maxRecDepth 100000 in
theorem tw658 : (Jvm.Cond.code yX2_keepAbove prog_4_method_13_code (3 : Nat) (Option.none : Option Jvm.ClassFile.FieldType)) ∈ TB := tw_of 658 rfl rfl
theorem tw659 : (Jvm.Cond.methodLink "BitCongruences$Finder" (150 : Nat) yX2_keepFrom) ∈ TB := tw_of 659 (by decide +kernel) rfl
theorem tw660 : (Jvm.Cond.static yX2_keepFrom) ∈ TB := tw_of 660 (by decide +kernel) rfl
set_option maxRecDepth 100000 in
theorem tw661 : (Jvm.Cond.code yX2_keepFrom prog_4_method_14_code (4 : Nat) (Option.none : Option Jvm.ClassFile.FieldType)) ∈ TB := tw_of 661 rfl rfl
theorem tw662 : (Jvm.Cond.methodLink "BitCongruences$Finder" (176 : Nat) yJ9_max_f86c9) ∈ TB := tw_of 662 (by decide +kernel) rfl
theorem tw663 : (Jvm.Cond.methodLink "BitCongruences$Finder" (105 : Nat) yX0_work) ∈ TB := tw_of 663 (by decide +kernel) rfl
theorem tw664 : (Jvm.Cond.methodLink "BitCongruences" (174 : Nat) yX2_end) ∈ TB := tw_of 664 (by decide +kernel) rfl
theorem tw665 : (Jvm.Cond.instanceMethod yX2_end) ∈ TB := tw_of 665 (by decide +kernel) rfl
theorem tw666 : (Jvm.Cond.selects "BitCongruences$Finder" yX2_end yX2_end) ∈ TB := tw_of 666 (by decide +kernel) rfl
set_option maxRecDepth 100000 in
theorem tw667 : (Jvm.Cond.code yX2_end prog_4_method_4_code (2 : Nat) (Option.none : Option Jvm.ClassFile.FieldType)) ∈ TB := tw_of 667 rfl rfl
theorem tw668 : (Jvm.Cond.methodLink "BitCongruences$Finder" (60 : Nat) yX2_someWait) ∈ TB := tw_of 668 (by decide +kernel) rfl
theorem tw669 : (Jvm.Cond.methodLink "BitCongruences$Finder" (64 : Nat) yX2_reachAll) ∈ TB := tw_of 669 (by decide +kernel) rfl
theorem tw670 : (Jvm.Cond.static yX2_reachAll) ∈ TB := tw_of 670 (by decide +kernel) rfl
set_option maxRecDepth 100000 in
theorem tw671 : (Jvm.Cond.code yX2_reachAll prog_4_method_5_code (2 : Nat) (Option.none : Option Jvm.ClassFile.FieldType)) ∈ TB := tw_of 671 rfl rfl
theorem tw672 : (Jvm.Cond.methodLink "BitCongruences$Finder" (78 : Nat) yX1_makeAll) ∈ TB := tw_of 672 (by decide +kernel) rfl
theorem tw673 : (Jvm.Cond.methodLink "BitCongruencesLaw" (68 : Nat) yX6_found) ∈ TB := tw_of 673 (by decide +kernel) rfl
theorem tw674 : (Jvm.Cond.instanceMethod yX6_found) ∈ TB := tw_of 674 (by decide +kernel) rfl
theorem tw675 : (Jvm.Cond.selects "BitCongruences" yX6_found yX6_found) ∈ TB := tw_of 675 (by decide +kernel) rfl
set_option maxRecDepth 100000 in
theorem tw676 : (Jvm.Cond.code yX6_found prog_1_method_13_code (7 : Nat) (Option.some Jvm.ClassFile.FieldType.int)) ∈ TB := tw_of 676 rfl rfl
theorem tw677 : (Jvm.Cond.methodLink "BitCongruences" (184 : Nat) yX1_makeNone) ∈ TB := tw_of 677 (by decide +kernel) rfl
theorem tw678 : (Jvm.Cond.methodLink "BitCongruencesLaw" (72 : Nat) yX6_sum) ∈ TB := tw_of 678 (by decide +kernel) rfl
theorem tw679 : (Jvm.Cond.instanceMethod yX6_sum) ∈ TB := tw_of 679 (by decide +kernel) rfl
theorem tw680 : (Jvm.Cond.selects "BitCongruences" yX6_sum yX6_sum) ∈ TB := tw_of 680 (by decide +kernel) rfl
set_option maxRecDepth 100000 in
theorem tw681 : (Jvm.Cond.code yX6_sum prog_1_method_14_code (4 : Nat) (Option.some Jvm.ClassFile.FieldType.int)) ∈ TB := tw_of 681 rfl rfl
theorem tw682 : (Jvm.Cond.methodLink "BitCongruences" (187 : Nat) yX3_reachedLines) ∈ TB := tw_of 682 (by decide +kernel) rfl
theorem tw683 : (Jvm.Cond.instanceMethod yX3_reachedLines) ∈ TB := tw_of 683 (by decide +kernel) rfl
theorem tw684 : (Jvm.Cond.selects "BitCongruences$Routine" yX3_reachedLines yX3_reachedLines) ∈ TB := tw_of 684 (by decide +kernel) rfl
set_option maxRecDepth 100000 in
theorem tw685 : (Jvm.Cond.code yX3_reachedLines prog_5_method_4_code (3 : Nat) (Option.some Jvm.ClassFile.FieldType.int)) ∈ TB := tw_of 685 rfl rfl
theorem tw686 : (Jvm.Cond.methodLink "BitCongruences" (191 : Nat) yX3_givenUpLines) ∈ TB := tw_of 686 (by decide +kernel) rfl
theorem tw687 : (Jvm.Cond.instanceMethod yX3_givenUpLines) ∈ TB := tw_of 687 (by decide +kernel) rfl
theorem tw688 : (Jvm.Cond.selects "BitCongruences$Routine" yX3_givenUpLines yX3_givenUpLines) ∈ TB := tw_of 688 (by decide +kernel) rfl
set_option maxRecDepth 100000 in
theorem tw689 : (Jvm.Cond.code yX3_givenUpLines prog_5_method_5_code (5 : Nat) (Option.some Jvm.ClassFile.FieldType.int)) ∈ TB := tw_of 689 rfl rfl
theorem tw690 : (Jvm.Cond.methodLink "BitCongruences$Routine" (50 : Nat) yX0_givesUp) ∈ TB := tw_of 690 (by decide +kernel) rfl
theorem tw691 : (Jvm.Cond.methodLink "BitCongruences" (194 : Nat) yX3_constants) ∈ TB := tw_of 691 (by decide +kernel) rfl
theorem tw692 : (Jvm.Cond.instanceMethod yX3_constants) ∈ TB := tw_of 692 (by decide +kernel) rfl
theorem tw693 : (Jvm.Cond.selects "BitCongruences$Routine" yX3_constants yX3_constants) ∈ TB := tw_of 693 (by decide +kernel) rfl
set_option maxRecDepth 100000 in
theorem tw694 : (Jvm.Cond.code yX3_constants prog_5_method_6_code (3 : Nat) (Option.some Jvm.ClassFile.FieldType.int)) ∈ TB := tw_of 694 rfl rfl
theorem tw695 : (Jvm.Cond.methodLink "BitCongruences$Routine" (56 : Nat) yX1_isConstant) ∈ TB := tw_of 695 (by decide +kernel) rfl
theorem tw696 : (Jvm.Cond.methodLink "BitCongruencesLaw" (77 : Nat) yX6_put) ∈ TB := tw_of 696 (by decide +kernel) rfl
theorem tw697 : (Jvm.Cond.instanceMethod yX6_put) ∈ TB := tw_of 697 (by decide +kernel) rfl
theorem tw698 : (Jvm.Cond.selects "BitCongruences" yX6_put yX6_put) ∈ TB := tw_of 698 (by decide +kernel) rfl
set_option maxRecDepth 100000 in
theorem tw699 : (Jvm.Cond.code yX6_put prog_1_method_15_code (6 : Nat) (Option.some Jvm.ClassFile.FieldType.long)) ∈ TB := tw_of 699 rfl rfl
theorem tw700 : (Jvm.Cond.methodLink "BitCongruencesLaw" (82 : Nat) yX6_walk) ∈ TB := tw_of 700 (by decide +kernel) rfl
theorem tw701 : (Jvm.Cond.instanceMethod yX6_walk) ∈ TB := tw_of 701 (by decide +kernel) rfl
theorem tw702 : (Jvm.Cond.selects "BitCongruences" yX6_walk yX6_walk) ∈ TB := tw_of 702 (by decide +kernel) rfl
set_option maxRecDepth 100000 in
theorem tw703 : (Jvm.Cond.code yX6_walk prog_1_method_16_code (4 : Nat) (Option.some Jvm.ClassFile.FieldType.int)) ∈ TB := tw_of 703 rfl rfl
theorem tw704 : (Jvm.Cond.methodLink "BitCongruences" (200 : Nat) yX3_allows) ∈ TB := tw_of 704 (by decide +kernel) rfl
theorem tw705 : (Jvm.Cond.instanceMethod yX3_allows) ∈ TB := tw_of 705 (by decide +kernel) rfl
theorem tw706 : (Jvm.Cond.selects "BitCongruences$Routine" yX3_allows yX3_allows) ∈ TB := tw_of 706 (by decide +kernel) rfl
set_option maxRecDepth 100000 in
theorem tw707 : (Jvm.Cond.code yX3_allows prog_5_method_3_code (3 : Nat) (Option.some Jvm.ClassFile.FieldType.boolean)) ∈ TB := tw_of 707 rfl rfl
theorem tw708 : (Jvm.Cond.methodLink "BitCongruences$Routine" (46 : Nat) yX1_holds) ∈ TB := tw_of 708 (by decide +kernel) rfl
theorem tw709 : (Jvm.Cond.methodLink "BitCongruences" (204 : Nat) yX4_begin) ∈ TB := tw_of 709 (by decide +kernel) rfl
theorem tw710 : (Jvm.Cond.instanceMethod yX4_begin) ∈ TB := tw_of 710 (by decide +kernel) rfl
theorem tw711 : (Jvm.Cond.selects "BitCongruences$Run" yX4_begin yX4_begin) ∈ TB := tw_of 711 (by decide +kernel) rfl
set_option maxRecDepth 100000 in
theorem tw712 : (Jvm.Cond.code yX4_begin prog_6_method_2_code (8 : Nat) (Option.some Jvm.ClassFile.FieldType.int)) ∈ TB := tw_of 712 rfl rfl
theorem tw713 : (Jvm.Cond.methodLink "BitCongruences$Run" (30 : Nat) yX4_look) ∈ TB := tw_of 713 (by decide +kernel) rfl
theorem tw715 : (Jvm.Cond.instanceMethod yX4_look) ∈ TB := tw_of 715 (by decide +kernel) rfl
set_option maxRecDepth 100000 in
theorem tw716 : (Jvm.Cond.code yX4_look prog_6_method_3_code (4 : Nat) (Option.none : Option Jvm.ClassFile.FieldType)) ∈ TB := tw_of 716 rfl rfl
theorem tw717 : (Jvm.Cond.methodLink "BitCongruences$Run" (52 : Nat) yX1_holds) ∈ TB := tw_of 717 (by decide +kernel) rfl
theorem tw718 : (Jvm.Cond.methodLink "BitCongruences$Run" (34 : Nat) yX4_step) ∈ TB := tw_of 718 (by decide +kernel) rfl
theorem tw720 : (Jvm.Cond.instanceMethod yX4_step) ∈ TB := tw_of 720 (by decide +kernel) rfl
set_option maxRecDepth 100000 in
theorem tw721 : (Jvm.Cond.code yX4_step prog_6_method_4_code (6 : Nat) (Option.some Jvm.ClassFile.FieldType.int)) ∈ TB := tw_of 721 rfl rfl
theorem tw722 : (Jvm.Cond.methodLink "BitCongruences$Run" (68 : Nat) yX4_lookUp) ∈ TB := tw_of 722 (by decide +kernel) rfl
theorem tw724 : (Jvm.Cond.instanceMethod yX4_lookUp) ∈ TB := tw_of 724 (by decide +kernel) rfl
set_option maxRecDepth 100000 in
theorem tw725 : (Jvm.Cond.code yX4_lookUp prog_6_method_5_code (6 : Nat) (Option.some Jvm.ClassFile.FieldType.boolean)) ∈ TB := tw_of 725 rfl rfl
theorem tw726 : (Jvm.Cond.methodLink "BitCongruences$Run" (76 : Nat) yX5_has) ∈ TB := tw_of 726 (by decide +kernel) rfl
theorem tw727 : (Jvm.Cond.instanceMethod yX5_has) ∈ TB := tw_of 727 (by decide +kernel) rfl
theorem tw728 : (Jvm.Cond.selects "BitCongruences$Tables" yX5_has yX5_has) ∈ TB := tw_of 728 (by decide +kernel) rfl
set_option maxRecDepth 100000 in
theorem tw729 : (Jvm.Cond.code yX5_has prog_7_method_3_code (4 : Nat) (Option.some Jvm.ClassFile.FieldType.boolean)) ∈ TB := tw_of 729 rfl rfl
theorem tw730 : (Jvm.Cond.methodLink "BitCongruences$Run" (72 : Nat) yX4_compute) ∈ TB := tw_of 730 (by decide +kernel) rfl
theorem tw732 : (Jvm.Cond.instanceMethod yX4_compute) ∈ TB := tw_of 732 (by decide +kernel) rfl
set_option maxRecDepth 100000 in
theorem tw733 : (Jvm.Cond.code yX4_compute prog_6_method_6_code (6 : Nat) (Option.some Jvm.ClassFile.FieldType.boolean)) ∈ TB := tw_of 733 rfl rfl
theorem tw734 : (Jvm.Cond.methodLink "BitCongruences$Run" (85 : Nat) yX0_stops) ∈ TB := tw_of 734 (by decide +kernel) rfl
theorem tw735 : (Jvm.Cond.methodLink "BitCongruences$Run" (90 : Nat) yX0_number) ∈ TB := tw_of 735 (by decide +kernel) rfl
theorem tw736 : (Jvm.Cond.methodLink "BitCongruences$Run" (38 : Nat) yJ9_min_7cf53) ∈ TB := tw_of 736 (by decide +kernel) rfl
theorem tw737 : (Jvm.Cond.static yJ9_min_7cf53) ∈ TB := tw_of 737 (by decide +kernel) rfl
set_option maxRecDepth 100000 in
theorem tw738 : (Jvm.Cond.code yJ9_min_7cf53 prog_11_method_69_code (2 : Nat) (Option.some Jvm.ClassFile.FieldType.int)) ∈ TB := tw_of 738 rfl rfl
theorem tw739 : (Jvm.Cond.methodLink "BitCongruencesLaw" (86 : Nat) yX6_now) ∈ TB := tw_of 739 (by decide +kernel) rfl
theorem tw740 : (Jvm.Cond.instanceMethod yX6_now) ∈ TB := tw_of 740 (by decide +kernel) rfl
theorem tw741 : (Jvm.Cond.selects "BitCongruences" yX6_now yX6_now) ∈ TB := tw_of 741 (by decide +kernel) rfl
set_option maxRecDepth 100000 in
theorem tw742 : (Jvm.Cond.code yX6_now prog_1_method_17_code (2 : Nat) (Option.some Jvm.ClassFile.FieldType.long)) ∈ TB := tw_of 742 rfl rfl
theorem tw743 : (Jvm.Cond.methodLink "BitCongruencesLaw" (91 : Nat) yX6_ran) ∈ TB := tw_of 743 (by decide +kernel) rfl
theorem tw744 : (Jvm.Cond.instanceMethod yX6_ran) ∈ TB := tw_of 744 (by decide +kernel) rfl
theorem tw745 : (Jvm.Cond.selects "BitCongruences" yX6_ran yX6_ran) ∈ TB := tw_of 745 (by decide +kernel) rfl
set_option maxRecDepth 100000 in
theorem tw746 : (Jvm.Cond.code yX6_ran prog_1_method_18_code (2 : Nat) (Option.some Jvm.ClassFile.FieldType.int)) ∈ TB := tw_of 746 rfl rfl
theorem tw749 : (Jvm.Cond.methodLink "BitCongruencesLaw" (12 : Nat) yX7_init) ∈ TB := tw_of 749 (by decide +kernel) rfl
theorem tw750 : (Jvm.Cond.instanceMethod yX7_init) ∈ TB := tw_of 750 (by decide +kernel) rfl
set_option maxRecDepth 100000 in
theorem tw751 : (Jvm.Cond.code yX7_init prog_9_method_1_code (2 : Nat) (Option.none : Option Jvm.ClassFile.FieldType)) ∈ TB := tw_of 751 rfl rfl
theorem tw753 : (Jvm.Cond.methodLink "BitCongruencesModel" (79 : Nat) yX7_all) ∈ TB := tw_of 753 (by decide +kernel) rfl
theorem tw755 : (Jvm.Cond.instanceMethod yX7_all) ∈ TB := tw_of 755 (by decide +kernel) rfl
set_option maxRecDepth 100000 in
theorem tw756 : (Jvm.Cond.code yX7_all prog_9_method_6_code (2 : Nat) (Option.none : Option Jvm.ClassFile.FieldType)) ∈ TB := tw_of 756 rfl rfl
theorem tw841 : (Jvm.Cond.methodLink "BitCongruencesLaw" (19 : Nat) yX7_fact) ∈ TB := tw_of 841 (by decide +kernel) rfl
theorem tw842 : (Jvm.Cond.instanceMethod yX7_fact) ∈ TB := tw_of 842 (by decide +kernel) rfl
theorem tw843 : (Jvm.Cond.selects "BitCongruencesModel" yX7_fact yX7_fact) ∈ TB := tw_of 843 (by decide +kernel) rfl
set_option maxRecDepth 100000 in
theorem tw844 : (Jvm.Cond.code yX7_fact prog_9_method_44_code (6 : Nat) (Option.some Jvm.ClassFile.FieldType.int)) ∈ TB := tw_of 844 rfl rfl
theorem tw845 : (Jvm.Cond.methodLink "BitCongruencesModel" (237 : Nat) yX7_isFact) ∈ TB := tw_of 845 (by decide +kernel) rfl
theorem tw846 : (Jvm.Cond.static yX7_isFact) ∈ TB := tw_of 846 (by decide +kernel) rfl
set_option maxRecDepth 100000 in
theorem tw847 : (Jvm.Cond.code yX7_isFact prog_9_method_43_code (1 : Nat) (Option.some Jvm.ClassFile.FieldType.boolean)) ∈ TB := tw_of 847 rfl rfl
theorem tw849 : (Jvm.Cond.methodLink "BitCongruencesModel" (89 : Nat) yX7_in) ∈ TB := tw_of 849 (by decide +kernel) rfl
theorem tw850 : (Jvm.Cond.static yX7_in) ∈ TB := tw_of 850 (by decide +kernel) rfl
set_option maxRecDepth 100000 in
theorem tw851 : (Jvm.Cond.code yX7_in prog_9_method_2_code (6 : Nat) (Option.some Jvm.ClassFile.FieldType.boolean)) ∈ TB := tw_of 851 rfl rfl
theorem tw852 : (Jvm.Cond.methodLink "BitCongruencesModel" (157 : Nat) yX7_put) ∈ TB := tw_of 852 (by decide +kernel) rfl
theorem tw854 : (Jvm.Cond.instanceMethod yX7_put) ∈ TB := tw_of 854 (by decide +kernel) rfl
set_option maxRecDepth 100000 in
theorem tw855 : (Jvm.Cond.code yX7_put prog_9_method_26_code (10 : Nat) (Option.none : Option Jvm.ClassFile.FieldType)) ∈ TB := tw_of 855 rfl rfl
theorem tw856 : (Jvm.Cond.methodLink "BitCongruencesModel" (115 : Nat) yX7_nothing) ∈ TB := tw_of 856 (by decide +kernel) rfl
theorem tw858 : (Jvm.Cond.instanceMethod yX7_nothing) ∈ TB := tw_of 858 (by decide +kernel) rfl
set_option maxRecDepth 100000 in
theorem tw859 : (Jvm.Cond.code yX7_nothing prog_9_method_7_code (2 : Nat) (Option.none : Option Jvm.ClassFile.FieldType)) ∈ TB := tw_of 859 rfl rfl
theorem tw860 : (Jvm.Cond.methodLink "BitCongruencesModel" (165 : Nat) yX7_sharpen) ∈ TB := tw_of 860 (by decide +kernel) rfl
theorem tw862 : (Jvm.Cond.instanceMethod yX7_sharpen) ∈ TB := tw_of 862 (by decide +kernel) rfl
set_option maxRecDepth 100000 in
theorem tw863 : (Jvm.Cond.code yX7_sharpen prog_9_method_15_code (11 : Nat) (Option.none : Option Jvm.ClassFile.FieldType)) ∈ TB := tw_of 863 rfl rfl
theorem tw864 : (Jvm.Cond.methodLink "BitCongruencesModel" (105 : Nat) yX7_byBits) ∈ TB := tw_of 864 (by decide +kernel) rfl
theorem tw866 : (Jvm.Cond.instanceMethod yX7_byBits) ∈ TB := tw_of 866 (by decide +kernel) rfl
set_option maxRecDepth 100000 in
theorem tw867 : (Jvm.Cond.code yX7_byBits prog_9_method_16_code (3 : Nat) (Option.some Jvm.ClassFile.FieldType.boolean)) ∈ TB := tw_of 867 rfl rfl
theorem tw868 : (Jvm.Cond.methodLink "BitCongruencesModel" (101 : Nat) yX7_up) ∈ TB := tw_of 868 (by decide +kernel) rfl
theorem tw870 : (Jvm.Cond.instanceMethod yX7_up) ∈ TB := tw_of 870 (by decide +kernel) rfl
set_option maxRecDepth 100000 in
theorem tw871 : (Jvm.Cond.code yX7_up prog_9_method_13_code (16 : Nat) (Option.some Jvm.ClassFile.FieldType.long)) ∈ TB := tw_of 871 rfl rfl
theorem tw873 : (Jvm.Cond.methodLink "BitCongruencesModel" (122 : Nat) yX7_down) ∈ TB := tw_of 873 (by decide +kernel) rfl
theorem tw875 : (Jvm.Cond.instanceMethod yX7_down) ∈ TB := tw_of 875 (by decide +kernel) rfl
set_option maxRecDepth 100000 in
theorem tw876 : (Jvm.Cond.code yX7_down prog_9_method_14_code (7 : Nat) (Option.some Jvm.ClassFile.FieldType.long)) ∈ TB := tw_of 876 rfl rfl
theorem tw877 : (Jvm.Cond.methodLink "BitCongruencesModel" (109 : Nat) yX7_byRest) ∈ TB := tw_of 877 (by decide +kernel) rfl
theorem tw879 : (Jvm.Cond.instanceMethod yX7_byRest) ∈ TB := tw_of 879 (by decide +kernel) rfl
set_option maxRecDepth 100000 in
theorem tw880 : (Jvm.Cond.code yX7_byRest prog_9_method_17_code (8 : Nat) (Option.some Jvm.ClassFile.FieldType.boolean)) ∈ TB := tw_of 880 rfl rfl
theorem tw881 : (Jvm.Cond.methodLink "BitCongruencesModel" (93 : Nat) yX7_rem) ∈ TB := tw_of 881 (by decide +kernel) rfl
theorem tw882 : (Jvm.Cond.static yX7_rem) ∈ TB := tw_of 882 (by decide +kernel) rfl
set_option maxRecDepth 100000 in
theorem tw883 : (Jvm.Cond.code yX7_rem prog_9_method_3_code (6 : Nat) (Option.some Jvm.ClassFile.FieldType.long)) ∈ TB := tw_of 883 rfl rfl
theorem tw884 : (Jvm.Cond.methodLink "BitCongruencesModel" (112 : Nat) yX7_byEnds) ∈ TB := tw_of 884 (by decide +kernel) rfl
theorem tw886 : (Jvm.Cond.instanceMethod yX7_byEnds) ∈ TB := tw_of 886 (by decide +kernel) rfl
set_option maxRecDepth 100000 in
theorem tw887 : (Jvm.Cond.code yX7_byEnds prog_9_method_18_code (5 : Nat) (Option.some Jvm.ClassFile.FieldType.boolean)) ∈ TB := tw_of 887 rfl rfl
theorem tw888 : (Jvm.Cond.methodLink "BitCongruencesModel" (118 : Nat) yX7_number) ∈ TB := tw_of 888 (by decide +kernel) rfl
theorem tw890 : (Jvm.Cond.instanceMethod yX7_number) ∈ TB := tw_of 890 (by decide +kernel) rfl
set_option maxRecDepth 100000 in
theorem tw891 : (Jvm.Cond.code yX7_number prog_9_method_8_code (4 : Nat) (Option.none : Option Jvm.ClassFile.FieldType)) ∈ TB := tw_of 891 rfl rfl
theorem tw892 : (Jvm.Cond.methodLink "BitCongruencesLaw" (23 : Nat) yX7_bits) ∈ TB := tw_of 892 (by decide +kernel) rfl
theorem tw893 : (Jvm.Cond.instanceMethod yX7_bits) ∈ TB := tw_of 893 (by decide +kernel) rfl
theorem tw894 : (Jvm.Cond.selects "BitCongruencesModel" yX7_bits yX7_bits) ∈ TB := tw_of 894 (by decide +kernel) rfl
set_option maxRecDepth 100000 in
theorem tw895 : (Jvm.Cond.code yX7_bits prog_9_method_45_code (6 : Nat) (Option.some Jvm.ClassFile.FieldType.int)) ∈ TB := tw_of 895 rfl rfl
theorem tw896 : (Jvm.Cond.methodLink "BitCongruencesModel" (240 : Nat) yX7_meet) ∈ TB := tw_of 896 (by decide +kernel) rfl
theorem tw898 : (Jvm.Cond.instanceMethod yX7_meet) ∈ TB := tw_of 898 (by decide +kernel) rfl
set_option maxRecDepth 100000 in
theorem tw899 : (Jvm.Cond.code yX7_meet prog_9_method_27_code (18 : Nat) (Option.none : Option Jvm.ClassFile.FieldType)) ∈ TB := tw_of 899 rfl rfl
theorem tw900 : (Jvm.Cond.methodLink "BitCongruencesModel" (154 : Nat) yX7_more) ∈ TB := tw_of 900 (by decide +kernel) rfl
theorem tw901 : (Jvm.Cond.static yX7_more) ∈ TB := tw_of 901 (by decide +kernel) rfl
set_option maxRecDepth 100000 in
theorem tw902 : (Jvm.Cond.code yX7_more prog_9_method_4_code (4 : Nat) (Option.some Jvm.ClassFile.FieldType.long)) ∈ TB := tw_of 902 rfl rfl
theorem tw903 : (Jvm.Cond.methodLink "BitCongruencesModel" (151 : Nat) yX7_less) ∈ TB := tw_of 903 (by decide +kernel) rfl
theorem tw904 : (Jvm.Cond.static yX7_less) ∈ TB := tw_of 904 (by decide +kernel) rfl
set_option maxRecDepth 100000 in
theorem tw905 : (Jvm.Cond.code yX7_less prog_9_method_5_code (4 : Nat) (Option.some Jvm.ClassFile.FieldType.long)) ∈ TB := tw_of 905 rfl rfl
theorem tw906 : (Jvm.Cond.methodLink "BitCongruencesModel" (161 : Nat) yX7_setRest) ∈ TB := tw_of 906 (by decide +kernel) rfl
theorem tw908 : (Jvm.Cond.instanceMethod yX7_setRest) ∈ TB := tw_of 908 (by decide +kernel) rfl
set_option maxRecDepth 100000 in
theorem tw909 : (Jvm.Cond.code yX7_setRest prog_9_method_24_code (6 : Nat) (Option.none : Option Jvm.ClassFile.FieldType)) ∈ TB := tw_of 909 rfl rfl
theorem tw910 : (Jvm.Cond.methodLink "BitCongruencesLaw" (28 : Nat) yX7_rest) ∈ TB := tw_of 910 (by decide +kernel) rfl
theorem tw911 : (Jvm.Cond.instanceMethod yX7_rest) ∈ TB := tw_of 911 (by decide +kernel) rfl
theorem tw912 : (Jvm.Cond.selects "BitCongruencesModel" yX7_rest yX7_rest) ∈ TB := tw_of 912 (by decide +kernel) rfl
set_option maxRecDepth 100000 in
theorem tw913 : (Jvm.Cond.code yX7_rest prog_9_method_46_code (5 : Nat) (Option.some Jvm.ClassFile.FieldType.int)) ∈ TB := tw_of 913 rfl rfl
theorem tw914 : (Jvm.Cond.methodLink "BitCongruencesLaw" (33 : Nat) yX7_act) ∈ TB := tw_of 914 (by decide +kernel) rfl
theorem tw915 : (Jvm.Cond.instanceMethod yX7_act) ∈ TB := tw_of 915 (by decide +kernel) rfl
theorem tw916 : (Jvm.Cond.selects "BitCongruencesModel" yX7_act yX7_act) ∈ TB := tw_of 916 (by decide +kernel) rfl
set_option maxRecDepth 100000 in
theorem tw917 : (Jvm.Cond.code yX7_act prog_9_method_47_code (5 : Nat) (Option.some Jvm.ClassFile.FieldType.int)) ∈ TB := tw_of 917 rfl rfl
theorem tw919 : (Jvm.Cond.methodLink "BitCongruencesModel" (229 : Nat) yX7_join) ∈ TB := tw_of 919 (by decide +kernel) rfl
theorem tw921 : (Jvm.Cond.instanceMethod yX7_join) ∈ TB := tw_of 921 (by decide +kernel) rfl
set_option maxRecDepth 100000 in
theorem tw922 : (Jvm.Cond.code yX7_join prog_9_method_25_code (20 : Nat) (Option.none : Option Jvm.ClassFile.FieldType)) ∈ TB := tw_of 922 rfl rfl
theorem tw923 : (Jvm.Cond.methodLink "BitCongruencesModel" (133 : Nat) yX7_copy) ∈ TB := tw_of 923 (by decide +kernel) rfl
theorem tw925 : (Jvm.Cond.instanceMethod yX7_copy) ∈ TB := tw_of 925 (by decide +kernel) rfl
set_option maxRecDepth 100000 in
theorem tw926 : (Jvm.Cond.code yX7_copy prog_9_method_9_code (3 : Nat) (Option.none : Option Jvm.ClassFile.FieldType)) ∈ TB := tw_of 926 rfl rfl
theorem tw927 : (Jvm.Cond.methodLink "BitCongruencesModel" (130 : Nat) yX7_isNumber) ∈ TB := tw_of 927 (by decide +kernel) rfl
theorem tw929 : (Jvm.Cond.instanceMethod yX7_isNumber) ∈ TB := tw_of 929 (by decide +kernel) rfl
set_option maxRecDepth 100000 in
theorem tw930 : (Jvm.Cond.code yX7_isNumber prog_9_method_10_code (2 : Nat) (Option.some Jvm.ClassFile.FieldType.boolean)) ∈ TB := tw_of 930 rfl rfl
theorem tw931 : (Jvm.Cond.methodLink "BitCongruencesModel" (137 : Nat) yX7_restOf) ∈ TB := tw_of 931 (by decide +kernel) rfl
theorem tw933 : (Jvm.Cond.instanceMethod yX7_restOf) ∈ TB := tw_of 933 (by decide +kernel) rfl
set_option maxRecDepth 100000 in
theorem tw934 : (Jvm.Cond.code yX7_restOf prog_9_method_23_code (2 : Nat) (Option.some Jvm.ClassFile.FieldType.long)) ∈ TB := tw_of 934 rfl rfl
theorem tw935 : (Jvm.Cond.methodLink "BitCongruencesModel" (141 : Nat) yX7_byOf) ∈ TB := tw_of 935 (by decide +kernel) rfl
theorem tw937 : (Jvm.Cond.instanceMethod yX7_byOf) ∈ TB := tw_of 937 (by decide +kernel) rfl
set_option maxRecDepth 100000 in
theorem tw938 : (Jvm.Cond.code yX7_byOf prog_9_method_22_code (2 : Nat) (Option.some Jvm.ClassFile.FieldType.long)) ∈ TB := tw_of 938 rfl rfl
theorem tw939 : (Jvm.Cond.methodLink "BitCongruencesModel" (144 : Nat) yX7_common) ∈ TB := tw_of 939 (by decide +kernel) rfl
theorem tw940 : (Jvm.Cond.static yX7_common) ∈ TB := tw_of 940 (by decide +kernel) rfl
set_option maxRecDepth 100000 in
theorem tw941 : (Jvm.Cond.code yX7_common prog_9_method_20_code (10 : Nat) (Option.some Jvm.ClassFile.FieldType.long)) ∈ TB := tw_of 941 rfl rfl
theorem tw942 : (Jvm.Cond.methodLink "BitCongruencesModel" (127 : Nat) yX7_left) ∈ TB := tw_of 942 (by decide +kernel) rfl
theorem tw943 : (Jvm.Cond.static yX7_left) ∈ TB := tw_of 943 (by decide +kernel) rfl
set_option maxRecDepth 100000 in
theorem tw944 : (Jvm.Cond.code yX7_left prog_9_method_21_code (8 : Nat) (Option.some Jvm.ClassFile.FieldType.long)) ∈ TB := tw_of 944 rfl rfl
theorem tw945 : (Jvm.Cond.methodLink "BitCongruencesModel" (147 : Nat) yX7_odd) ∈ TB := tw_of 945 (by decide +kernel) rfl
theorem tw946 : (Jvm.Cond.static yX7_odd) ∈ TB := tw_of 946 (by decide +kernel) rfl
set_option maxRecDepth 100000 in
theorem tw947 : (Jvm.Cond.code yX7_odd prog_9_method_19_code (4 : Nat) (Option.some Jvm.ClassFile.FieldType.long)) ∈ TB := tw_of 947 rfl rfl
theorem tw949 : (Jvm.Cond.methodLink "BitCongruencesModel" (245 : Nat) yX7_does) ∈ TB := tw_of 949 (by decide +kernel) rfl
theorem tw951 : (Jvm.Cond.instanceMethod yX7_does) ∈ TB := tw_of 951 (by decide +kernel) rfl
set_option maxRecDepth 100000 in
theorem tw952 : (Jvm.Cond.code yX7_does prog_9_method_30_code (6 : Nat) (Option.none : Option Jvm.ClassFile.FieldType)) ∈ TB := tw_of 952 rfl rfl
theorem tw953 : (Jvm.Cond.methodLink "BitCongruencesModel" (183 : Nat) yX7_reckon) ∈ TB := tw_of 953 (by decide +kernel) rfl
theorem tw954 : (Jvm.Cond.static yX7_reckon) ∈ TB := tw_of 954 (by decide +kernel) rfl
set_option maxRecDepth 100000 in
theorem tw955 : (Jvm.Cond.code yX7_reckon prog_9_method_28_code (5 : Nat) (Option.some Jvm.ClassFile.FieldType.long)) ∈ TB := tw_of 955 rfl rfl
theorem tw957 : (Jvm.Cond.methodLink "BitCongruencesModel" (170 : Nat) yX7_alone) ∈ TB := tw_of 957 (by decide +kernel) rfl
theorem tw958 : (Jvm.Cond.static yX7_alone) ∈ TB := tw_of 958 (by decide +kernel) rfl
set_option maxRecDepth 100000 in
theorem tw959 : (Jvm.Cond.code yX7_alone prog_9_method_29_code (3 : Nat) (Option.some Jvm.ClassFile.FieldType.long)) ∈ TB := tw_of 959 rfl rfl
theorem tw963 : (Jvm.Cond.methodLink "BitCongruencesModel" (187 : Nat) yX7_add) ∈ TB := tw_of 963 (by decide +kernel) rfl
theorem tw965 : (Jvm.Cond.instanceMethod yX7_add) ∈ TB := tw_of 965 (by decide +kernel) rfl
set_option maxRecDepth 100000 in
theorem tw966 : (Jvm.Cond.code yX7_add prog_9_method_34_code (15 : Nat) (Option.none : Option Jvm.ClassFile.FieldType)) ∈ TB := tw_of 966 rfl rfl
theorem tw967 : (Jvm.Cond.methodLink "BitCongruencesModel" (213 : Nat) yX7_isOver) ∈ TB := tw_of 967 (by decide +kernel) rfl
theorem tw968 : (Jvm.Cond.static yX7_isOver) ∈ TB := tw_of 968 (by decide +kernel) rfl
set_option maxRecDepth 100000 in
theorem tw969 : (Jvm.Cond.code yX7_isOver prog_9_method_35_code (6 : Nat) (Option.some Jvm.ClassFile.FieldType.boolean)) ∈ TB := tw_of 969 rfl rfl
theorem tw970 : (Jvm.Cond.methodLink "BitCongruencesModel" (203 : Nat) yX7_turn) ∈ TB := tw_of 970 (by decide +kernel) rfl
theorem tw972 : (Jvm.Cond.instanceMethod yX7_turn) ∈ TB := tw_of 972 (by decide +kernel) rfl
set_option maxRecDepth 100000 in
theorem tw973 : (Jvm.Cond.code yX7_turn prog_9_method_31_code (3 : Nat) (Option.none : Option Jvm.ClassFile.FieldType)) ∈ TB := tw_of 973 rfl rfl
theorem tw974 : (Jvm.Cond.methodLink "BitCongruencesModel" (216 : Nat) yX7_ripple) ∈ TB := tw_of 974 (by decide +kernel) rfl
theorem tw976 : (Jvm.Cond.instanceMethod yX7_ripple) ∈ TB := tw_of 976 (by decide +kernel) rfl
set_option maxRecDepth 100000 in
theorem tw977 : (Jvm.Cond.code yX7_ripple prog_9_method_32_code (15 : Nat) (Option.none : Option Jvm.ClassFile.FieldType)) ∈ TB := tw_of 977 rfl rfl
theorem tw978 : (Jvm.Cond.methodLink "BitCongruencesModel" (209 : Nat) yX7_bit) ∈ TB := tw_of 978 (by decide +kernel) rfl
theorem tw980 : (Jvm.Cond.instanceMethod yX7_bit) ∈ TB := tw_of 980 (by decide +kernel) rfl
set_option maxRecDepth 100000 in
theorem tw981 : (Jvm.Cond.code yX7_bit prog_9_method_33_code (3 : Nat) (Option.some Jvm.ClassFile.FieldType.int)) ∈ TB := tw_of 981 rfl rfl
theorem tw982 : (Jvm.Cond.methodLink "BitCongruencesModel" (191 : Nat) yX7_multiply) ∈ TB := tw_of 982 (by decide +kernel) rfl
theorem tw984 : (Jvm.Cond.instanceMethod yX7_multiply) ∈ TB := tw_of 984 (by decide +kernel) rfl
set_option maxRecDepth 100000 in
theorem tw985 : (Jvm.Cond.code yX7_multiply prog_9_method_36_code (13 : Nat) (Option.none : Option Jvm.ClassFile.FieldType)) ∈ TB := tw_of 985 rfl rfl
theorem tw986 : (Jvm.Cond.methodLink "BitCongruencesModel" (220 : Nat) yX7_oddProduct) ∈ TB := tw_of 986 (by decide +kernel) rfl
theorem tw988 : (Jvm.Cond.instanceMethod yX7_oddProduct) ∈ TB := tw_of 988 (by decide +kernel) rfl
set_option maxRecDepth 100000 in
theorem tw989 : (Jvm.Cond.code yX7_oddProduct prog_9_method_37_code (7 : Nat) (Option.some Jvm.ClassFile.FieldType.long)) ∈ TB := tw_of 989 rfl rfl
theorem tw990 : (Jvm.Cond.methodLink "BitCongruencesModel" (194 : Nat) yX7_bitwise) ∈ TB := tw_of 990 (by decide +kernel) rfl
theorem tw992 : (Jvm.Cond.instanceMethod yX7_bitwise) ∈ TB := tw_of 992 (by decide +kernel) rfl
set_option maxRecDepth 100000 in
theorem tw993 : (Jvm.Cond.code yX7_bitwise prog_9_method_38_code (14 : Nat) (Option.none : Option Jvm.ClassFile.FieldType)) ∈ TB := tw_of 993 rfl rfl
theorem tw994 : (Jvm.Cond.methodLink "BitCongruencesModel" (197 : Nat) yX7_shift) ∈ TB := tw_of 994 (by decide +kernel) rfl
theorem tw996 : (Jvm.Cond.instanceMethod yX7_shift) ∈ TB := tw_of 996 (by decide +kernel) rfl
set_option maxRecDepth 100000 in
theorem tw997 : (Jvm.Cond.code yX7_shift prog_9_method_39_code (4 : Nat) (Option.none : Option Jvm.ClassFile.FieldType)) ∈ TB := tw_of 997 rfl rfl
theorem tw999 : (Jvm.Cond.methodLink "BitCongruencesModel" (226 : Nat) yX7_move) ∈ TB := tw_of 999 (by decide +kernel) rfl
theorem tw1001 : (Jvm.Cond.instanceMethod yX7_move) ∈ TB := tw_of 1001 (by decide +kernel) rfl
set_option maxRecDepth 100000 in
theorem tw1002 : (Jvm.Cond.code yX7_move prog_9_method_40_code (10 : Nat) (Option.none : Option Jvm.ClassFile.FieldType)) ∈ TB := tw_of 1002 rfl rfl
theorem tw1004 : (Jvm.Cond.methodLink "BitCongruencesModel" (200 : Nat) yX7_divide) ∈ TB := tw_of 1004 (by decide +kernel) rfl
theorem tw1006 : (Jvm.Cond.instanceMethod yX7_divide) ∈ TB := tw_of 1006 (by decide +kernel) rfl
set_option maxRecDepth 100000 in
theorem tw1007 : (Jvm.Cond.code yX7_divide prog_9_method_41_code (4 : Nat) (Option.none : Option Jvm.ClassFile.FieldType)) ∈ TB := tw_of 1007 rfl rfl
theorem tw1008 : (Jvm.Cond.methodLink "BitCongruencesModel" (206 : Nat) yX7_narrow) ∈ TB := tw_of 1008 (by decide +kernel) rfl
theorem tw1010 : (Jvm.Cond.instanceMethod yX7_narrow) ∈ TB := tw_of 1010 (by decide +kernel) rfl
set_option maxRecDepth 100000 in
theorem tw1011 : (Jvm.Cond.code yX7_narrow prog_9_method_42_code (9 : Nat) (Option.none : Option Jvm.ClassFile.FieldType)) ∈ TB := tw_of 1011 rfl rfl
theorem tw1012 : (Jvm.Cond.methodLink "BitCongruencesLaw" (38 : Nat) yX7_told) ∈ TB := tw_of 1012 (by decide +kernel) rfl
theorem tw1013 : (Jvm.Cond.instanceMethod yX7_told) ∈ TB := tw_of 1013 (by decide +kernel) rfl
theorem tw1014 : (Jvm.Cond.selects "BitCongruencesModel" yX7_told yX7_told) ∈ TB := tw_of 1014 (by decide +kernel) rfl
set_option maxRecDepth 100000 in
theorem tw1015 : (Jvm.Cond.code yX7_told prog_9_method_48_code (3 : Nat) (Option.some Jvm.ClassFile.FieldType.long)) ∈ TB := tw_of 1015 rfl rfl
theorem tw1017 : (Jvm.Cond.methodLink "BitCongruencesLaw" (43 : Nat) yX7_isOf) ∈ TB := tw_of 1017 (by decide +kernel) rfl
theorem tw1018 : (Jvm.Cond.instanceMethod yX7_isOf) ∈ TB := tw_of 1018 (by decide +kernel) rfl
theorem tw1019 : (Jvm.Cond.selects "BitCongruencesModel" yX7_isOf yX7_isOf) ∈ TB := tw_of 1019 (by decide +kernel) rfl
set_option maxRecDepth 100000 in
theorem tw1020 : (Jvm.Cond.code yX7_isOf prog_9_method_49_code (4 : Nat) (Option.some Jvm.ClassFile.FieldType.boolean)) ∈ TB := tw_of 1020 rfl rfl
theorem tw1021 : (Jvm.Cond.methodLink "BitCongruencesModel" (251 : Nat) yX7_isIn) ∈ TB := tw_of 1021 (by decide +kernel) rfl
theorem tw1023 : (Jvm.Cond.instanceMethod yX7_isIn) ∈ TB := tw_of 1023 (by decide +kernel) rfl
set_option maxRecDepth 100000 in
theorem tw1024 : (Jvm.Cond.code yX7_isIn prog_9_method_12_code (4 : Nat) (Option.some Jvm.ClassFile.FieldType.boolean)) ∈ TB := tw_of 1024 rfl rfl
theorem tw1025 : (Jvm.Cond.methodLink "BitCongruencesLaw" (48 : Nat) yX7_method) ∈ TB := tw_of 1025 (by decide +kernel) rfl
theorem tw1026 : (Jvm.Cond.instanceMethod yX7_method) ∈ TB := tw_of 1026 (by decide +kernel) rfl
theorem tw1027 : (Jvm.Cond.selects "BitCongruencesModel" yX7_method yX7_method) ∈ TB := tw_of 1027 (by decide +kernel) rfl
set_option maxRecDepth 100000 in
theorem tw1028 : (Jvm.Cond.code yX7_method prog_9_method_50_code (1 : Nat) (Option.some Jvm.ClassFile.FieldType.int)) ∈ TB := tw_of 1028 rfl rfl
theorem tw1029 : (Jvm.Cond.methodLink "BitCongruencesLaw" (52 : Nat) yX7_op) ∈ TB := tw_of 1029 (by decide +kernel) rfl
theorem tw1030 : (Jvm.Cond.instanceMethod yX7_op) ∈ TB := tw_of 1030 (by decide +kernel) rfl
theorem tw1031 : (Jvm.Cond.selects "BitCongruencesModel" yX7_op yX7_op) ∈ TB := tw_of 1031 (by decide +kernel) rfl
set_option maxRecDepth 100000 in
theorem tw1032 : (Jvm.Cond.code yX7_op prog_9_method_54_code (6 : Nat) (Option.some Jvm.ClassFile.FieldType.int)) ∈ TB := tw_of 1032 rfl rfl
theorem tw1033 : (Jvm.Cond.methodLink "BitCongruencesModel" (267 : Nat) yX7_isMethod) ∈ TB := tw_of 1033 (by decide +kernel) rfl
theorem tw1035 : (Jvm.Cond.instanceMethod yX7_isMethod) ∈ TB := tw_of 1035 (by decide +kernel) rfl
set_option maxRecDepth 100000 in
theorem tw1036 : (Jvm.Cond.code yX7_isMethod prog_9_method_51_code (2 : Nat) (Option.some Jvm.ClassFile.FieldType.boolean)) ∈ TB := tw_of 1036 rfl rfl
theorem tw1038 : (Jvm.Cond.methodLink "BitCongruencesModel" (272 : Nat) yX7_isLine) ∈ TB := tw_of 1038 (by decide +kernel) rfl
theorem tw1039 : (Jvm.Cond.static yX7_isLine) ∈ TB := tw_of 1039 (by decide +kernel) rfl
set_option maxRecDepth 100000 in
theorem tw1040 : (Jvm.Cond.code yX7_isLine prog_9_method_53_code (4 : Nat) (Option.some Jvm.ClassFile.FieldType.boolean)) ∈ TB := tw_of 1040 rfl rfl
theorem tw1043 : (Jvm.Cond.methodLink "BitCongruencesModel" (264 : Nat) yX7_isPlace) ∈ TB := tw_of 1043 (by decide +kernel) rfl
theorem tw1044 : (Jvm.Cond.static yX7_isPlace) ∈ TB := tw_of 1044 (by decide +kernel) rfl
set_option maxRecDepth 100000 in
theorem tw1045 : (Jvm.Cond.code yX7_isPlace prog_9_method_52_code (1 : Nat) (Option.some Jvm.ClassFile.FieldType.boolean)) ∈ TB := tw_of 1045 rfl rfl
theorem tw1047 : (Jvm.Cond.methodLink "BitCongruencesLaw" (57 : Nat) yX7_table) ∈ TB := tw_of 1047 (by decide +kernel) rfl
theorem tw1048 : (Jvm.Cond.instanceMethod yX7_table) ∈ TB := tw_of 1048 (by decide +kernel) rfl
theorem tw1049 : (Jvm.Cond.selects "BitCongruencesModel" yX7_table yX7_table) ∈ TB := tw_of 1049 (by decide +kernel) rfl
set_option maxRecDepth 100000 in
theorem tw1050 : (Jvm.Cond.code yX7_table prog_9_method_55_code (5 : Nat) (Option.some Jvm.ClassFile.FieldType.int)) ∈ TB := tw_of 1050 rfl rfl
theorem tw1051 : (Jvm.Cond.methodLink "BitCongruencesLaw" (62 : Nat) yX7_given) ∈ TB := tw_of 1051 (by decide +kernel) rfl
theorem tw1052 : (Jvm.Cond.instanceMethod yX7_given) ∈ TB := tw_of 1052 (by decide +kernel) rfl
theorem tw1053 : (Jvm.Cond.selects "BitCongruencesModel" yX7_given yX7_given) ∈ TB := tw_of 1053 (by decide +kernel) rfl
set_option maxRecDepth 100000 in
theorem tw1054 : (Jvm.Cond.code yX7_given prog_9_method_56_code (4 : Nat) (Option.some Jvm.ClassFile.FieldType.int)) ∈ TB := tw_of 1054 rfl rfl
theorem tw1055 : (Jvm.Cond.methodLink "BitCongruencesLaw" (67 : Nat) yX7_find) ∈ TB := tw_of 1055 (by decide +kernel) rfl
theorem tw1056 : (Jvm.Cond.instanceMethod yX7_find) ∈ TB := tw_of 1056 (by decide +kernel) rfl
theorem tw1057 : (Jvm.Cond.selects "BitCongruencesModel" yX7_find yX7_find) ∈ TB := tw_of 1057 (by decide +kernel) rfl
set_option maxRecDepth 100000 in
theorem tw1058 : (Jvm.Cond.code yX7_find prog_9_method_58_code (6 : Nat) (Option.some Jvm.ClassFile.FieldType.int)) ∈ TB := tw_of 1058 rfl rfl
theorem tw1059 : (Jvm.Cond.methodLink "BitCongruencesModel" (276 : Nat) yX7_cell) ∈ TB := tw_of 1059 (by decide +kernel) rfl
theorem tw1061 : (Jvm.Cond.instanceMethod yX7_cell) ∈ TB := tw_of 1061 (by decide +kernel) rfl
set_option maxRecDepth 100000 in
theorem tw1062 : (Jvm.Cond.code yX7_cell prog_9_method_57_code (4 : Nat) (Option.some Jvm.ClassFile.FieldType.int)) ∈ TB := tw_of 1062 rfl rfl
theorem tw1063 : (Jvm.Cond.methodLink "BitCongruencesModel" (280 : Nat) yX7_some) ∈ TB := tw_of 1063 (by decide +kernel) rfl
theorem tw1065 : (Jvm.Cond.instanceMethod yX7_some) ∈ TB := tw_of 1065 (by decide +kernel) rfl
set_option maxRecDepth 100000 in
theorem tw1066 : (Jvm.Cond.code yX7_some prog_9_method_59_code (4 : Nat) (Option.some Jvm.ClassFile.FieldType.boolean)) ∈ TB := tw_of 1066 rfl rfl
theorem tw1067 : (Jvm.Cond.methodLink "BitCongruencesModel" (283 : Nat) yX7_work) ∈ TB := tw_of 1067 (by decide +kernel) rfl
theorem tw1069 : (Jvm.Cond.instanceMethod yX7_work) ∈ TB := tw_of 1069 (by decide +kernel) rfl
set_option maxRecDepth 100000 in
theorem tw1070 : (Jvm.Cond.code yX7_work prog_9_method_61_code (7 : Nat) (Option.none : Option Jvm.ClassFile.FieldType)) ∈ TB := tw_of 1070 rfl rfl
theorem tw1071 : (Jvm.Cond.methodLink "BitCongruencesModel" (286 : Nat) yX7_ready) ∈ TB := tw_of 1071 (by decide +kernel) rfl
theorem tw1073 : (Jvm.Cond.instanceMethod yX7_ready) ∈ TB := tw_of 1073 (by decide +kernel) rfl
set_option maxRecDepth 100000 in
theorem tw1074 : (Jvm.Cond.code yX7_ready prog_9_method_60_code (2 : Nat) (Option.none : Option Jvm.ClassFile.FieldType)) ∈ TB := tw_of 1074 rfl rfl
theorem tw1075 : (Jvm.Cond.methodLink "BitCongruencesModel" (289 : Nat) yX7_asked) ∈ TB := tw_of 1075 (by decide +kernel) rfl
theorem tw1077 : (Jvm.Cond.instanceMethod yX7_asked) ∈ TB := tw_of 1077 (by decide +kernel) rfl
set_option maxRecDepth 100000 in
theorem tw1078 : (Jvm.Cond.code yX7_asked prog_9_method_63_code (8 : Nat) (Option.none : Option Jvm.ClassFile.FieldType)) ∈ TB := tw_of 1078 rfl rfl
theorem tw1079 : (Jvm.Cond.methodLink "BitCongruencesModel" (299 : Nat) yX7_apart) ∈ TB := tw_of 1079 (by decide +kernel) rfl
theorem tw1081 : (Jvm.Cond.instanceMethod yX7_apart) ∈ TB := tw_of 1081 (by decide +kernel) rfl
set_option maxRecDepth 100000 in
theorem tw1082 : (Jvm.Cond.code yX7_apart prog_9_method_64_code (6 : Nat) (Option.none : Option Jvm.ClassFile.FieldType)) ∈ TB := tw_of 1082 rfl rfl
theorem tw1083 : (Jvm.Cond.methodLink "BitCongruencesModel" (302 : Nat) yX7_atMost) ∈ TB := tw_of 1083 (by decide +kernel) rfl
theorem tw1085 : (Jvm.Cond.instanceMethod yX7_atMost) ∈ TB := tw_of 1085 (by decide +kernel) rfl
set_option maxRecDepth 100000 in
theorem tw1086 : (Jvm.Cond.code yX7_atMost prog_9_method_65_code (6 : Nat) (Option.none : Option Jvm.ClassFile.FieldType)) ∈ TB := tw_of 1086 rfl rfl
theorem tw1087 : (Jvm.Cond.methodLink "BitCongruencesModel" (306 : Nat) yX7_atLeast) ∈ TB := tw_of 1087 (by decide +kernel) rfl
theorem tw1089 : (Jvm.Cond.instanceMethod yX7_atLeast) ∈ TB := tw_of 1089 (by decide +kernel) rfl
set_option maxRecDepth 100000 in
theorem tw1090 : (Jvm.Cond.code yX7_atLeast prog_9_method_66_code (6 : Nat) (Option.none : Option Jvm.ClassFile.FieldType)) ∈ TB := tw_of 1090 rfl rfl
theorem tw1091 : (Jvm.Cond.methodLink "BitCongruencesModel" (293 : Nat) yX7_goTo) ∈ TB := tw_of 1091 (by decide +kernel) rfl
theorem tw1093 : (Jvm.Cond.instanceMethod yX7_goTo) ∈ TB := tw_of 1093 (by decide +kernel) rfl
set_option maxRecDepth 100000 in
theorem tw1094 : (Jvm.Cond.code yX7_goTo prog_9_method_67_code (7 : Nat) (Option.none : Option Jvm.ClassFile.FieldType)) ∈ TB := tw_of 1094 rfl rfl
theorem tw1095 : (Jvm.Cond.methodLink "BitCongruencesModel" (309 : Nat) yX7_widen) ∈ TB := tw_of 1095 (by decide +kernel) rfl
theorem tw1097 : (Jvm.Cond.instanceMethod yX7_widen) ∈ TB := tw_of 1097 (by decide +kernel) rfl
set_option maxRecDepth 100000 in
theorem tw1098 : (Jvm.Cond.code yX7_widen prog_9_method_68_code (8 : Nat) (Option.none : Option Jvm.ClassFile.FieldType)) ∈ TB := tw_of 1098 rfl rfl
theorem tw1099 : (Jvm.Cond.methodLink "BitCongruencesModel" (312 : Nat) yX7_alike) ∈ TB := tw_of 1099 (by decide +kernel) rfl
theorem tw1101 : (Jvm.Cond.instanceMethod yX7_alike) ∈ TB := tw_of 1101 (by decide +kernel) rfl
set_option maxRecDepth 100000 in
theorem tw1102 : (Jvm.Cond.code yX7_alike prog_9_method_11_code (3 : Nat) (Option.some Jvm.ClassFile.FieldType.boolean)) ∈ TB := tw_of 1102 rfl rfl
theorem tw1103 : (Jvm.Cond.methodLink "BitCongruencesModel" (296 : Nat) yX7_look) ∈ TB := tw_of 1103 (by decide +kernel) rfl
theorem tw1105 : (Jvm.Cond.instanceMethod yX7_look) ∈ TB := tw_of 1105 (by decide +kernel) rfl
set_option maxRecDepth 100000 in
theorem tw1106 : (Jvm.Cond.code yX7_look prog_9_method_62_code (4 : Nat) (Option.none : Option Jvm.ClassFile.FieldType)) ∈ TB := tw_of 1106 rfl rfl
theorem tw1107 : (Jvm.Cond.methodLink "BitCongruencesLaw" (71 : Nat) yX7_found) ∈ TB := tw_of 1107 (by decide +kernel) rfl
theorem tw1108 : (Jvm.Cond.instanceMethod yX7_found) ∈ TB := tw_of 1108 (by decide +kernel) rfl
theorem tw1109 : (Jvm.Cond.selects "BitCongruencesModel" yX7_found yX7_found) ∈ TB := tw_of 1109 (by decide +kernel) rfl
set_option maxRecDepth 100000 in
theorem tw1110 : (Jvm.Cond.code yX7_found prog_9_method_69_code (5 : Nat) (Option.some Jvm.ClassFile.FieldType.int)) ∈ TB := tw_of 1110 rfl rfl
theorem tw1111 : (Jvm.Cond.methodLink "BitCongruencesLaw" (76 : Nat) yX7_sum) ∈ TB := tw_of 1111 (by decide +kernel) rfl
theorem tw1112 : (Jvm.Cond.instanceMethod yX7_sum) ∈ TB := tw_of 1112 (by decide +kernel) rfl
theorem tw1113 : (Jvm.Cond.selects "BitCongruencesModel" yX7_sum yX7_sum) ∈ TB := tw_of 1113 (by decide +kernel) rfl
set_option maxRecDepth 100000 in
theorem tw1114 : (Jvm.Cond.code yX7_sum prog_9_method_70_code (5 : Nat) (Option.some Jvm.ClassFile.FieldType.int)) ∈ TB := tw_of 1114 rfl rfl
theorem tw1115 : (Jvm.Cond.methodLink "BitCongruencesModel" (316 : Nat) yX7_gives) ∈ TB := tw_of 1115 (by decide +kernel) rfl
theorem tw1117 : (Jvm.Cond.instanceMethod yX7_gives) ∈ TB := tw_of 1117 (by decide +kernel) rfl
set_option maxRecDepth 100000 in
theorem tw1118 : (Jvm.Cond.code yX7_gives prog_9_method_71_code (5 : Nat) (Option.some Jvm.ClassFile.FieldType.int)) ∈ TB := tw_of 1118 rfl rfl
theorem tw1119 : (Jvm.Cond.methodLink "BitCongruencesModel" (319 : Nat) yX7_numbers) ∈ TB := tw_of 1119 (by decide +kernel) rfl
theorem tw1121 : (Jvm.Cond.instanceMethod yX7_numbers) ∈ TB := tw_of 1121 (by decide +kernel) rfl
set_option maxRecDepth 100000 in
theorem tw1122 : (Jvm.Cond.code yX7_numbers prog_9_method_72_code (5 : Nat) (Option.some Jvm.ClassFile.FieldType.int)) ∈ TB := tw_of 1122 rfl rfl
theorem tw1123 : (Jvm.Cond.methodLink "BitCongruencesLaw" (81 : Nat) yX7_put_) ∈ TB := tw_of 1123 (by decide +kernel) rfl
theorem tw1124 : (Jvm.Cond.instanceMethod yX7_put_) ∈ TB := tw_of 1124 (by decide +kernel) rfl
theorem tw1125 : (Jvm.Cond.selects "BitCongruencesModel" yX7_put_ yX7_put_) ∈ TB := tw_of 1125 (by decide +kernel) rfl
set_option maxRecDepth 100000 in
theorem tw1126 : (Jvm.Cond.code yX7_put_ prog_9_method_73_code (6 : Nat) (Option.some Jvm.ClassFile.FieldType.long)) ∈ TB := tw_of 1126 rfl rfl
theorem tw1127 : (Jvm.Cond.methodLink "BitCongruencesLaw" (85 : Nat) yX7_walk) ∈ TB := tw_of 1127 (by decide +kernel) rfl
theorem tw1128 : (Jvm.Cond.instanceMethod yX7_walk) ∈ TB := tw_of 1128 (by decide +kernel) rfl
theorem tw1129 : (Jvm.Cond.selects "BitCongruencesModel" yX7_walk yX7_walk) ∈ TB := tw_of 1129 (by decide +kernel) rfl
set_option maxRecDepth 100000 in
theorem tw1130 : (Jvm.Cond.code yX7_walk prog_9_method_74_code (5 : Nat) (Option.some Jvm.ClassFile.FieldType.int)) ∈ TB := tw_of 1130 rfl rfl
theorem tw1132 : (Jvm.Cond.methodLink "BitCongruencesModel" (330 : Nat) yX7_check) ∈ TB := tw_of 1132 (by decide +kernel) rfl
theorem tw1134 : (Jvm.Cond.instanceMethod yX7_check) ∈ TB := tw_of 1134 (by decide +kernel) rfl
set_option maxRecDepth 100000 in
theorem tw1135 : (Jvm.Cond.code yX7_check prog_9_method_75_code (3 : Nat) (Option.none : Option Jvm.ClassFile.FieldType)) ∈ TB := tw_of 1135 rfl rfl
theorem tw1136 : (Jvm.Cond.methodLink "BitCongruencesModel" (333 : Nat) yX7_line) ∈ TB := tw_of 1136 (by decide +kernel) rfl
theorem tw1138 : (Jvm.Cond.instanceMethod yX7_line) ∈ TB := tw_of 1138 (by decide +kernel) rfl
set_option maxRecDepth 100000 in
theorem tw1139 : (Jvm.Cond.code yX7_line prog_9_method_76_code (7 : Nat) (Option.some Jvm.ClassFile.FieldType.boolean)) ∈ TB := tw_of 1139 rfl rfl
theorem tw1140 : (Jvm.Cond.methodLink "BitCongruencesLaw" (90 : Nat) yX7_now) ∈ TB := tw_of 1140 (by decide +kernel) rfl
theorem tw1141 : (Jvm.Cond.instanceMethod yX7_now) ∈ TB := tw_of 1141 (by decide +kernel) rfl
theorem tw1142 : (Jvm.Cond.selects "BitCongruencesModel" yX7_now yX7_now) ∈ TB := tw_of 1142 (by decide +kernel) rfl
set_option maxRecDepth 100000 in
theorem tw1143 : (Jvm.Cond.code yX7_now prog_9_method_77_code (2 : Nat) (Option.some Jvm.ClassFile.FieldType.long)) ∈ TB := tw_of 1143 rfl rfl
theorem tw1144 : (Jvm.Cond.methodLink "BitCongruencesLaw" (94 : Nat) yX7_ran) ∈ TB := tw_of 1144 (by decide +kernel) rfl
theorem tw1145 : (Jvm.Cond.instanceMethod yX7_ran) ∈ TB := tw_of 1145 (by decide +kernel) rfl
theorem tw1146 : (Jvm.Cond.selects "BitCongruencesModel" yX7_ran yX7_ran) ∈ TB := tw_of 1146 (by decide +kernel) rfl
set_option maxRecDepth 100000 in
theorem tw1147 : (Jvm.Cond.code yX7_ran prog_9_method_78_code (2 : Nat) (Option.some Jvm.ClassFile.FieldType.int)) ∈ TB := tw_of 1147 rfl rfl
