theorem gw_X0 : GoodIn wsL_law wsX00 := goodIn_sub inlX0 (by decide +kernel)
theorem gw_X1 : GoodIn wsL_law wsX10 := goodIn_sub inlX1 (by decide +kernel)
theorem gw_X2 : GoodIn wsL_law wsX20 := goodIn_sub inlX2 (by decide +kernel)
theorem gw_X3 : GoodIn wsL_law wsX30 := goodIn_sub inlX3 (by decide +kernel)
theorem gw_X4 : GoodIn wsL_law wsX40 := goodIn_sub inlX4 (by decide +kernel)
theorem gw_X5 : GoodIn wsL_law wsX50 := goodIn_sub inlX5 (by decide +kernel)
theorem gw_X6 : GoodIn wsL_law wsX60 := goodIn_sub inlX6 (by decide +kernel)
theorem gw_X7 : GoodIn wsL_law wsX70 := goodIn_sub inlX7 (by decide +kernel)
theorem gw_X8 : GoodIn wsL_law wsX80 := goodIn_sub inlX8 (by decide +kernel)
set_option maxRecDepth 20000 in
theorem gh_X7_init : GoodIn wsL_law (.code yX7_init cX7_init 2 none :: wsX7_init_r1) := goodIn_r _ [8, 9, 10, 11, 12, 13, 14, 15, 16, 17, 18, 19, 20, 21, 22, 23, 24, 25, 26, 27, 28, 29, 30, 31, 32] (by decide +kernel) (by decide +kernel)
set_option maxRecDepth 20000 in
theorem gp_X7_init_r2 : GoodIn wsL_law wsX7_init_r2 := goodIn_r _ [33, 34, 35, 36, 37, 38, 39, 40, 41, 42, 43, 44, 45, 46, 47, 48, 49, 50, 51, 52, 53, 54, 55, 56] (by decide +kernel) (by decide +kernel)
set_option maxRecDepth 20000 in
theorem gp_X7_init_r3 : GoodIn wsL_law wsX7_init_r3 := goodIn_r _ [57, 58, 59, 60, 61, 62, 63, 64, 65, 66, 67, 68, 69, 70, 71, 72, 73, 74, 75, 76, 77, 78, 79, 80] (by decide +kernel) (by decide +kernel)
set_option maxRecDepth 20000 in
theorem gp_X7_init_r4 : GoodIn wsL_law wsX7_init_r4 := goodIn_r _ [81, 82, 83, 84, 85, 86, 87] (by decide +kernel) (by decide +kernel)
set_option maxRecDepth 20000 in
theorem ggL_law_X7_init : GoodIn wsL_law wsX7_init := by unfold wsX7_init; exact (goodIn_ca (goodIn_ca (goodIn_ca (goodIn_ca (goodIn_ca (goodIn_ca (goodIn_ca (goodIn_ca (goodIn_ca gh_X7_init (goodIn_app gp_X7_init_r2 (goodIn_app gp_X7_init_r3 gp_X7_init_r4))) gw_X3) gw_X7) gw_X6) gw_X0) gw_X5) gw_X1) gw_X4) gw_X2)
set_option maxRecDepth 20000 in
theorem gL_law_X7_init : GoodIn wsL_law (wsX7_init) := ggL_law_X7_init
set_option maxRecDepth 20000 in
theorem gh_X8_init : GoodIn wsL_law (.code yX8_init cX8_init 1 none :: [.methodLink RX8 1 objectInit, .instanceMethod objectInit, .code objectInit ⟨#[0xb1]⟩ 1 none, .arrayClass .int, .fieldLink RX8 7 "VectorRoundsModel" "s" "[I", .fieldLink RX8 13 "VectorRoundsModel" "thought" "[I", .fieldLink RX8 16 "VectorRoundsModel" "aside" "[I", .fieldLink RX8 19 "VectorRoundsModel" "toWhom" "[I", .fieldLink RX8 22 "VectorRoundsModel" "byWhom" "[I", .fieldLink RX8 25 "VectorRoundsModel" "byCost" "[I", .fieldLink RX8 28 "VectorRoundsModel" "ofWhom" "[I", .fieldLink RX8 31 "VectorRoundsModel" "metrics" "[I", .fieldLink RX8 34 "VectorRoundsModel" "sequences" "[I", .fieldLink RX8 37 "VectorRoundsModel" "wasKnown" "[I", .fieldLink RX8 40 "VectorRoundsModel" "was" "[I", .fieldLink RX8 43 "VectorRoundsModel" "way" "[I", .fieldLink RX8 46 "VectorRoundsModel" "far" "[I", .fieldLink RX8 49 "VectorRoundsModel" "tape" "[I", .fieldLink RX8 52 "VectorRoundsModel" "lineKind" "[I", .fieldLink RX8 55 "VectorRoundsModel" "lineNumber" "[I", .fieldLink RX8 58 "VectorRoundsModel" "kept" "[I", .fieldLink RX8 61 "VectorRoundsModel" "holds" "[I", .fieldLink RX8 64 "VectorRoundsModel" "element" "[I"]) := goodIn_r _ [90, 91, 10, 11, 51, 92, 93, 94, 95, 96, 97, 98, 99, 100, 101, 102, 103, 104, 105, 106, 107, 108, 109, 110] (by decide +kernel) (by decide +kernel)
set_option maxRecDepth 20000 in
theorem ggL_law_X8_init : GoodIn wsL_law wsX8_init := by unfold wsX8_init; exact (goodIn_ca gh_X8_init gw_X8)
set_option maxRecDepth 20000 in
theorem gL_law_X8_init : GoodIn wsL_law (wsX8_init) := ggL_law_X8_init
set_option maxRecDepth 20000 in
theorem gh_X7_router : GoodIn wsL_law (.code yX7_router cX7_router 1 (some .int) :: [.fieldLink RX7 12 "VectorRounds" "now" "LVectorRounds$Network;", .fieldLink RX7 53 "VectorRounds$Network" "routers" "I", .methodLink RX7 57 yX3_addRouter, .instanceMethod yX3_addRouter, .selects RX3 yX3_addRouter yX3_addRouter, .initialized RX3, .code yX3_addRouter cX3_addRouter 2 (some .int), .fieldLink RX3 35 "VectorRounds$Network" "routers" "I", .fieldLink RX3 12 "VectorRounds$Network" "tables" "LVectorRounds$Tables;", .methodLink RX3 54 yX4_enter, .instanceMethod yX4_enter, .selects RX4 yX4_enter yX4_enter, .initialized RX4, .code yX4_enter cX4_enter 8 none, .fieldLink RX4 27 "VectorRounds$Tables" "size" "[I", .fieldLink RX4 9 "VectorRounds$Tables" "metric" "[I", .fieldLink RX4 15 "VectorRounds$Tables" "via" "[I", .fieldLink RX4 18 "VectorRounds$Tables" "sequence" "[I", .fieldLink RX4 21 "VectorRounds$Tables" "held" "[I", .fieldLink RX4 24 "VectorRounds$Tables" "order" "[I"]) := goodIn_r _ [114, 15, 115, 116, 117, 118, 14, 119, 120, 41, 121, 122, 123, 40, 124, 57, 52, 53, 54, 55, 56] (by decide +kernel) (by decide +kernel)
set_option maxRecDepth 20000 in
theorem ggL_law_X7_router : GoodIn wsL_law wsX7_router := by unfold wsX7_router; exact (goodIn_ca (goodIn_ca (goodIn_ca gh_X7_router gw_X7) gw_X3) gw_X4)
set_option maxRecDepth 20000 in
theorem gL_law_X7_router : GoodIn wsL_law (wsV RL 13 RX7 yX7_router wsX7_router) := goodIn_app (goodIn_of _ (by decide +kernel)) ggL_law_X7_router
set_option maxRecDepth 20000 in
theorem gh_X8_router : GoodIn wsL_law (.code yX8_router cX8_router 2 (some .int) :: [.fieldLink RX8 7 "VectorRoundsModel" "s" "[I", .methodLink RX8 79 yX8_know, .instanceMethod yX8_know, .selects RX8 yX8_know yX8_know, .initialized RX8, .code yX8_know cX8_know 7 none]) := goodIn_r _ [128, 92, 129, 130, 131, 5, 132] (by decide +kernel) (by decide +kernel)
set_option maxRecDepth 20000 in
theorem ggL_law_X8_router : GoodIn wsL_law wsX8_router := by unfold wsX8_router; exact (goodIn_ca gh_X8_router gw_X8)
set_option maxRecDepth 20000 in
theorem gL_law_X8_router : GoodIn wsL_law (wsV RL 17 RX8 yX8_router wsX8_router) := goodIn_app (goodIn_of _ (by decide +kernel)) ggL_law_X8_router
set_option maxRecDepth 20000 in
theorem gh_X7_link : GoodIn wsL_law (.code yX7_link cX7_link 4 (some .int) :: wsX7_link_r1) := goodIn_r _ [136, 15, 137, 138, 139, 140, 141, 2, 142, 115, 143, 144, 145, 45, 146, 69, 147, 148, 149, 150, 151, 65, 152, 153, 154] (by decide +kernel) (by decide +kernel)
set_option maxRecDepth 20000 in
theorem gp_X7_link_r2 : GoodIn wsL_law wsX7_link_r2 := goodIn_r _ [155, 66, 156, 157, 158, 67, 68] (by decide +kernel) (by decide +kernel)
set_option maxRecDepth 20000 in
theorem ggL_law_X7_link : GoodIn wsL_law wsX7_link := by unfold wsX7_link; exact (goodIn_ca (goodIn_ca (goodIn_ca (goodIn_ca gh_X7_link gp_X7_link_r2) gw_X7) gw_X3) gw_X2)
set_option maxRecDepth 20000 in
theorem gL_law_X7_link : GoodIn wsL_law (wsV RL 18 RX7 yX7_link wsX7_link) := goodIn_app (goodIn_of _ (by decide +kernel)) ggL_law_X7_link
set_option maxRecDepth 20000 in
theorem gh_X8_link : GoodIn wsL_law (.code yX8_link cX8_link 4 (some .int) :: [.fieldLink RX8 7 "VectorRoundsModel" "s" "[I", .methodLink RX8 92 yX8_isRouter, .instanceMethod yX8_isRouter, .selects RX8 yX8_isRouter yX8_isRouter, .initialized RX8, .code yX8_isRouter cX8_isRouter 2 (some .boolean), .methodLink RX8 71 yX8_in, .static yX8_in, .code yX8_in cX8_in 3 (some .boolean), .methodLink RX8 96 yX8_linkOf, .instanceMethod yX8_linkOf, .selects RX8 yX8_linkOf yX8_linkOf, .code yX8_linkOf cX8_linkOf 4 (some .int), .methodLink RX8 83 Lib.Math.min.name, .static Lib.Math.min.name, .initialized "java/lang/Math", .code Lib.Math.min.name Lib.Math.min.code 2 (some .int), .methodLink RX8 89 Lib.Math.max.name, .static Lib.Math.max.name, .code Lib.Math.max.name Lib.Math.max.code 2 (some .int), .methodLink RX8 99 yX8_addLink, .instanceMethod yX8_addLink, .selects RX8 yX8_addLink yX8_addLink, .code yX8_addLink cX8_addLink 5 none]) := goodIn_r _ [162, 92, 163, 164, 165, 5, 166, 167, 168, 169, 170, 171, 172, 173, 174, 153, 154, 155, 175, 157, 158, 176, 177, 178, 179] (by decide +kernel) (by decide +kernel)
set_option maxRecDepth 20000 in
theorem ggL_law_X8_link : GoodIn wsL_law wsX8_link := by unfold wsX8_link; exact (goodIn_ca gh_X8_link gw_X8)
set_option maxRecDepth 20000 in
theorem gL_law_X8_link : GoodIn wsL_law (wsV RL 22 RX8 yX8_link wsX8_link) := goodIn_app (goodIn_of _ (by decide +kernel)) ggL_law_X8_link
set_option maxRecDepth 20000 in
theorem gh_X7_turn : GoodIn wsL_law (.code yX7_turn cX7_turn 3 (some .int) :: wsX7_turn_r1) := goodIn_r _ [183, 15, 137, 184, 185, 186, 187, 2, 188, 138, 189, 190, 191, 14, 192, 46, 193, 194, 195, 196, 197, 198, 199, 120, 41] (by decide +kernel) (by decide +kernel)
set_option maxRecDepth 20000 in
theorem gp_X7_turn_r2 : GoodIn wsL_law wsX7_turn_r2 := goodIn_r _ [200, 201, 202, 203, 204, 205, 40, 206, 52, 207, 208, 209, 210, 211, 212, 213, 214] (by decide +kernel) (by decide +kernel)
set_option maxRecDepth 20000 in
theorem ggL_law_X7_turn : GoodIn wsL_law wsX7_turn := by unfold wsX7_turn; exact (goodIn_ca (goodIn_ca (goodIn_ca (goodIn_ca (goodIn_ca gh_X7_turn gp_X7_turn_r2) gw_X7) gw_X3) gw_X2) gw_X4)
set_option maxRecDepth 20000 in
theorem gL_law_X7_turn : GoodIn wsL_law (wsV RL 23 RX7 yX7_turn wsX7_turn) := goodIn_app (goodIn_of _ (by decide +kernel)) ggL_law_X7_turn
set_option maxRecDepth 20000 in
theorem gh_X8_turn : GoodIn wsL_law (.code yX8_turn cX8_turn 3 (some .int) :: [.fieldLink RX8 7 "VectorRoundsModel" "s" "[I", .methodLink RX8 107 yX8_isLink, .instanceMethod yX8_isLink, .selects RX8 yX8_isLink yX8_isLink, .initialized RX8, .code yX8_isLink cX8_isLink 2 (some .boolean), .methodLink RX8 71 yX8_in, .static yX8_in, .code yX8_in cX8_in 3 (some .boolean), .methodLink RX8 110 yX8_cut, .instanceMethod yX8_cut, .selects RX8 yX8_cut yX8_cut, .code yX8_cut cX8_cut 2 none, .methodLink RX8 103 yX8_lose, .instanceMethod yX8_lose, .selects RX8 yX8_lose yX8_lose, .code yX8_lose cX8_lose 4 none]) := goodIn_r _ [218, 92, 219, 220, 221, 5, 222, 167, 168, 169, 223, 224, 225, 226, 227, 228, 229, 230] (by decide +kernel) (by decide +kernel)
set_option maxRecDepth 20000 in
theorem ggL_law_X8_turn : GoodIn wsL_law wsX8_turn := by unfold wsX8_turn; exact (goodIn_ca gh_X8_turn gw_X8)
set_option maxRecDepth 20000 in
theorem gL_law_X8_turn : GoodIn wsL_law (wsV RL 27 RX8 yX8_turn wsX8_turn) := goodIn_app (goodIn_of _ (by decide +kernel)) ggL_law_X8_turn
set_option maxRecDepth 20000 in
theorem gh_X7_cost : GoodIn wsL_law (.code yX7_cost cX7_cost 4 (some .int) :: [.fieldLink RX7 12 "VectorRounds" "now" "LVectorRounds$Network;", .fieldLink RX7 65 "VectorRounds$Network" "links" "LVectorRounds$Links;", .fieldLink RX7 93 "VectorRounds$Links" "price" "[I", .methodLink RX7 82 yX7_noLink, .instanceMethod yX7_noLink, .selects RX7 yX7_noLink yX7_noLink, .initialized RX7, .code yX7_noLink cX7_noLink 2 (some .boolean), .fieldLink RX7 75 "VectorRounds$Links" "size" "I"]) := goodIn_r _ [234, 15, 137, 235, 185, 186, 187, 2, 188, 138] (by decide +kernel) (by decide +kernel)
set_option maxRecDepth 20000 in
theorem ggL_law_X7_cost : GoodIn wsL_law wsX7_cost := by unfold wsX7_cost; exact (goodIn_ca (goodIn_ca (goodIn_ca gh_X7_cost gw_X7) gw_X3) gw_X2)
set_option maxRecDepth 20000 in
theorem gL_law_X7_cost : GoodIn wsL_law (wsV RL 28 RX7 yX7_cost wsX7_cost) := goodIn_app (goodIn_of _ (by decide +kernel)) ggL_law_X7_cost
set_option maxRecDepth 20000 in
theorem gh_X8_cost : GoodIn wsL_law (.code yX8_cost cX8_cost 4 (some .int) :: [.fieldLink RX8 7 "VectorRoundsModel" "s" "[I", .methodLink RX8 107 yX8_isLink, .instanceMethod yX8_isLink, .selects RX8 yX8_isLink yX8_isLink, .initialized RX8, .code yX8_isLink cX8_isLink 2 (some .boolean), .methodLink RX8 71 yX8_in, .static yX8_in, .code yX8_in cX8_in 3 (some .boolean)]) := goodIn_r _ [239, 92, 219, 220, 221, 5, 222, 167, 168, 169] (by decide +kernel) (by decide +kernel)
set_option maxRecDepth 20000 in
theorem ggL_law_X8_cost : GoodIn wsL_law wsX8_cost := by unfold wsX8_cost; exact (goodIn_ca gh_X8_cost gw_X8)
set_option maxRecDepth 20000 in
theorem gL_law_X8_cost : GoodIn wsL_law (wsV RL 31 RX8 yX8_cost wsX8_cost) := goodIn_app (goodIn_of _ (by decide +kernel)) ggL_law_X8_cost
set_option maxRecDepth 20000 in
theorem ggL_law_X7_rule : GoodIn wsL_law wsX7_rule := goodIn_r _ [243, 15, 244, 245, 246, 247, 248, 2, 249, 779, 780, 781, 782, 783, 784, 785, 786, 787, 814, 815, 816, 817, 818, 819, 820, 821, 822] (by decide +kernel) (by decide +kernel)
set_option maxRecDepth 20000 in
theorem gL_law_X7_rule : GoodIn wsL_law (wsV RL 32 RX7 yX7_rule wsX7_rule) := goodIn_app (goodIn_of _ (by decide +kernel)) ggL_law_X7_rule
set_option maxRecDepth 20000 in
theorem gh_X8_rule : GoodIn wsL_law (.code yX8_rule cX8_rule 4 (some .int) :: [.fieldLink RX8 7 "VectorRoundsModel" "s" "[I", .methodLink RX8 71 yX8_in, .static yX8_in, .initialized RX8, .code yX8_in cX8_in 3 (some .boolean)]) := goodIn_r _ [253, 92, 167, 168, 5, 169] (by decide +kernel) (by decide +kernel)
set_option maxRecDepth 20000 in
theorem ggL_law_X8_rule : GoodIn wsL_law wsX8_rule := by unfold wsX8_rule; exact (goodIn_ca gh_X8_rule gw_X8)
set_option maxRecDepth 20000 in
theorem gL_law_X8_rule : GoodIn wsL_law (wsV RL 35 RX8 yX8_rule wsX8_rule) := goodIn_app (goodIn_of _ (by decide +kernel)) ggL_law_X8_rule
set_option maxRecDepth 20000 in
theorem gh_X7_of : GoodIn wsL_law (.code yX7_of cX7_of 3 (some .int) :: [.fieldLink RX7 12 "VectorRounds" "now" "LVectorRounds$Network;", .fieldLink RX7 65 "VectorRounds$Network" "links" "LVectorRounds$Links;", .fieldLink RX7 109 "VectorRounds$Links" "lesser" "[I", .fieldLink RX7 112 "VectorRounds$Links" "greater" "[I", .fieldLink RX7 93 "VectorRounds$Links" "price" "[I", .fieldLink RX7 85 "VectorRounds$Links" "up" "[I", .methodLink RX7 82 yX7_noLink, .instanceMethod yX7_noLink, .selects RX7 yX7_noLink yX7_noLink, .initialized RX7, .code yX7_noLink cX7_noLink 2 (some .boolean), .fieldLink RX7 75 "VectorRounds$Links" "size" "I"]) := goodIn_r _ [257, 15, 137, 258, 259, 235, 184, 185, 186, 187, 2, 188, 138] (by decide +kernel) (by decide +kernel)
set_option maxRecDepth 20000 in
theorem ggL_law_X7_of : GoodIn wsL_law wsX7_of := by unfold wsX7_of; exact (goodIn_ca (goodIn_ca (goodIn_ca gh_X7_of gw_X7) gw_X3) gw_X2)
set_option maxRecDepth 20000 in
theorem gL_law_X7_of : GoodIn wsL_law (wsV RL 36 RX7 yX7_of wsX7_of) := goodIn_app (goodIn_of _ (by decide +kernel)) ggL_law_X7_of
set_option maxRecDepth 20000 in
theorem gh_X8_of : GoodIn wsL_law (.code yX8_of cX8_of 3 (some .int) :: [.fieldLink RX8 7 "VectorRoundsModel" "s" "[I", .methodLink RX8 107 yX8_isLink, .instanceMethod yX8_isLink, .selects RX8 yX8_isLink yX8_isLink, .initialized RX8, .code yX8_isLink cX8_isLink 2 (some .boolean), .methodLink RX8 71 yX8_in, .static yX8_in, .code yX8_in cX8_in 3 (some .boolean)]) := goodIn_r _ [263, 92, 219, 220, 221, 5, 222, 167, 168, 169] (by decide +kernel) (by decide +kernel)
set_option maxRecDepth 20000 in
theorem ggL_law_X8_of : GoodIn wsL_law wsX8_of := by unfold wsX8_of; exact (goodIn_ca gh_X8_of gw_X8)
set_option maxRecDepth 20000 in
theorem gL_law_X8_of : GoodIn wsL_law (wsV RL 39 RX8 yX8_of wsX8_of) := goodIn_app (goodIn_of _ (by decide +kernel)) ggL_law_X8_of
set_option maxRecDepth 20000 in
theorem gh_X7_between : GoodIn wsL_law (.code yX7_between cX7_between 4 (some .int) :: [.fieldLink RX7 12 "VectorRounds" "now" "LVectorRounds$Network;", .fieldLink RX7 65 "VectorRounds$Network" "links" "LVectorRounds$Links;", .methodLink RX7 61 yX7_noRouter, .instanceMethod yX7_noRouter, .selects RX7 yX7_noRouter yX7_noRouter, .initialized RX7, .code yX7_noRouter cX7_noRouter 2 (some .boolean), .fieldLink RX7 53 "VectorRounds$Network" "routers" "I", .methodLink RX7 69 yX2_joining, .instanceMethod yX2_joining, .selects RX2 yX2_joining yX2_joining, .initialized RX2, .code yX2_joining cX2_joining 3 (some .int), .fieldLink RX2 24 "VectorRounds$Links" "joint" "[I"]) := goodIn_r _ [267, 15, 137, 139, 140, 141, 2, 142, 115, 143, 144, 145, 45, 146, 69] (by decide +kernel) (by decide +kernel)
set_option maxRecDepth 20000 in
theorem ggL_law_X7_between : GoodIn wsL_law wsX7_between := by unfold wsX7_between; exact (goodIn_ca (goodIn_ca (goodIn_ca gh_X7_between gw_X7) gw_X3) gw_X2)
set_option maxRecDepth 20000 in
theorem gL_law_X7_between : GoodIn wsL_law (wsV RL 40 RX7 yX7_between wsX7_between) := goodIn_app (goodIn_of _ (by decide +kernel)) ggL_law_X7_between
set_option maxRecDepth 20000 in
theorem gh_X8_between : GoodIn wsL_law (.code yX8_between cX8_between 4 (some .int) :: [.methodLink RX8 92 yX8_isRouter, .instanceMethod yX8_isRouter, .selects RX8 yX8_isRouter yX8_isRouter, .initialized RX8, .code yX8_isRouter cX8_isRouter 2 (some .boolean), .fieldLink RX8 7 "VectorRoundsModel" "s" "[I", .methodLink RX8 71 yX8_in, .static yX8_in, .code yX8_in cX8_in 3 (some .boolean), .methodLink RX8 96 yX8_linkOf, .instanceMethod yX8_linkOf, .selects RX8 yX8_linkOf yX8_linkOf, .code yX8_linkOf cX8_linkOf 4 (some .int), .methodLink RX8 83 Lib.Math.min.name, .static Lib.Math.min.name, .initialized "java/lang/Math", .code Lib.Math.min.name Lib.Math.min.code 2 (some .int), .methodLink RX8 89 Lib.Math.max.name, .static Lib.Math.max.name, .code Lib.Math.max.name Lib.Math.max.code 2 (some .int)]) := goodIn_r _ [271, 163, 164, 165, 5, 166, 92, 167, 168, 169, 170, 171, 172, 173, 174, 153, 154, 155, 175, 157, 158] (by decide +kernel) (by decide +kernel)
set_option maxRecDepth 20000 in
theorem ggL_law_X8_between : GoodIn wsL_law wsX8_between := by unfold wsX8_between; exact (goodIn_ca gh_X8_between gw_X8)
set_option maxRecDepth 20000 in
theorem gL_law_X8_between : GoodIn wsL_law (wsV RL 43 RX8 yX8_between wsX8_between) := goodIn_app (goodIn_of _ (by decide +kernel)) ggL_law_X8_between
set_option maxRecDepth 20000 in
theorem gh_X7_rounds : GoodIn wsL_law (.code yX7_rounds cX7_rounds 4 (some .int) :: wsX7_rounds_r1) := goodIn_r _ [275, 15, 276, 277, 278, 14, 279, 213, 120, 41, 201, 202, 42, 46, 193, 280, 281, 282, 283, 40, 284, 52, 285, 286, 287] (by decide +kernel) (by decide +kernel)
set_option maxRecDepth 20000 in
theorem gp_X7_rounds_r2 : GoodIn wsL_law wsX7_rounds_r2 := goodIn_r _ [288, 53, 54, 55, 56, 57, 289, 144, 145, 45, 146, 69, 290, 291, 292, 293, 294, 295, 211, 296, 200, 297, 298, 153] (by decide +kernel) (by decide +kernel)
set_option maxRecDepth 20000 in
theorem gp_X7_rounds_r3 : GoodIn wsL_law wsX7_rounds_r3 := goodIn_r _ [154, 155, 299, 300, 301, 302, 212, 303, 304, 305, 306, 121, 122, 123, 124, 207, 208, 209, 210, 214, 307, 308, 309, 310] (by decide +kernel) (by decide +kernel)
