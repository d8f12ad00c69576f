def hhL_room : Hh := [(0, 6, 9, 13), (0, 6, 12, 15)]
def hhL_lesson : Hh := [(0, 18, 21, 13), (0, 18, 25, 15)]
def hhL_block : Hh := [(0, 9, 12, 13), (0, 9, 16, 15)]
def hhL_place : Hh := [(0, 12, 15, 13), (0, 12, 19, 15)]
def hhL_drop : Hh := [(0, 10, 13, 13), (0, 10, 17, 15)]
def hhL_fill : Hh := [(0, 9, 12, 13)]
def hhL_period : Hh := [(0, 10, 13, 13)]
def hhL_roomOf : Hh := [(0, 10, 13, 13)]
def hhL_improve : Hh := [(0, 9, 12, 13)]
def hhL_absent : Hh := [(0, 10, 13, 13)]
def hhL_substitute : Hh := [(0, 9, 12, 52)]
def hhL_undo : Hh := [(0, 8, 11, 15)]
def hhL_page : Hh := [(0, 12, 15, 13), (0, 12, 19, 52)]
theorem lm_L_7 : wOk (.methodLink RL 7 yX5_room) = true := by decide +kernel
theorem wi_X5_room : wOk (.instanceMethod yX5_room) = true := by decide +kernel
theorem wv_X5_room : wOk (.selects RX5 yX5_room yX5_room) = true := by decide +kernel
theorem mk_X5_room : mOk (yX5_room, cX5_room, 3, none) 2 = true := by decide +kernel
theorem lm_L_17 : wOk (.methodLink RL 17 yX5_lesson) = true := by decide +kernel
theorem wi_X5_lesson : wOk (.instanceMethod yX5_lesson) = true := by decide +kernel
theorem wv_X5_lesson : wOk (.selects RX5 yX5_lesson yX5_lesson) = true := by decide +kernel
theorem mk_X5_lesson : mOk (yX5_lesson, cX5_lesson, 7, (some .int)) 6 = true := by decide +kernel
theorem lm_L_21 : wOk (.methodLink RL 21 yX5_block) = true := by decide +kernel
theorem wi_X5_block : wOk (.instanceMethod yX5_block) = true := by decide +kernel
theorem wv_X5_block : wOk (.selects RX5 yX5_block yX5_block) = true := by decide +kernel
theorem mk_X5_block : mOk (yX5_block, cX5_block, 7, none) 4 = true := by decide +kernel
theorem lm_L_25 : wOk (.methodLink RL 25 yX5_place) = true := by decide +kernel
theorem wi_X5_place : wOk (.instanceMethod yX5_place) = true := by decide +kernel
theorem wv_X5_place : wOk (.selects RX5 yX5_place yX5_place) = true := by decide +kernel
theorem mk_X5_place : mOk (yX5_place, cX5_place, 6, (some .int)) 3 = true := by decide +kernel
theorem lm_L_29 : wOk (.methodLink RL 29 yX5_drop) = true := by decide +kernel
theorem wi_X5_drop : wOk (.instanceMethod yX5_drop) = true := by decide +kernel
theorem wv_X5_drop : wOk (.selects RX5 yX5_drop yX5_drop) = true := by decide +kernel
theorem mk_X5_drop : mOk (yX5_drop, cX5_drop, 5, (some .int)) 2 = true := by decide +kernel
theorem lm_L_33 : wOk (.methodLink RL 33 yX5_fill) = true := by decide +kernel
theorem wi_X5_fill : wOk (.instanceMethod yX5_fill) = true := by decide +kernel
theorem wv_X5_fill : wOk (.selects RX5 yX5_fill yX5_fill) = true := by decide +kernel
theorem mk_X5_fill : mOk (yX5_fill, cX5_fill, 3, (some .int)) 1 = true := by decide +kernel
theorem lm_L_37 : wOk (.methodLink RL 37 yX5_period) = true := by decide +kernel
theorem wi_X5_period : wOk (.instanceMethod yX5_period) = true := by decide +kernel
theorem wv_X5_period : wOk (.selects RX5 yX5_period yX5_period) = true := by decide +kernel
theorem mk_X5_period : mOk (yX5_period, cX5_period, 3, (some .int)) 2 = true := by decide +kernel
theorem lm_L_40 : wOk (.methodLink RL 40 yX5_roomOf) = true := by decide +kernel
theorem wi_X5_roomOf : wOk (.instanceMethod yX5_roomOf) = true := by decide +kernel
theorem wv_X5_roomOf : wOk (.selects RX5 yX5_roomOf yX5_roomOf) = true := by decide +kernel
theorem mk_X5_roomOf : mOk (yX5_roomOf, cX5_roomOf, 3, (some .int)) 2 = true := by decide +kernel
theorem lm_L_43 : wOk (.methodLink RL 43 yX5_improve) = true := by decide +kernel
theorem wi_X5_improve : wOk (.instanceMethod yX5_improve) = true := by decide +kernel
theorem wv_X5_improve : wOk (.selects RX5 yX5_improve yX5_improve) = true := by decide +kernel
theorem mk_X5_improve : mOk (yX5_improve, cX5_improve, 4, (some .int)) 1 = true := by decide +kernel
theorem lm_L_46 : wOk (.methodLink RL 46 yX5_absent) = true := by decide +kernel
theorem wi_X5_absent : wOk (.instanceMethod yX5_absent) = true := by decide +kernel
theorem wv_X5_absent : wOk (.selects RX5 yX5_absent yX5_absent) = true := by decide +kernel
theorem mk_X5_absent : mOk (yX5_absent, cX5_absent, 3, (some .int)) 2 = true := by decide +kernel
theorem lm_L_49 : wOk (.methodLink RL 49 yX5_substitute) = true := by decide +kernel
theorem wi_X5_substitute : wOk (.instanceMethod yX5_substitute) = true := by decide +kernel
theorem wv_X5_substitute : wOk (.selects RX5 yX5_substitute yX5_substitute) = true := by decide +kernel
theorem mk_X5_substitute : mOk (yX5_substitute, cX5_substitute, 2, (some .int)) 1 = true := by decide +kernel
theorem lm_L_54 : wOk (.methodLink RL 54 yX5_undo) = true := by decide +kernel
theorem wi_X5_undo : wOk (.instanceMethod yX5_undo) = true := by decide +kernel
theorem wv_X5_undo : wOk (.selects RX5 yX5_undo yX5_undo) = true := by decide +kernel
theorem mk_X5_undo : mOk (yX5_undo, cX5_undo, 1, (some .int)) 0 = true := by decide +kernel
theorem lm_L_58 : wOk (.methodLink RL 58 yX5_page) = true := by decide +kernel
theorem wi_X5_page : wOk (.instanceMethod yX5_page) = true := by decide +kernel
theorem wv_X5_page : wOk (.selects RX5 yX5_page yX5_page) = true := by decide +kernel
theorem mk_X5_page : mOk (yX5_page, cX5_page, 6, (some .int)) 3 = true := by decide +kernel
theorem mk_L_cell : mOk (yL_cell, cL_cell, 2, (some .int)) 2 = true := by decide +kernel
theorem lm_L_75 : wOk (.methodLink RL 75 yX6_room) = true := by decide +kernel
theorem wi_X6_room : wOk (.instanceMethod yX6_room) = true := by decide +kernel
theorem wv_X6_room : wOk (.selects RX6 yX6_room yX6_room) = true := by decide +kernel
theorem mk_X6_room : mOk (yX6_room, cX6_room, 6, none) 2 = true := by decide +kernel
theorem lm_L_76 : wOk (.methodLink RL 76 yX6_thrown) = true := by decide +kernel
theorem wi_X6_thrown : wOk (.instanceMethod yX6_thrown) = true := by decide +kernel
theorem wv_X6_thrown : wOk (.selects RX6 yX6_thrown yX6_thrown) = true := by decide +kernel
theorem mk_X6_thrown : mOk (yX6_thrown, cX6_thrown, 1, (some .int)) 0 = true := by decide +kernel
theorem lm_L_82 : wOk (.methodLink RL 82 yX6_lesson) = true := by decide +kernel
theorem wi_X6_lesson : wOk (.instanceMethod yX6_lesson) = true := by decide +kernel
theorem wv_X6_lesson : wOk (.selects RX6 yX6_lesson yX6_lesson) = true := by decide +kernel
theorem mk_X6_lesson : mOk (yX6_lesson, cX6_lesson, 8, (some .int)) 6 = true := by decide +kernel
theorem lm_L_86 : wOk (.methodLink RL 86 yX6_block) = true := by decide +kernel
theorem wi_X6_block : wOk (.instanceMethod yX6_block) = true := by decide +kernel
theorem wv_X6_block : wOk (.selects RX6 yX6_block yX6_block) = true := by decide +kernel
theorem mk_X6_block : mOk (yX6_block, cX6_block, 6, none) 4 = true := by decide +kernel
theorem lm_L_90 : wOk (.methodLink RL 90 yX6_place) = true := by decide +kernel
theorem wi_X6_place : wOk (.instanceMethod yX6_place) = true := by decide +kernel
theorem wv_X6_place : wOk (.selects RX6 yX6_place yX6_place) = true := by decide +kernel
theorem mk_X6_place : mOk (yX6_place, cX6_place, 6, (some .int)) 3 = true := by decide +kernel
theorem lm_L_94 : wOk (.methodLink RL 94 yX6_drop) = true := by decide +kernel
theorem wi_X6_drop : wOk (.instanceMethod yX6_drop) = true := by decide +kernel
theorem wv_X6_drop : wOk (.selects RX6 yX6_drop yX6_drop) = true := by decide +kernel
theorem mk_X6_drop : mOk (yX6_drop, cX6_drop, 5, (some .int)) 2 = true := by decide +kernel
theorem lm_L_98 : wOk (.methodLink RL 98 yX6_fill) = true := by decide +kernel
theorem wi_X6_fill : wOk (.instanceMethod yX6_fill) = true := by decide +kernel
theorem wv_X6_fill : wOk (.selects RX6 yX6_fill yX6_fill) = true := by decide +kernel
theorem mk_X6_fill : mOk (yX6_fill, cX6_fill, 9, (some .int)) 1 = true := by decide +kernel
theorem lm_L_99 : wOk (.methodLink RL 99 yX5_tries) = true := by decide +kernel
theorem wi_X5_tries : wOk (.instanceMethod yX5_tries) = true := by decide +kernel
theorem wv_X5_tries : wOk (.selects RX5 yX5_tries yX5_tries) = true := by decide +kernel
theorem mk_X5_tries : mOk (yX5_tries, cX5_tries, 1, (some .int)) 0 = true := by decide +kernel
theorem lm_L_102 : wOk (.methodLink RL 102 yX6_tries) = true := by decide +kernel
theorem wi_X6_tries : wOk (.instanceMethod yX6_tries) = true := by decide +kernel
theorem wv_X6_tries : wOk (.selects RX6 yX6_tries yX6_tries) = true := by decide +kernel
theorem mk_X6_tries : mOk (yX6_tries, cX6_tries, 1, (some .int)) 0 = true := by decide +kernel
theorem lm_L_105 : wOk (.methodLink RL 105 yX6_period) = true := by decide +kernel
theorem wi_X6_period : wOk (.instanceMethod yX6_period) = true := by decide +kernel
theorem wv_X6_period : wOk (.selects RX6 yX6_period yX6_period) = true := by decide +kernel
theorem mk_X6_period : mOk (yX6_period, cX6_period, 3, (some .int)) 2 = true := by decide +kernel
theorem lm_L_108 : wOk (.methodLink RL 108 yX6_roomOf) = true := by decide +kernel
theorem wi_X6_roomOf : wOk (.instanceMethod yX6_roomOf) = true := by decide +kernel
theorem wv_X6_roomOf : wOk (.selects RX6 yX6_roomOf yX6_roomOf) = true := by decide +kernel
theorem mk_X6_roomOf : mOk (yX6_roomOf, cX6_roomOf, 3, (some .int)) 2 = true := by decide +kernel
theorem lm_L_109 : wOk (.methodLink RL 109 yX5_penalty) = true := by decide +kernel
theorem wi_X5_penalty : wOk (.instanceMethod yX5_penalty) = true := by decide +kernel
theorem wv_X5_penalty : wOk (.selects RX5 yX5_penalty yX5_penalty) = true := by decide +kernel
theorem mk_X5_penalty : mOk (yX5_penalty, cX5_penalty, 1, (some .int)) 0 = true := by decide +kernel
theorem lm_L_112 : wOk (.methodLink RL 112 yX6_penalty) = true := by decide +kernel
theorem wi_X6_penalty : wOk (.instanceMethod yX6_penalty) = true := by decide +kernel
theorem wv_X6_penalty : wOk (.selects RX6 yX6_penalty yX6_penalty) = true := by decide +kernel
theorem mk_X6_penalty : mOk (yX6_penalty, cX6_penalty, 1, (some .int)) 0 = true := by decide +kernel
theorem lm_L_115 : wOk (.methodLink RL 115 yX6_improve) = true := by decide +kernel
theorem wi_X6_improve : wOk (.instanceMethod yX6_improve) = true := by decide +kernel
theorem wv_X6_improve : wOk (.selects RX6 yX6_improve yX6_improve) = true := by decide +kernel
theorem mk_X6_improve : mOk (yX6_improve, cX6_improve, 5, (some .int)) 1 = true := by decide +kernel
theorem lm_L_118 : wOk (.methodLink RL 118 yX6_absent) = true := by decide +kernel
theorem wi_X6_absent : wOk (.instanceMethod yX6_absent) = true := by decide +kernel
theorem wv_X6_absent : wOk (.selects RX6 yX6_absent yX6_absent) = true := by decide +kernel
theorem mk_X6_absent : mOk (yX6_absent, cX6_absent, 8, (some .int)) 2 = true := by decide +kernel
theorem lm_L_121 : wOk (.methodLink RL 121 yX6_substitute) = true := by decide +kernel
theorem wi_X6_substitute : wOk (.instanceMethod yX6_substitute) = true := by decide +kernel
theorem wv_X6_substitute : wOk (.selects RX6 yX6_substitute yX6_substitute) = true := by decide +kernel
theorem mk_X6_substitute : mOk (yX6_substitute, cX6_substitute, 2, (some .int)) 1 = true := by decide +kernel
theorem lm_L_125 : wOk (.methodLink RL 125 yX6_undo) = true := by decide +kernel
theorem wi_X6_undo : wOk (.instanceMethod yX6_undo) = true := by decide +kernel
theorem wv_X6_undo : wOk (.selects RX6 yX6_undo yX6_undo) = true := by decide +kernel
theorem mk_X6_undo : mOk (yX6_undo, cX6_undo, 2, (some .int)) 0 = true := by decide +kernel
theorem lm_L_128 : wOk (.methodLink RL 128 yX6_page) = true := by decide +kernel
theorem wi_X6_page : wOk (.instanceMethod yX6_page) = true := by decide +kernel
theorem wv_X6_page : wOk (.selects RX6 yX6_page yX6_page) = true := by decide +kernel
theorem mk_X6_page : mOk (yX6_page, cX6_page, 7, (some .int)) 3 = true := by decide +kernel
theorem mw_L_room : mwOk (yL_room, cL_room, 4, (some .int)) hhL_room 3 = true := by decide +kernel
theorem ws_L_room : wOk (.static yL_room) = true := by decide +kernel
theorem lc_L_13 : wOk (.classLink RL 13 "java/lang/IllegalArgumentException") = true := by decide +kernel
theorem wc_1 : wAny (.castable (exn 1) "java/lang/IllegalArgumentException") = true := by decide +kernel
theorem lc_L_15 : wOk (.classLink RL 15 "java/lang/IllegalStateException") = true := by decide +kernel
theorem wc_2 : wAny (.castable (exn 2) "java/lang/IllegalStateException") = true := by decide +kernel
theorem nc_2_1 : Cond.not (.castable (exn 2) "java/lang/IllegalArgumentException") ∈ flatC (Jvm.Cond.and given_1 narrow_1) := by decide +kernel
theorem mw_L_lesson : mwOk (yL_lesson, cL_lesson, 9, (some .int)) hhL_lesson 8 = true := by decide +kernel
theorem ws_L_lesson : wOk (.static yL_lesson) = true := by decide +kernel
theorem mw_L_block : mwOk (yL_block, cL_block, 6, (some .int)) hhL_block 5 = true := by decide +kernel
theorem ws_L_block : wOk (.static yL_block) = true := by decide +kernel
theorem mw_L_place : mwOk (yL_place, cL_place, 6, (some .int)) hhL_place 5 = true := by decide +kernel
theorem ws_L_place : wOk (.static yL_place) = true := by decide +kernel
theorem mw_L_drop : mwOk (yL_drop, cL_drop, 5, (some .int)) hhL_drop 4 = true := by decide +kernel
theorem ws_L_drop : wOk (.static yL_drop) = true := by decide +kernel
theorem mw_L_fill : mwOk (yL_fill, cL_fill, 4, (some .int)) hhL_fill 3 = true := by decide +kernel
theorem ws_L_fill : wOk (.static yL_fill) = true := by decide +kernel
theorem mw_L_period : mwOk (yL_period, cL_period, 5, (some .int)) hhL_period 4 = true := by decide +kernel
theorem ws_L_period : wOk (.static yL_period) = true := by decide +kernel
theorem mw_L_roomOf : mwOk (yL_roomOf, cL_roomOf, 5, (some .int)) hhL_roomOf 4 = true := by decide +kernel
theorem ws_L_roomOf : wOk (.static yL_roomOf) = true := by decide +kernel
theorem mw_L_improve : mwOk (yL_improve, cL_improve, 4, (some .int)) hhL_improve 3 = true := by decide +kernel
theorem ws_L_improve : wOk (.static yL_improve) = true := by decide +kernel
theorem mw_L_absent : mwOk (yL_absent, cL_absent, 5, (some .int)) hhL_absent 4 = true := by decide +kernel
theorem ws_L_absent : wOk (.static yL_absent) = true := by decide +kernel
theorem mw_L_substitute : mwOk (yL_substitute, cL_substitute, 4, (some .int)) hhL_substitute 3 = true := by decide +kernel
theorem ws_L_substitute : wOk (.static yL_substitute) = true := by decide +kernel
theorem lc_L_52 : wOk (.classLink RL 52 "java/lang/IndexOutOfBoundsException") = true := by decide +kernel
theorem wc_3 : wAny (.castable (exn 3) "java/lang/IndexOutOfBoundsException") = true := by decide +kernel
theorem mw_L_undo : mwOk (yL_undo, cL_undo, 3, (some .int)) hhL_undo 2 = true := by decide +kernel
theorem ws_L_undo : wOk (.static yL_undo) = true := by decide +kernel
theorem mw_L_page : mwOk (yL_page, cL_page, 6, (some .int)) hhL_page 5 = true := by decide +kernel
theorem ws_L_page : wOk (.static yL_page) = true := by decide +kernel
theorem nc_3_1 : Cond.not (.castable (exn 3) "java/lang/IllegalArgumentException") ∈ flatC (Jvm.Cond.and given_1 narrow_1) := by decide +kernel
theorem lm_L_72 : wOk (.methodLink RL 72 yL_room) = true := by decide +kernel
theorem lm_L_79 : wOk (.methodLink RL 79 yL_lesson) = true := by decide +kernel
theorem lm_L_83 : wOk (.methodLink RL 83 yL_block) = true := by decide +kernel
theorem lm_L_87 : wOk (.methodLink RL 87 yL_place) = true := by decide +kernel
theorem lm_L_91 : wOk (.methodLink RL 91 yL_drop) = true := by decide +kernel
theorem lm_L_95 : wOk (.methodLink RL 95 yL_fill) = true := by decide +kernel
theorem lm_L_103 : wOk (.methodLink RL 103 yL_period) = true := by decide +kernel
theorem lm_L_106 : wOk (.methodLink RL 106 yL_roomOf) = true := by decide +kernel
theorem lm_L_113 : wOk (.methodLink RL 113 yL_improve) = true := by decide +kernel
theorem lm_L_116 : wOk (.methodLink RL 116 yL_absent) = true := by decide +kernel
theorem lm_L_119 : wOk (.methodLink RL 119 yL_substitute) = true := by decide +kernel
theorem lm_L_122 : wOk (.methodLink RL 122 yL_undo) = true := by decide +kernel
theorem lm_L_126 : wOk (.methodLink RL 126 yL_page) = true := by decide +kernel
