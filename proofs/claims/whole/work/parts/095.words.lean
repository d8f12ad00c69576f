theorem lm_X5_32 : wOk (.methodLink RX5 32 yX5_isWithin) = true := by decide +kernel
theorem ws_X5_isWithin : wOk (.static yX5_isWithin) = true := by decide +kernel
theorem mk_X5_isWithin : mOk (yX5_isWithin, cX5_isWithin, 3, (some .boolean)) 3 = true := by decide +kernel
theorem lf_X3_24 : wOk (.fieldLink RX3 24 (TX3 4).1 (TX3 4).2.1 (TX3 4).2.2.1) = true := by decide +kernel
theorem cl_X3 : clOk RX3 TX3 8 = true := by decide +kernel
theorem lf_X3_33 : wOk (.fieldLink RX3 33 (TX3 7).1 (TX3 7).2.1 (TX3 7).2.2.1) = true := by decide +kernel
theorem lf_X3_27 : wOk (.fieldLink RX3 27 (TX3 5).1 (TX3 5).2.1 (TX3 5).2.2.1) = true := by decide +kernel
theorem lm_X3_37 : Cond.methodLinkNest RX3 37 yX5_isWithin "TimetableDesk" ∈ lw_tbl := by decide +kernel
theorem lf_X3_9 : wOk (.fieldLink RX3 9 (TX3 0).1 (TX3 0).2.1 (TX3 0).2.2.1) = true := by decide +kernel
theorem lf_X3_15 : wOk (.fieldLink RX3 15 (TX3 1).1 (TX3 1).2.1 (TX3 1).2.2.1) = true := by decide +kernel
theorem lf_X3_18 : wOk (.fieldLink RX3 18 (TX3 2).1 (TX3 2).2.1 (TX3 2).2.2.1) = true := by decide +kernel
theorem lf_X3_21 : wOk (.fieldLink RX3 21 (TX3 3).1 (TX3 3).2.1 (TX3 3).2.2.1) = true := by decide +kernel
theorem lf_X3_30 : wOk (.fieldLink RX3 30 (TX3 6).1 (TX3 6).2.1 (TX3 6).2.2.1) = true := by decide +kernel
theorem lf_X0_28 : wOk (.fieldLink RX0 28 (TX0 9).1 (TX0 9).2.1 (TX0 9).2.2.1) = true := by decide +kernel
theorem cl_X0 : clOk RX0 TX0 10 = true := by decide +kernel
theorem lm_X0_53 : wOk (.methodLink RX0 53 yX0_isPlaced) = true := by decide +kernel
theorem wi_X0_isPlaced : wOk (.instanceMethod yX0_isPlaced) = true := by decide +kernel
theorem wv_X0_isPlaced : wOk (.selects RX0 yX0_isPlaced yX0_isPlaced) = true := by decide +kernel
theorem mk_X0_isPlaced : mOk (yX0_isPlaced, cX0_isPlaced, 2, (some .boolean)) 1 = true := by decide +kernel
theorem lf_X0_12 : wOk (.fieldLink RX0 12 (TX0 5).1 (TX0 5).2.1 (TX0 5).2.2.1) = true := by decide +kernel
theorem lm_X0_57 : Cond.methodLinkNest RX0 57 yX5_lessonOf "TimetableDesk" ∈ lw_tbl := by decide +kernel
theorem ws_X5_lessonOf : wOk (.static yX5_lessonOf) = true := by decide +kernel
theorem mk_X5_lessonOf : mOk (yX5_lessonOf, cX5_lessonOf, 1, (some .int)) 1 = true := by decide +kernel
theorem lm_X0_61 : Cond.methodLinkNest RX0 61 yX3_bitsAt "TimetableDesk" ∈ lw_tbl := by decide +kernel
theorem wi_X3_bitsAt : wOk (.instanceMethod yX3_bitsAt) = true := by decide +kernel
theorem wv_X3_bitsAt : wOk (.selects RX3 yX3_bitsAt yX3_bitsAt) = true := by decide +kernel
theorem mk_X3_bitsAt : mOk (yX3_bitsAt, cX3_bitsAt, 3, (some .int)) 2 = true := by decide +kernel
theorem lf_X0_35 : wOk (.fieldLink RX0 35 (TX0 1).1 (TX0 1).2.1 (TX0 1).2.2.1) = true := by decide +kernel
theorem lf_X0_25 : wOk (.fieldLink RX0 25 (TX0 8).1 (TX0 8).2.1 (TX0 8).2.2.1) = true := by decide +kernel
theorem lf_X0_69 : Cond.fieldLinkNest RX0 69 (TX3 2).1 (TX3 2).2.1 (TX3 2).2.2.1 "TimetableDesk" ∈ lw_tbl := by decide +kernel
theorem lf_X0_72 : Cond.fieldLinkNest RX0 72 (TX3 0).1 (TX3 0).2.1 (TX3 0).2.2.1 "TimetableDesk" ∈ lw_tbl := by decide +kernel
theorem lf_X0_75 : Cond.fieldLinkNest RX0 75 (TX3 1).1 (TX3 1).2.1 (TX3 1).2.2.1 "TimetableDesk" ∈ lw_tbl := by decide +kernel
theorem lm_X0_65 : wOk (.methodLink RX0 65 yX0_mark) = true := by decide +kernel
theorem wi_X0_mark : wOk (.instanceMethod yX0_mark) = true := by decide +kernel
theorem wv_X0_mark : wOk (.selects RX0 yX0_mark yX0_mark) = true := by decide +kernel
theorem mk_X0_mark : mOk (yX0_mark, cX0_mark, 4, none) 1 = true := by decide +kernel
theorem lm_X0_47 : wOk (.methodLink RX0 47 yJ7_fill_53178) = true := by decide +kernel
theorem ws_J7_fill_53178 : wOk (.static yJ7_fill_53178) = true := by decide +kernel
theorem mk_J7_fill_53178 : mOk (yJ7_fill_53178, cJ7_fill_53178, 4, none) 2 = true := by decide +kernel
theorem lf_X0_88 : Cond.fieldLinkNest RX0 88 (TX3 4).1 (TX3 4).2.1 (TX3 4).2.2.1 "TimetableDesk" ∈ lw_tbl := by decide +kernel
theorem lf_X0_22 : wOk (.fieldLink RX0 22 (TX0 7).1 (TX0 7).2.1 (TX0 7).2.2.1) = true := by decide +kernel
theorem lf_X0_99 : Cond.fieldLinkNest RX0 99 (TX3 5).1 (TX3 5).2.1 (TX3 5).2.2.1 "TimetableDesk" ∈ lw_tbl := by decide +kernel
theorem lm_X0_102 : Cond.methodLinkNest RX0 102 yX5_itemOf "TimetableDesk" ∈ lw_tbl := by decide +kernel
theorem ws_X5_itemOf : wOk (.static yX5_itemOf) = true := by decide +kernel
theorem mk_X5_itemOf : mOk (yX5_itemOf, cX5_itemOf, 2, (some .int)) 2 = true := by decide +kernel
theorem lm_X0_105 : wOk (.methodLink RX0 105 yX0_isOnDay) = true := by decide +kernel
theorem wi_X0_isOnDay : wOk (.instanceMethod yX0_isOnDay) = true := by decide +kernel
theorem wv_X0_isOnDay : wOk (.selects RX0 yX0_isOnDay yX0_isOnDay) = true := by decide +kernel
theorem mk_X0_isOnDay : mOk (yX0_isOnDay, cX0_isOnDay, 3, (some .boolean)) 2 = true := by decide +kernel
theorem lf_X0_18 : wOk (.fieldLink RX0 18 (TX0 6).1 (TX0 6).2.1 (TX0 6).2.2.1) = true := by decide +kernel
theorem lf_X0_108 : Cond.fieldLinkNest RX0 108 (TX3 3).1 (TX3 3).2.1 (TX3 3).2.2.1 "TimetableDesk" ∈ lw_tbl := by decide +kernel
theorem lm_X0_91 : wOk (.methodLink RX0 91 yX0_eitherClass) = true := by decide +kernel
theorem wi_X0_eitherClass : wOk (.instanceMethod yX0_eitherClass) = true := by decide +kernel
theorem wv_X0_eitherClass : wOk (.selects RX0 yX0_eitherClass yX0_eitherClass) = true := by decide +kernel
theorem mk_X0_eitherClass : mOk (yX0_eitherClass, cX0_eitherClass, 4, (some .int)) 2 = true := by decide +kernel
theorem lm_X0_95 : wOk (.methodLink RX0 95 yX0_isLessonOnDay) = true := by decide +kernel
theorem wi_X0_isLessonOnDay : wOk (.instanceMethod yX0_isLessonOnDay) = true := by decide +kernel
theorem wv_X0_isLessonOnDay : wOk (.selects RX0 yX0_isLessonOnDay yX0_isLessonOnDay) = true := by decide +kernel
theorem mk_X0_isLessonOnDay : mOk (yX0_isLessonOnDay, cX0_isLessonOnDay, 4, (some .boolean)) 2 = true := by decide +kernel
theorem lm_X0_81 : wOk (.methodLink RX0 81 yX0_lowestRoom) = true := by decide +kernel
theorem wi_X0_lowestRoom : wOk (.instanceMethod yX0_lowestRoom) = true := by decide +kernel
theorem wv_X0_lowestRoom : wOk (.selects RX0 yX0_lowestRoom yX0_lowestRoom) = true := by decide +kernel
theorem mk_X0_lowestRoom : mOk (yX0_lowestRoom, cX0_lowestRoom, 6, (some .int)) 2 = true := by decide +kernel
theorem lm_X0_78 : wOk (.methodLink RX0 78 yX0_brokenRule) = true := by decide +kernel
theorem wi_X0_brokenRule : wOk (.instanceMethod yX0_brokenRule) = true := by decide +kernel
theorem wv_X0_brokenRule : wOk (.selects RX0 yX0_brokenRule yX0_brokenRule) = true := by decide +kernel
theorem mk_X0_brokenRule : mOk (yX0_brokenRule, cX0_brokenRule, 6, (some .int)) 2 = true := by decide +kernel
theorem lm_X0_84 : wOk (.methodLink RX0 84 yX0_putAt) = true := by decide +kernel
theorem wi_X0_putAt : wOk (.instanceMethod yX0_putAt) = true := by decide +kernel
theorem wv_X0_putAt : wOk (.selects RX0 yX0_putAt yX0_putAt) = true := by decide +kernel
theorem mk_X0_putAt : mOk (yX0_putAt, cX0_putAt, 3, none) 2 = true := by decide +kernel
theorem kc_J6_265 : wOk (.constant RJ6 265 1431655765) = true := by decide +kernel
theorem kc_J6_266 : wOk (.constant RJ6 266 858993459) = true := by decide +kernel
theorem kc_J6_267 : wOk (.constant RJ6 267 252645135) = true := by decide +kernel
theorem lf_X0_41 : wOk (.fieldLink RX0 41 (TX0 3).1 (TX0 3).2.1 (TX0 3).2.2.1) = true := by decide +kernel
theorem lf_X0_44 : wOk (.fieldLink RX0 44 (TX0 4).1 (TX0 4).2.1 (TX0 4).2.2.1) = true := by decide +kernel
theorem lm_X0_120 : wOk (.methodLink RX0 120 yJ6_bitCount_0f7a4) = true := by decide +kernel
theorem ws_J6_bitCount_0f7a4 : wOk (.static yJ6_bitCount_0f7a4) = true := by decide +kernel
theorem mk_J6_bitCount_0f7a4 : mOk (yJ6_bitCount_0f7a4, cJ6_bitCount_0f7a4, 1, (some .int)) 1 = true := by decide +kernel
theorem lm_X0_117 : wOk (.methodLink RX0 117 yX0_gapsIn) = true := by decide +kernel
theorem wi_X0_gapsIn : wOk (.instanceMethod yX0_gapsIn) = true := by decide +kernel
theorem wv_X0_gapsIn : wOk (.selects RX0 yX0_gapsIn yX0_gapsIn) = true := by decide +kernel
theorem mk_X0_gapsIn : mOk (yX0_gapsIn, cX0_gapsIn, 5, (some .int)) 1 = true := by decide +kernel
theorem lm_X0_111 : wOk (.methodLink RX0 111 yX0_teacherPart) = true := by decide +kernel
theorem wi_X0_teacherPart : wOk (.instanceMethod yX0_teacherPart) = true := by decide +kernel
theorem wv_X0_teacherPart : wOk (.selects RX0 yX0_teacherPart yX0_teacherPart) = true := by decide +kernel
theorem mk_X0_teacherPart : mOk (yX0_teacherPart, cX0_teacherPart, 2, (some .int)) 1 = true := by decide +kernel
theorem lm_X0_114 : wOk (.methodLink RX0 114 yX0_classPart) = true := by decide +kernel
theorem wi_X0_classPart : wOk (.instanceMethod yX0_classPart) = true := by decide +kernel
theorem wv_X0_classPart : wOk (.selects RX0 yX0_classPart yX0_classPart) = true := by decide +kernel
theorem mk_X0_classPart : mOk (yX0_classPart, cX0_classPart, 2, (some .int)) 1 = true := by decide +kernel
theorem lf_X0_38 : wOk (.fieldLink RX0 38 (TX0 2).1 (TX0 2).2.1 (TX0 2).2.2.1) = true := by decide +kernel
theorem lm_X0_128 : wOk (.methodLink RX0 128 yX0_periodOfItem) = true := by decide +kernel
theorem wi_X0_periodOfItem : wOk (.instanceMethod yX0_periodOfItem) = true := by decide +kernel
theorem wv_X0_periodOfItem : wOk (.selects RX0 yX0_periodOfItem yX0_periodOfItem) = true := by decide +kernel
theorem mk_X0_periodOfItem : mOk (yX0_periodOfItem, cX0_periodOfItem, 2, (some .int)) 1 = true := by decide +kernel
theorem lm_X0_131 : wOk (.methodLink RX0 131 yX0_takeOut) = true := by decide +kernel
theorem wi_X0_takeOut : wOk (.instanceMethod yX0_takeOut) = true := by decide +kernel
theorem wv_X0_takeOut : wOk (.selects RX0 yX0_takeOut yX0_takeOut) = true := by decide +kernel
theorem mk_X0_takeOut : mOk (yX0_takeOut, cX0_takeOut, 4, none) 1 = true := by decide +kernel
theorem lm_X0_134 : wOk (.methodLink RX0 134 yX0_partWith) = true := by decide +kernel
theorem wi_X0_partWith : wOk (.instanceMethod yX0_partWith) = true := by decide +kernel
theorem wv_X0_partWith : wOk (.selects RX0 yX0_partWith yX0_partWith) = true := by decide +kernel
theorem mk_X0_partWith : mOk (yX0_partWith, cX0_partWith, 5, (some .int)) 2 = true := by decide +kernel
theorem lm_X0_125 : wOk (.methodLink RX0 125 yX0_moveToBest) = true := by decide +kernel
theorem wi_X0_moveToBest : wOk (.instanceMethod yX0_moveToBest) = true := by decide +kernel
theorem wv_X0_moveToBest : wOk (.selects RX0 yX0_moveToBest yX0_moveToBest) = true := by decide +kernel
theorem mk_X0_moveToBest : mOk (yX0_moveToBest, cX0_moveToBest, 8, (some .boolean)) 1 = true := by decide +kernel
theorem lm_X0_146 : wOk (.methodLink RX0 146 yX0_roomOfItem) = true := by decide +kernel
theorem wi_X0_roomOfItem : wOk (.instanceMethod yX0_roomOfItem) = true := by decide +kernel
theorem wv_X0_roomOfItem : wOk (.selects RX0 yX0_roomOfItem yX0_roomOfItem) = true := by decide +kernel
theorem mk_X0_roomOfItem : mOk (yX0_roomOfItem, cX0_roomOfItem, 2, (some .int)) 1 = true := by decide +kernel
theorem lf_X0_143 : Cond.fieldLinkNest RX0 143 (TX3 6).1 (TX3 6).2.1 (TX3 6).2.2.1 "TimetableDesk" ∈ lw_tbl := by decide +kernel
theorem lm_X0_137 : wOk (.methodLink RX0 137 yX0_bitsOfItem) = true := by decide +kernel
theorem wi_X0_bitsOfItem : wOk (.instanceMethod yX0_bitsOfItem) = true := by decide +kernel
theorem wv_X0_bitsOfItem : wOk (.selects RX0 yX0_bitsOfItem yX0_bitsOfItem) = true := by decide +kernel
theorem mk_X0_bitsOfItem : mOk (yX0_bitsOfItem, cX0_bitsOfItem, 2, (some .int)) 1 = true := by decide +kernel
theorem lm_X0_140 : wOk (.methodLink RX0 140 yX0_isUsedBy) = true := by decide +kernel
theorem wi_X0_isUsedBy : wOk (.instanceMethod yX0_isUsedBy) = true := by decide +kernel
theorem wv_X0_isUsedBy : wOk (.selects RX0 yX0_isUsedBy yX0_isUsedBy) = true := by decide +kernel
theorem mk_X0_isUsedBy : mOk (yX0_isUsedBy, cX0_isUsedBy, 4, (some .boolean)) 2 = true := by decide +kernel
theorem lf_X4_50 : Cond.fieldLinkNest RX4 50 (TX0 5).1 (TX0 5).2.1 (TX0 5).2.2.1 "TimetableDesk" ∈ lw_tbl := by decide +kernel
theorem lf_X4_54 : Cond.fieldLinkNest RX4 54 (TX3 7).1 (TX3 7).2.1 (TX3 7).2.2.1 "TimetableDesk" ∈ lw_tbl := by decide +kernel
theorem lf_X4_59 : Cond.fieldLinkNest RX4 59 (TX3 5).1 (TX3 5).2.1 (TX3 5).2.2.1 "TimetableDesk" ∈ lw_tbl := by decide +kernel
theorem lf_X4_9 : wOk (.fieldLink RX4 9 (TX4 0).1 (TX4 0).2.1 (TX4 0).2.2.1) = true := by decide +kernel
theorem cl_X4 : clOk RX4 TX4 4 = true := by decide +kernel
theorem lf_X4_31 : wOk (.fieldLink RX4 31 (TX4 2).1 (TX4 2).2.1 (TX4 2).2.2.1) = true := by decide +kernel
theorem lm_X4_62 : Cond.methodLinkNest RX4 62 yX5_itemOf "TimetableDesk" ∈ lw_tbl := by decide +kernel
theorem lm_X4_66 : Cond.methodLinkNest RX4 66 yX0_isPlaced "TimetableDesk" ∈ lw_tbl := by decide +kernel
theorem lf_X4_15 : wOk (.fieldLink RX4 15 (TX4 1).1 (TX4 1).2.1 (TX4 1).2.2.1) = true := by decide +kernel
theorem lm_X4_74 : Cond.methodLinkNest RX4 74 yX0_periodOfItem "TimetableDesk" ∈ lw_tbl := by decide +kernel
theorem lm_X4_70 : Cond.methodLinkNest RX4 70 yX5_lessonOf "TimetableDesk" ∈ lw_tbl := by decide +kernel
theorem lm_X4_39 : Cond.methodLinkNest RX4 39 yX0_takeOut "TimetableDesk" ∈ lw_tbl := by decide +kernel
theorem lf_X4_34 : Cond.fieldLinkNest RX4 34 (TX0 2).1 (TX0 2).2.1 (TX0 2).2.2.1 "TimetableDesk" ∈ lw_tbl := by decide +kernel
theorem lf_X4_18 : wOk (.fieldLink RX4 18 (TX4 3).1 (TX4 3).2.1 (TX4 3).2.2.1) = true := by decide +kernel
theorem lm_X4_77 : Cond.methodLinkNest RX4 77 yX0_putByRules "TimetableDesk" ∈ lw_tbl := by decide +kernel
theorem wi_X0_putByRules : wOk (.instanceMethod yX0_putByRules) = true := by decide +kernel
theorem wv_X0_putByRules : wOk (.selects RX0 yX0_putByRules yX0_putByRules) = true := by decide +kernel
theorem mk_X0_putByRules : mOk (yX0_putByRules, cX0_putByRules, 4, (some .int)) 2 = true := by decide +kernel
theorem lm_X4_22 : wOk (.methodLink RX4 22 yX4_collect) = true := by decide +kernel
theorem wi_X4_collect : wOk (.instanceMethod yX4_collect) = true := by decide +kernel
theorem wv_X4_collect : wOk (.selects RX4 yX4_collect yX4_collect) = true := by decide +kernel
theorem mk_X4_collect : mOk (yX4_collect, cX4_collect, 4, none) 1 = true := by decide +kernel
theorem lm_X4_26 : wOk (.methodLink RX4 26 yX4_aim) = true := by decide +kernel
theorem wi_X4_aim : wOk (.instanceMethod yX4_aim) = true := by decide +kernel
theorem wv_X4_aim : wOk (.selects RX4 yX4_aim yX4_aim) = true := by decide +kernel
theorem mk_X4_aim : mOk (yX4_aim, cX4_aim, 4, none) 2 = true := by decide +kernel
theorem kc_X4_30 : wOk (.constant RX4 30 100000) = true := by decide +kernel
theorem lm_X4_43 : wOk (.methodLink RX4 43 yX4_tryNext) = true := by decide +kernel
theorem wi_X4_tryNext : wOk (.instanceMethod yX4_tryNext) = true := by decide +kernel
theorem wv_X4_tryNext : wOk (.selects RX4 yX4_tryNext yX4_tryNext) = true := by decide +kernel
theorem mk_X4_tryNext : mOk (yX4_tryNext, cX4_tryNext, 4, (some .boolean)) 2 = true := by decide +kernel
theorem lm_X4_47 : wOk (.methodLink RX4 47 yX4_takeAllOut) = true := by decide +kernel
theorem wi_X4_takeAllOut : wOk (.instanceMethod yX4_takeAllOut) = true := by decide +kernel
theorem wv_X4_takeAllOut : wOk (.selects RX4 yX4_takeAllOut yX4_takeAllOut) = true := by decide +kernel
theorem mk_X4_takeAllOut : mOk (yX4_takeAllOut, cX4_takeAllOut, 4, none) 2 = true := by decide +kernel
theorem lf_X1_19 : Cond.fieldLinkNest RX1 19 (TX0 1).1 (TX0 1).2.1 (TX0 1).2.2.1 "TimetableDesk" ∈ lw_tbl := by decide +kernel
theorem lf_X1_9 : wOk (.fieldLink RX1 9 (TX1 0).1 (TX1 0).2.1 (TX1 0).2.2.1) = true := by decide +kernel
theorem cl_X1 : clOk RX1 TX1 2 = true := by decide +kernel
theorem lf_X1_15 : wOk (.fieldLink RX1 15 (TX1 1).1 (TX1 1).2.1 (TX1 1).2.2.1) = true := by decide +kernel
theorem lf_X1_36 : Cond.fieldLinkNest RX1 36 (TX0 8).1 (TX0 8).2.1 (TX0 8).2.2.1 "TimetableDesk" ∈ lw_tbl := by decide +kernel
theorem lf_X1_39 : Cond.fieldLinkNest RX1 39 (TX0 7).1 (TX0 7).2.1 (TX0 7).2.2.1 "TimetableDesk" ∈ lw_tbl := by decide +kernel
theorem lm_X1_42 : Cond.methodLinkNest RX1 42 yX0_itemsOnDay "TimetableDesk" ∈ lw_tbl := by decide +kernel
theorem wi_X0_itemsOnDay : wOk (.instanceMethod yX0_itemsOnDay) = true := by decide +kernel
theorem wv_X0_itemsOnDay : wOk (.selects RX0 yX0_itemsOnDay yX0_itemsOnDay) = true := by decide +kernel
theorem mk_X0_itemsOnDay : mOk (yX0_itemsOnDay, cX0_itemsOnDay, 5, (some .int)) 2 = true := by decide +kernel
theorem lm_X1_45 : wOk (.methodLink RX1 45 yX1_timesGiven) = true := by decide +kernel
theorem wi_X1_timesGiven : wOk (.instanceMethod yX1_timesGiven) = true := by decide +kernel
theorem wv_X1_timesGiven : wOk (.selects RX1 yX1_timesGiven yX1_timesGiven) = true := by decide +kernel
theorem mk_X1_timesGiven : mOk (yX1_timesGiven, cX1_timesGiven, 4, (some .int)) 1 = true := by decide +kernel
theorem lm_X1_24 : Cond.methodLinkNest RX1 24 yX0_itemBeginningAt "TimetableDesk" ∈ lw_tbl := by decide +kernel
theorem wi_X0_itemBeginningAt : wOk (.instanceMethod yX0_itemBeginningAt) = true := by decide +kernel
theorem wv_X0_itemBeginningAt : wOk (.selects RX0 yX0_itemBeginningAt yX0_itemBeginningAt) = true := by decide +kernel
theorem mk_X0_itemBeginningAt : mOk (yX0_itemBeginningAt, cX0_itemBeginningAt, 4, (some .int)) 2 = true := by decide +kernel
theorem lm_X1_28 : Cond.methodLinkNest RX1 28 yX0_bitsOfItem "TimetableDesk" ∈ lw_tbl := by decide +kernel
theorem lm_X1_32 : wOk (.methodLink RX1 32 yX1_bestFor) = true := by decide +kernel
theorem wi_X1_bestFor : wOk (.instanceMethod yX1_bestFor) = true := by decide +kernel
theorem wv_X1_bestFor : wOk (.selects RX1 yX1_bestFor yX1_bestFor) = true := by decide +kernel
theorem mk_X1_bestFor : mOk (yX1_bestFor, cX1_bestFor, 10, (some .int)) 4 = true := by decide +kernel
theorem lf_X2_11 : wOk (.fieldLink RX2 11 (TX2 0).1 (TX2 0).2.1 (TX2 0).2.2.1) = true := by decide +kernel
theorem cl_X2 : clOk RX2 TX2 3 = true := by decide +kernel
theorem lf_X2_19 : wOk (.fieldLink RX2 19 (TX2 2).1 (TX2 2).2.1 (TX2 2).2.2.1) = true := by decide +kernel
theorem lf_X2_15 : wOk (.fieldLink RX2 15 (TX2 1).1 (TX2 1).2.1 (TX2 1).2.2.1) = true := by decide +kernel
theorem lm_X2_22 : wOk (.methodLink RX2 22 yX2_startOf) = true := by decide +kernel
theorem wi_X2_startOf : wOk (.instanceMethod yX2_startOf) = true := by decide +kernel
theorem wv_X2_startOf : wOk (.selects RX2 yX2_startOf yX2_startOf) = true := by decide +kernel
theorem mk_X2_startOf : mOk (yX2_startOf, cX2_startOf, 2, (some .int)) 1 = true := by decide +kernel
theorem lm_X2_26 : wOk (.methodLink RX2 26 arraycopyName) = true := by decide +kernel
theorem wac_n : wOk (.native arraycopyName) = true := by decide +kernel
theorem wac_s : wOk (.static arraycopyName) = true := by decide +kernel
theorem wac_i : wOk (.initialized "java/lang/System") = true := by decide +kernel
theorem lf_X5_12 : wOk (.fieldLink RX5 12 (TX5 1).1 (TX5 1).2.1 (TX5 1).2.2.1) = true := by decide +kernel
theorem cl_X5 : clOk RX5 TX5 4 = true := by decide +kernel
theorem lf_X5_152 : Cond.fieldLinkNest RX5 152 (TX4 3).1 (TX4 3).2.1 (TX4 3).2.2.1 "TimetableDesk" ∈ lw_tbl := by decide +kernel
theorem lf_X5_39 : wOk (.fieldLink RX5 39 (TX5 0).1 (TX5 0).2.1 (TX5 0).2.2.1) = true := by decide +kernel
theorem lm_X5_158 : Cond.methodLinkNest RX5 158 yX0_weekPenalty "TimetableDesk" ∈ lw_tbl := by decide +kernel
theorem wi_X0_weekPenalty : wOk (.instanceMethod yX0_weekPenalty) = true := by decide +kernel
theorem wv_X0_weekPenalty : wOk (.selects RX0 yX0_weekPenalty yX0_weekPenalty) = true := by decide +kernel
theorem mk_X0_weekPenalty : mOk (yX0_weekPenalty, cX0_weekPenalty, 3, (some .int)) 0 = true := by decide +kernel
theorem lf_X6_69 : wOk (.fieldLink RX6 69 (TX6 0).1 (TX6 0).2.1 (TX6 0).2.2.1) = true := by decide +kernel
theorem cl_X6 : clOk RX6 TX6 24 = true := by decide +kernel
theorem lf_X6_7 : wOk (.fieldLink RX6 7 (TX6 3).1 (TX6 3).2.1 (TX6 3).2.2.1) = true := by decide +kernel
theorem lf_X6_34 : wOk (.fieldLink RX6 34 (TX6 12).1 (TX6 12).2.1 (TX6 12).2.2.1) = true := by decide +kernel
theorem lf_X6_37 : wOk (.fieldLink RX6 37 (TX6 13).1 (TX6 13).2.1 (TX6 13).2.2.1) = true := by decide +kernel
theorem lm_X6_90 : wOk (.methodLink RX6 90 yX6_throwing) = true := by decide +kernel
theorem wi_X6_throwing : wOk (.instanceMethod yX6_throwing) = true := by decide +kernel
theorem wv_X6_throwing : wOk (.selects RX6 yX6_throwing yX6_throwing) = true := by decide +kernel
theorem mk_X6_throwing : mOk (yX6_throwing, cX6_throwing, 3, (some .boolean)) 2 = true := by decide +kernel
theorem lm_X6_72 : wOk (.methodLink RX6 72 yX6_in) = true := by decide +kernel
theorem ws_X6_in : wOk (.static yX6_in) = true := by decide +kernel
theorem mk_X6_in : mOk (yX6_in, cX6_in, 3, (some .boolean)) 3 = true := by decide +kernel
theorem lf_X6_13 : wOk (.fieldLink RX6 13 (TX6 5).1 (TX6 5).2.1 (TX6 5).2.2.1) = true := by decide +kernel
theorem lf_X6_76 : wOk (.fieldLink RX6 76 (TX6 4).1 (TX6 4).2.1 (TX6 4).2.2.1) = true := by decide +kernel
theorem lf_X6_16 : wOk (.fieldLink RX6 16 (TX6 6).1 (TX6 6).2.1 (TX6 6).2.2.1) = true := by decide +kernel
theorem lf_X6_19 : wOk (.fieldLink RX6 19 (TX6 7).1 (TX6 7).2.1 (TX6 7).2.2.1) = true := by decide +kernel
theorem lf_X6_22 : wOk (.fieldLink RX6 22 (TX6 8).1 (TX6 8).2.1 (TX6 8).2.2.1) = true := by decide +kernel
theorem lf_X6_25 : wOk (.fieldLink RX6 25 (TX6 9).1 (TX6 9).2.1 (TX6 9).2.2.1) = true := by decide +kernel
theorem lf_X6_28 : wOk (.fieldLink RX6 28 (TX6 10).1 (TX6 10).2.1 (TX6 10).2.2.1) = true := by decide +kernel
theorem lf_X6_31 : wOk (.fieldLink RX6 31 (TX6 11).1 (TX6 11).2.1 (TX6 11).2.2.1) = true := by decide +kernel
theorem lf_X6_40 : wOk (.fieldLink RX6 40 (TX6 14).1 (TX6 14).2.1 (TX6 14).2.2.1) = true := by decide +kernel
theorem lm_X6_79 : wOk (.methodLink RX6 79 yX6_lessonOf) = true := by decide +kernel
theorem ws_X6_lessonOf : wOk (.static yX6_lessonOf) = true := by decide +kernel
theorem mk_X6_lessonOf : mOk (yX6_lessonOf, cX6_lessonOf, 1, (some .int)) 1 = true := by decide +kernel
theorem lm_X6_83 : wOk (.methodLink RX6 83 yX6_covers) = true := by decide +kernel
theorem wi_X6_covers : wOk (.instanceMethod yX6_covers) = true := by decide +kernel
theorem wv_X6_covers : wOk (.selects RX6 yX6_covers yX6_covers) = true := by decide +kernel
theorem mk_X6_covers : mOk (yX6_covers, cX6_covers, 3, (some .boolean)) 2 = true := by decide +kernel
theorem lm_X6_87 : wOk (.methodLink RX6 87 yX6_isOf) = true := by decide +kernel
theorem wi_X6_isOf : wOk (.instanceMethod yX6_isOf) = true := by decide +kernel
theorem wv_X6_isOf : wOk (.selects RX6 yX6_isOf yX6_isOf) = true := by decide +kernel
theorem mk_X6_isOf : mOk (yX6_isOf, cX6_isOf, 5, (some .boolean)) 3 = true := by decide +kernel
theorem lf_X6_62 : wOk (.fieldLink RX6 62 (TX6 1).1 (TX6 1).2.1 (TX6 1).2.2.1) = true := by decide +kernel
theorem lf_X6_66 : wOk (.fieldLink RX6 66 (TX6 2).1 (TX6 2).2.1 (TX6 2).2.2.1) = true := by decide +kernel
theorem lm_X6_98 : wOk (.methodLink RX6 98 yX6_itemAt) = true := by decide +kernel
theorem wi_X6_itemAt : wOk (.instanceMethod yX6_itemAt) = true := by decide +kernel
theorem wv_X6_itemAt : wOk (.selects RX6 yX6_itemAt yX6_itemAt) = true := by decide +kernel
theorem mk_X6_itemAt : mOk (yX6_itemAt, cX6_itemAt, 5, (some .int)) 3 = true := by decide +kernel
theorem lm_X6_94 : wOk (.methodLink RX6 94 yX6_isPeriod) = true := by decide +kernel
theorem wi_X6_isPeriod : wOk (.instanceMethod yX6_isPeriod) = true := by decide +kernel
theorem wv_X6_isPeriod : wOk (.selects RX6 yX6_isPeriod yX6_isPeriod) = true := by decide +kernel
theorem mk_X6_isPeriod : mOk (yX6_isPeriod, cX6_isPeriod, 2, (some .boolean)) 1 = true := by decide +kernel
theorem lf_X6_116 : wOk (.fieldLink RX6 116 (TX6 21).1 (TX6 21).2.1 (TX6 21).2.2.1) = true := by decide +kernel
theorem lf_X6_53 : wOk (.fieldLink RX6 53 (TX6 19).1 (TX6 19).2.1 (TX6 19).2.2.1) = true := by decide +kernel
theorem lf_X6_56 : wOk (.fieldLink RX6 56 (TX6 20).1 (TX6 20).2.1 (TX6 20).2.2.1) = true := by decide +kernel
theorem lm_X6_102 : wOk (.methodLink RX6 102 yX6_isBlocked) = true := by decide +kernel
theorem wi_X6_isBlocked : wOk (.instanceMethod yX6_isBlocked) = true := by decide +kernel
theorem wv_X6_isBlocked : wOk (.selects RX6 yX6_isBlocked yX6_isBlocked) = true := by decide +kernel
theorem mk_X6_isBlocked : mOk (yX6_isBlocked, cX6_isBlocked, 4, (some .boolean)) 3 = true := by decide +kernel
theorem lm_X6_105 : wOk (.methodLink RX6 105 yX6_anyBlocked) = true := by decide +kernel
theorem wi_X6_anyBlocked : wOk (.instanceMethod yX6_anyBlocked) = true := by decide +kernel
theorem wv_X6_anyBlocked : wOk (.selects RX6 yX6_anyBlocked yX6_anyBlocked) = true := by decide +kernel
theorem mk_X6_anyBlocked : mOk (yX6_anyBlocked, cX6_anyBlocked, 7, (some .boolean)) 4 = true := by decide +kernel
theorem lm_X6_109 : wOk (.methodLink RX6 109 yX6_anyItem) = true := by decide +kernel
theorem wi_X6_anyItem : wOk (.instanceMethod yX6_anyItem) = true := by decide +kernel
theorem wv_X6_anyItem : wOk (.selects RX6 yX6_anyItem yX6_anyItem) = true := by decide +kernel
theorem mk_X6_anyItem : mOk (yX6_anyItem, cX6_anyItem, 7, (some .boolean)) 4 = true := by decide +kernel
theorem lm_X6_112 : wOk (.methodLink RX6 112 yX6_freeRoom) = true := by decide +kernel
theorem wi_X6_freeRoom : wOk (.instanceMethod yX6_freeRoom) = true := by decide +kernel
theorem wv_X6_freeRoom : wOk (.selects RX6 yX6_freeRoom yX6_freeRoom) = true := by decide +kernel
theorem mk_X6_freeRoom : mOk (yX6_freeRoom, cX6_freeRoom, 4, (some .int)) 2 = true := by decide +kernel
theorem lf_X6_47 : wOk (.fieldLink RX6 47 (TX6 17).1 (TX6 17).2.1 (TX6 17).2.2.1) = true := by decide +kernel
theorem lf_X6_50 : wOk (.fieldLink RX6 50 (TX6 18).1 (TX6 18).2.1 (TX6 18).2.2.1) = true := by decide +kernel
theorem lm_X6_122 : wOk (.methodLink RX6 122 yX6_rule) = true := by decide +kernel
theorem wi_X6_rule : wOk (.instanceMethod yX6_rule) = true := by decide +kernel
theorem wv_X6_rule : wOk (.selects RX6 yX6_rule yX6_rule) = true := by decide +kernel
theorem mk_X6_rule : mOk (yX6_rule, cX6_rule, 7, (some .int)) 2 = true := by decide +kernel
theorem lm_X6_125 : wOk (.methodLink RX6 125 yX6_keep) = true := by decide +kernel
theorem wi_X6_keep : wOk (.instanceMethod yX6_keep) = true := by decide +kernel
theorem wv_X6_keep : wOk (.selects RX6 yX6_keep yX6_keep) = true := by decide +kernel
theorem mk_X6_keep : mOk (yX6_keep, cX6_keep, 2, none) 0 = true := by decide +kernel
theorem lm_X6_128 : wOk (.methodLink RX6 128 yX6_put) = true := by decide +kernel
theorem wi_X6_put : wOk (.instanceMethod yX6_put) = true := by decide +kernel
theorem wv_X6_put : wOk (.selects RX6 yX6_put yX6_put) = true := by decide +kernel
theorem mk_X6_put : mOk (yX6_put, cX6_put, 4, none) 2 = true := by decide +kernel
theorem lm_X6_132 : wOk (.methodLink RX6 132 yX6_note) = true := by decide +kernel
theorem wi_X6_note : wOk (.instanceMethod yX6_note) = true := by decide +kernel
theorem wv_X6_note : wOk (.selects RX6 yX6_note yX6_note) = true := by decide +kernel
theorem mk_X6_note : mOk (yX6_note, cX6_note, 3, none) 0 = true := by decide +kernel
theorem lm_X6_119 : wOk (.methodLink RX6 119 yX6_isItem) = true := by decide +kernel
theorem wi_X6_isItem : wOk (.instanceMethod yX6_isItem) = true := by decide +kernel
theorem wv_X6_isItem : wOk (.selects RX6 yX6_isItem yX6_isItem) = true := by decide +kernel
theorem mk_X6_isItem : mOk (yX6_isItem, cX6_isItem, 3, (some .boolean)) 2 = true := by decide +kernel
theorem lm_X6_135 : wOk (.methodLink RX6 135 yX6_out) = true := by decide +kernel
theorem wi_X6_out : wOk (.instanceMethod yX6_out) = true := by decide +kernel
theorem wv_X6_out : wOk (.selects RX6 yX6_out yX6_out) = true := by decide +kernel
theorem mk_X6_out : mOk (yX6_out, cX6_out, 2, none) 1 = true := by decide +kernel
theorem lf_X6_44 : wOk (.fieldLink RX6 44 (TX6 16).1 (TX6 16).2.1 (TX6 16).2.2.1) = true := by decide +kernel
theorem lf_X6_139 : wOk (.fieldLink RX6 139 (TX6 15).1 (TX6 15).2.1 (TX6 15).2.2.1) = true := by decide +kernel
theorem lm_X6_142 : wOk (.methodLink RX6 142 yX6_restore) = true := by decide +kernel
theorem wi_X6_restore : wOk (.instanceMethod yX6_restore) = true := by decide +kernel
theorem wv_X6_restore : wOk (.selects RX6 yX6_restore yX6_restore) = true := by decide +kernel
theorem mk_X6_restore : mOk (yX6_restore, cX6_restore, 2, none) 0 = true := by decide +kernel
theorem lm_X6_145 : wOk (.methodLink RX6 145 yX6_gaps) = true := by decide +kernel
theorem wi_X6_gaps : wOk (.instanceMethod yX6_gaps) = true := by decide +kernel
theorem wv_X6_gaps : wOk (.selects RX6 yX6_gaps yX6_gaps) = true := by decide +kernel
theorem mk_X6_gaps : mOk (yX6_gaps, cX6_gaps, 8, (some .int)) 3 = true := by decide +kernel
theorem lm_X6_148 : wOk (.methodLink RX6 148 yX6_penaltyNow) = true := by decide +kernel
theorem wi_X6_penaltyNow : wOk (.instanceMethod yX6_penaltyNow) = true := by decide +kernel
theorem wv_X6_penaltyNow : wOk (.selects RX6 yX6_penaltyNow yX6_penaltyNow) = true := by decide +kernel
theorem mk_X6_penaltyNow : mOk (yX6_penaltyNow, cX6_penaltyNow, 4, (some .int)) 0 = true := by decide +kernel
theorem lm_X6_152 : wOk (.methodLink RX6 152 yX6_move) = true := by decide +kernel
theorem wi_X6_move : wOk (.instanceMethod yX6_move) = true := by decide +kernel
theorem wv_X6_move : wOk (.selects RX6 yX6_move yX6_move) = true := by decide +kernel
theorem mk_X6_move : mOk (yX6_move, cX6_move, 8, (some .boolean)) 1 = true := by decide +kernel
theorem lf_X6_155 : wOk (.fieldLink RX6 155 (TX6 23).1 (TX6 23).2.1 (TX6 23).2.2.1) = true := by decide +kernel
theorem lf_X6_59 : wOk (.fieldLink RX6 59 (TX6 22).1 (TX6 22).2.1 (TX6 22).2.2.1) = true := by decide +kernel
theorem lm_X6_158 : wOk (.methodLink RX6 158 yX6_mayTake) = true := by decide +kernel
theorem wi_X6_mayTake : wOk (.instanceMethod yX6_mayTake) = true := by decide +kernel
theorem wv_X6_mayTake : wOk (.selects RX6 yX6_mayTake yX6_mayTake) = true := by decide +kernel
theorem mk_X6_mayTake : mOk (yX6_mayTake, cX6_mayTake, 8, (some .boolean)) 2 = true := by decide +kernel
theorem lm_X6_161 : wOk (.methodLink RX6 161 yX6_load) = true := by decide +kernel
theorem wi_X6_load : wOk (.instanceMethod yX6_load) = true := by decide +kernel
theorem wv_X6_load : wOk (.selects RX6 yX6_load yX6_load) = true := by decide +kernel
theorem mk_X6_load : mOk (yX6_load, cX6_load, 5, (some .int)) 2 = true := by decide +kernel
theorem lf_X5_50 : Cond.fieldLinkNest RX5 50 (TX0 8).1 (TX0 8).2.1 (TX0 8).2.2.1 "TimetableDesk" ∈ lw_tbl := by decide +kernel
theorem lf_X5_59 : Cond.fieldLinkNest RX5 59 (TX0 6).1 (TX0 6).2.1 (TX0 6).2.2.1 "TimetableDesk" ∈ lw_tbl := by decide +kernel
theorem tw_X5_43_47 : twOk RX5 43 47 (exn 1) = true := by decide +kernel
theorem sw_X5_45 : swOk RX5 45 "no such room or kind" := ⟨by decide +kernel, by decide +kernel⟩
theorem tw_X5_54_58 : twOk RX5 54 58 (exn 2) = true := by decide +kernel
theorem sw_X5_56 : swOk RX5 56 "an item has the room" := ⟨by decide +kernel, by decide +kernel⟩
theorem lf_X5_70 : Cond.fieldLinkNest RX5 70 (TX0 5).1 (TX0 5).2.1 (TX0 5).2.2.1 "TimetableDesk" ∈ lw_tbl := by decide +kernel
theorem lf_X5_74 : Cond.fieldLinkNest RX5 74 (TX3 7).1 (TX3 7).2.1 (TX3 7).2.2.1 "TimetableDesk" ∈ lw_tbl := by decide +kernel
theorem sw_X5_62 : swOk RX5 62 "no such classes" := ⟨by decide +kernel, by decide +kernel⟩
theorem sw_X5_64 : swOk RX5 64 "no such teacher or kind" := ⟨by decide +kernel, by decide +kernel⟩
theorem sw_X5_66 : swOk RX5 66 "no such shape" := ⟨by decide +kernel, by decide +kernel⟩
theorem lm_X5_82 : Cond.methodLinkNest RX5 82 yX3_add "TimetableDesk" ∈ lw_tbl := by decide +kernel
theorem wi_X3_add : wOk (.instanceMethod yX3_add) = true := by decide +kernel
theorem wv_X3_add : wOk (.selects RX3 yX3_add yX3_add) = true := by decide +kernel
theorem mk_X3_add : mOk (yX3_add, cX3_add, 8, (some .int)) 6 = true := by decide +kernel
theorem sw_X5_80 : swOk RX5 80 "no more lessons" := ⟨by decide +kernel, by decide +kernel⟩
theorem sw_X5_68 : swOk RX5 68 "no such subject" := ⟨by decide +kernel, by decide +kernel⟩
theorem lf_X5_90 : Cond.fieldLinkNest RX5 90 (TX0 2).1 (TX0 2).2.1 (TX0 2).2.2.1 "TimetableDesk" ∈ lw_tbl := by decide +kernel
theorem lf_X5_101 : Cond.fieldLinkNest RX5 101 (TX0 7).1 (TX0 7).2.1 (TX0 7).2.2.1 "TimetableDesk" ∈ lw_tbl := by decide +kernel
theorem lm_X5_86 : wOk (.methodLink RX5 86 yX5_isUser) = true := by decide +kernel
theorem ws_X5_isUser : wOk (.static yX5_isUser) = true := by decide +kernel
theorem mk_X5_isUser : mOk (yX5_isUser, cX5_isUser, 2, (some .boolean)) 2 = true := by decide +kernel
theorem sw_X5_93 : swOk RX5 93 "no such what, who or period" := ⟨by decide +kernel, by decide +kernel⟩
theorem lm_X5_95 : wOk (.methodLink RX5 95 yX5_userOf) = true := by decide +kernel
theorem ws_X5_userOf : wOk (.static yX5_userOf) = true := by decide +kernel
theorem mk_X5_userOf : mOk (yX5_userOf, cX5_userOf, 2, (some .int)) 2 = true := by decide +kernel
theorem sw_X5_99 : swOk RX5 99 "it has an item there" := ⟨by decide +kernel, by decide +kernel⟩
theorem lf_X5_26 : wOk (.fieldLink RX5 26 (TX5 3).1 (TX5 3).2.1 (TX5 3).2.2.1) = true := by decide +kernel
theorem lf_X5_118 : Cond.fieldLinkNest RX5 118 (TX0 9).1 (TX0 9).2.1 (TX0 9).2.2.1 "TimetableDesk" ∈ lw_tbl := by decide +kernel
theorem lm_X5_104 : Cond.methodLinkNest RX5 104 yX3_hasItem "TimetableDesk" ∈ lw_tbl := by decide +kernel
theorem wi_X3_hasItem : wOk (.instanceMethod yX3_hasItem) = true := by decide +kernel
theorem wv_X3_hasItem : wOk (.selects RX3 yX3_hasItem yX3_hasItem) = true := by decide +kernel
theorem mk_X3_hasItem : mOk (yX3_hasItem, cX3_hasItem, 3, (some .boolean)) 2 = true := by decide +kernel
theorem sw_X5_107 : swOk RX5 107 "no such item or period" := ⟨by decide +kernel, by decide +kernel⟩
theorem lm_X5_109 : wOk (.methodLink RX5 109 yX5_itemOf) = true := by decide +kernel
theorem lm_X5_112 : Cond.methodLinkNest RX5 112 yX0_isPlaced "TimetableDesk" ∈ lw_tbl := by decide +kernel
theorem lm_X5_121 : Cond.methodLinkNest RX5 121 yX2_draw "TimetableDesk" ∈ lw_tbl := by decide +kernel
theorem wi_X2_draw : wOk (.instanceMethod yX2_draw) = true := by decide +kernel
theorem wv_X2_draw : wOk (.selects RX2 yX2_draw yX2_draw) = true := by decide +kernel
theorem mk_X2_draw : mOk (yX2_draw, cX2_draw, 2, none) 1 = true := by decide +kernel
theorem lm_X5_125 : Cond.methodLinkNest RX5 125 yX0_putByRules "TimetableDesk" ∈ lw_tbl := by decide +kernel
theorem lm_X5_128 : Cond.methodLinkNest RX5 128 yX2_keep "TimetableDesk" ∈ lw_tbl := by decide +kernel
theorem wi_X2_keep : wOk (.instanceMethod yX2_keep) = true := by decide +kernel
theorem wv_X2_keep : wOk (.selects RX2 yX2_keep yX2_keep) = true := by decide +kernel
theorem mk_X2_keep : mOk (yX2_keep, cX2_keep, 1, none) 0 = true := by decide +kernel
theorem sw_X5_116 : swOk RX5 116 "the item is placed" := ⟨by decide +kernel, by decide +kernel⟩
theorem lm_X5_135 : Cond.methodLinkNest RX5 135 yX0_periodOfItem "TimetableDesk" ∈ lw_tbl := by decide +kernel
theorem lm_X5_139 : Cond.methodLinkNest RX5 139 yX0_takeOut "TimetableDesk" ∈ lw_tbl := by decide +kernel
theorem sw_X5_133 : swOk RX5 133 "the item is not placed" := ⟨by decide +kernel, by decide +kernel⟩
theorem sw_X5_131 : swOk RX5 131 "no such item" := ⟨by decide +kernel, by decide +kernel⟩
theorem lf_X5_149 : Cond.fieldLinkNest RX5 149 (TX4 2).1 (TX4 2).2.1 (TX4 2).2.2.1 "TimetableDesk" ∈ lw_tbl := by decide +kernel
theorem lm_X5_145 : Cond.methodLinkNest RX5 145 yX4_run "TimetableDesk" ∈ lw_tbl := by decide +kernel
theorem wi_X4_run : wOk (.instanceMethod yX4_run) = true := by decide +kernel
theorem wv_X4_run : wOk (.selects RX4 yX4_run yX4_run) = true := by decide +kernel
theorem mk_X4_run : mOk (yX4_run, cX4_run, 5, (some .int)) 2 = true := by decide +kernel
theorem sw_X5_143 : swOk RX5 143 "no such budget" := ⟨by decide +kernel, by decide +kernel⟩
theorem lm_X5_155 : Cond.methodLinkNest RX5 155 yX0_roomOfItem "TimetableDesk" ∈ lw_tbl := by decide +kernel
theorem lm_X5_164 : Cond.methodLinkNest RX5 164 yX0_betterAll "TimetableDesk" ∈ lw_tbl := by decide +kernel
theorem wi_X0_betterAll : wOk (.instanceMethod yX0_betterAll) = true := by decide +kernel
theorem wv_X0_betterAll : wOk (.selects RX0 yX0_betterAll yX0_betterAll) = true := by decide +kernel
theorem mk_X0_betterAll : mOk (yX0_betterAll, cX0_betterAll, 3, (some .boolean)) 0 = true := by decide +kernel
theorem sw_X5_162 : swOk RX5 162 "no such number of rounds" := ⟨by decide +kernel, by decide +kernel⟩
theorem lf_X5_168 : Cond.fieldLinkNest RX5 168 (TX0 0).1 (TX0 0).2.1 (TX0 0).2.2.1 "TimetableDesk" ∈ lw_tbl := by decide +kernel
theorem lf_X5_19 : wOk (.fieldLink RX5 19 (TX5 2).1 (TX5 2).2.1 (TX5 2).2.2.1) = true := by decide +kernel
theorem lf_X5_177 : Cond.fieldLinkNest RX5 177 (TX1 1).1 (TX1 1).2.1 (TX1 1).2.2.1 "TimetableDesk" ∈ lw_tbl := by decide +kernel
theorem sw_X5_171 : swOk RX5 171 "no such teacher or day" := ⟨by decide +kernel, by decide +kernel⟩
theorem lm_X5_173 : Cond.methodLinkNest RX5 173 yX1_find "TimetableDesk" ∈ lw_tbl := by decide +kernel
theorem wi_X1_find : wOk (.instanceMethod yX1_find) = true := by decide +kernel
theorem wv_X1_find : wOk (.selects RX1 yX1_find yX1_find) = true := by decide +kernel
theorem mk_X1_find : mOk (yX1_find, cX1_find, 7, none) 3 = true := by decide +kernel
theorem lf_X5_181 : Cond.fieldLinkNest RX5 181 (TX1 0).1 (TX1 0).2.1 (TX1 0).2.2.1 "TimetableDesk" ∈ lw_tbl := by decide +kernel
theorem tw_X5_178_180 : twOk RX5 178 180 (exn 3) = true := by decide +kernel
theorem lf_X5_184 : Cond.fieldLinkNest RX5 184 (TX2 2).1 (TX2 2).2.1 (TX2 2).2.2.1 "TimetableDesk" ∈ lw_tbl := by decide +kernel
theorem lm_X5_187 : Cond.methodLinkNest RX5 187 yX2_takeBack "TimetableDesk" ∈ lw_tbl := by decide +kernel
theorem wi_X2_takeBack : wOk (.instanceMethod yX2_takeBack) = true := by decide +kernel
theorem wv_X2_takeBack : wOk (.selects RX2 yX2_takeBack yX2_takeBack) = true := by decide +kernel
theorem mk_X2_takeBack : mOk (yX2_takeBack, cX2_takeBack, 2, none) 1 = true := by decide +kernel
theorem lm_X5_190 : Cond.methodLinkNest RX5 190 yX0_markAllAgain "TimetableDesk" ∈ lw_tbl := by decide +kernel
theorem wi_X0_markAllAgain : wOk (.instanceMethod yX0_markAllAgain) = true := by decide +kernel
theorem wv_X0_markAllAgain : wOk (.selects RX0 yX0_markAllAgain yX0_markAllAgain) = true := by decide +kernel
theorem mk_X0_markAllAgain : mOk (yX0_markAllAgain, cX0_markAllAgain, 2, none) 0 = true := by decide +kernel
theorem sw_X5_185 : swOk RX5 185 "the journal is empty" := ⟨by decide +kernel, by decide +kernel⟩
theorem lf_X5_195 : Cond.fieldLinkNest RX5 195 (TX0 1).1 (TX0 1).2.1 (TX0 1).2.2.1 "TimetableDesk" ∈ lw_tbl := by decide +kernel
theorem lm_X5_200 : Cond.methodLinkNest RX5 200 yX0_letterAt "TimetableDesk" ∈ lw_tbl := by decide +kernel
theorem wi_X0_letterAt : wOk (.instanceMethod yX0_letterAt) = true := by decide +kernel
theorem wv_X0_letterAt : wOk (.selects RX0 yX0_letterAt yX0_letterAt) = true := by decide +kernel
theorem mk_X0_letterAt : mOk (yX0_letterAt, cX0_letterAt, 4, (some .int)) 2 = true := by decide +kernel
theorem sw_X5_198 : swOk RX5 198 "no such character" := ⟨by decide +kernel, by decide +kernel⟩
theorem sw_X5_193 : swOk RX5 193 "no such what or who" := ⟨by decide +kernel, by decide +kernel⟩
