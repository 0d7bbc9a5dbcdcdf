set_option maxRecDepth 100000 in
theorem ckX0_init : mc_all mkX0_init = true := by decide +kernel
set_option maxRecDepth 100000 in
theorem coX0_init : mc_own mkX0_init := ⟨rfl, by decide +kernel⟩
set_option maxRecDepth 100000 in
theorem ckX0_height : mc_all mkX0_height = true := by decide +kernel
set_option maxRecDepth 100000 in
theorem coX0_height : mc_own mkX0_height := ⟨rfl, by decide +kernel⟩
set_option maxRecDepth 100000 in
theorem ckX0_holds : mc_all mkX0_holds = true := by decide +kernel
set_option maxRecDepth 100000 in
theorem coX0_holds : mc_own mkX0_holds := ⟨rfl, by decide +kernel⟩
set_option maxRecDepth 100000 in
theorem ckX0_kindAt : mc_all mkX0_kindAt = true := by decide +kernel
set_option maxRecDepth 100000 in
theorem coX0_kindAt : mc_own mkX0_kindAt := ⟨rfl, by decide +kernel⟩
set_option maxRecDepth 100000 in
theorem ckX0_put : mc_all mkX0_put = true := by decide +kernel
set_option maxRecDepth 100000 in
theorem coX0_put : mc_own mkX0_put := ⟨rfl, by decide +kernel⟩
set_option maxRecDepth 100000 in
theorem ckX0_fromTop : mc_all mkX0_fromTop = true := by decide +kernel
set_option maxRecDepth 100000 in
theorem coX0_fromTop : mc_own mkX0_fromTop := ⟨rfl, by decide +kernel⟩
set_option maxRecDepth 100000 in
theorem ckX0_push : mc_all mkX0_push = true := by decide +kernel
set_option maxRecDepth 100000 in
theorem coX0_push : mc_own mkX0_push := ⟨rfl, by decide +kernel⟩
set_option maxRecDepth 100000 in
theorem ckX0_pushLong : mc_all mkX0_pushLong = true := by decide +kernel
set_option maxRecDepth 100000 in
theorem coX0_pushLong : mc_own mkX0_pushLong := ⟨rfl, by decide +kernel⟩
set_option maxRecDepth 100000 in
theorem ckX0_drop : mc_all mkX0_drop = true := by decide +kernel
set_option maxRecDepth 100000 in
theorem coX0_drop : mc_own mkX0_drop := ⟨rfl, by decide +kernel⟩
set_option maxRecDepth 100000 in
theorem ckX0_store : mc_all mkX0_store = true := by decide +kernel
set_option maxRecDepth 100000 in
theorem coX0_store : mc_own mkX0_store := ⟨rfl, by decide +kernel⟩
set_option maxRecDepth 100000 in
theorem ckX0_storeLong : mc_all mkX0_storeLong = true := by decide +kernel
set_option maxRecDepth 100000 in
theorem coX0_storeLong : mc_own mkX0_storeLong := ⟨rfl, by decide +kernel⟩
set_option maxRecDepth 100000 in
theorem ckX0_replaceAll : mc_all mkX0_replaceAll = true := by decide +kernel
set_option maxRecDepth 100000 in
theorem coX0_replaceAll : mc_own mkX0_replaceAll := ⟨rfl, by decide +kernel⟩
set_option maxRecDepth 100000 in
theorem ckX0_becomeTops : mc_all mkX0_becomeTops = true := by decide +kernel
set_option maxRecDepth 100000 in
theorem coX0_becomeTops : mc_own mkX0_becomeTops := ⟨rfl, by decide +kernel⟩
set_option maxRecDepth 100000 in
theorem ckX0_becomeLike : mc_all mkX0_becomeLike = true := by decide +kernel
set_option maxRecDepth 100000 in
theorem coX0_becomeLike : mc_own mkX0_becomeLike := ⟨rfl, by decide +kernel⟩
set_option maxRecDepth 100000 in
theorem ckX0_becomeCaught : mc_all mkX0_becomeCaught = true := by decide +kernel
set_option maxRecDepth 100000 in
theorem coX0_becomeCaught : mc_own mkX0_becomeCaught := ⟨rfl, by decide +kernel⟩
set_option maxRecDepth 100000 in
theorem ckX0_joinWith : mc_all mkX0_joinWith = true := by decide +kernel
set_option maxRecDepth 100000 in
theorem coX0_joinWith : mc_own mkX0_joinWith := ⟨rfl, by decide +kernel⟩
set_option maxRecDepth 100000 in
theorem ckX0_allStandFor : mc_all mkX0_allStandFor = true := by decide +kernel
set_option maxRecDepth 100000 in
theorem coX0_allStandFor : mc_own mkX0_allStandFor := ⟨rfl, by decide +kernel⟩
set_option maxRecDepth 100000 in
theorem ckX0_breakLong : mc_all mkX0_breakLong = true := by decide +kernel
set_option maxRecDepth 100000 in
theorem coX0_breakLong : mc_own mkX0_breakLong := ⟨rfl, by decide +kernel⟩
set_option maxRecDepth 100000 in
theorem ckX1_init : mc_all mkX1_init = true := by decide +kernel
set_option maxRecDepth 100000 in
theorem coX1_init : mc_own mkX1_init := ⟨rfl, by decide +kernel⟩
set_option maxRecDepth 100000 in
theorem ckX1_size : mc_all mkX1_size = true := by decide +kernel
set_option maxRecDepth 100000 in
theorem coX1_size : mc_own mkX1_size := ⟨rfl, by decide +kernel⟩
set_option maxRecDepth 100000 in
theorem ckX1_handlers : mc_all mkX1_handlers = true := by decide +kernel
set_option maxRecDepth 100000 in
theorem coX1_handlers : mc_own mkX1_handlers := ⟨rfl, by decide +kernel⟩
set_option maxRecDepth 100000 in
theorem ckX1_has : mc_all mkX1_has = true := by decide +kernel
set_option maxRecDepth 100000 in
theorem coX1_has : mc_own mkX1_has := ⟨rfl, by decide +kernel⟩
set_option maxRecDepth 100000 in
theorem ckX1_add : mc_all mkX1_add = true := by decide +kernel
set_option maxRecDepth 100000 in
theorem coX1_add : mc_own mkX1_add := ⟨rfl, by decide +kernel⟩
set_option maxRecDepth 100000 in
theorem ckX1_addHandler : mc_all mkX1_addHandler = true := by decide +kernel
set_option maxRecDepth 100000 in
theorem coX1_addHandler : mc_own mkX1_addHandler := ⟨rfl, by decide +kernel⟩
set_option maxRecDepth 100000 in
theorem ckX1_opAt : mc_all mkX1_opAt = true := by decide +kernel
set_option maxRecDepth 100000 in
theorem coX1_opAt : mc_own mkX1_opAt := ⟨rfl, by decide +kernel⟩
set_option maxRecDepth 100000 in
theorem ckX1_numberAt : mc_all mkX1_numberAt = true := by decide +kernel
set_option maxRecDepth 100000 in
theorem coX1_numberAt : mc_own mkX1_numberAt := ⟨rfl, by decide +kernel⟩
set_option maxRecDepth 100000 in
theorem ckX1_goesOn : mc_all mkX1_goesOn = true := by decide +kernel
set_option maxRecDepth 100000 in
theorem coX1_goesOn : mc_own mkX1_goesOn := ⟨rfl, by decide +kernel⟩
set_option maxRecDepth 100000 in
theorem ckX1_jumps : mc_all mkX1_jumps = true := by decide +kernel
set_option maxRecDepth 100000 in
theorem coX1_jumps : mc_own mkX1_jumps := ⟨rfl, by decide +kernel⟩
set_option maxRecDepth 100000 in
theorem ckX1_covers : mc_all mkX1_covers = true := by decide +kernel
set_option maxRecDepth 100000 in
theorem coX1_covers : mc_own mkX1_covers := ⟨rfl, by decide +kernel⟩
set_option maxRecDepth 100000 in
theorem ckX1_startOf : mc_all mkX1_startOf = true := by decide +kernel
set_option maxRecDepth 100000 in
theorem coX1_startOf : mc_own mkX1_startOf := ⟨rfl, by decide +kernel⟩
set_option maxRecDepth 100000 in
theorem ckX1_thingOf : mc_all mkX1_thingOf = true := by decide +kernel
set_option maxRecDepth 100000 in
theorem coX1_thingOf : mc_own mkX1_thingOf := ⟨rfl, by decide +kernel⟩
set_option maxRecDepth 100000 in
theorem ckX1_hasHandler : mc_all mkX1_hasHandler = true := by decide +kernel
set_option maxRecDepth 100000 in
theorem coX1_hasHandler : mc_own mkX1_hasHandler := ⟨rfl, by decide +kernel⟩
set_option maxRecDepth 100000 in
theorem ckX2_init : mc_all mkX2_init = true := by decide +kernel
set_option maxRecDepth 100000 in
theorem coX2_init : mc_own mkX2_init := ⟨rfl, by decide +kernel⟩
set_option maxRecDepth 100000 in
theorem ckX2_count : mc_all mkX2_count = true := by decide +kernel
set_option maxRecDepth 100000 in
theorem coX2_count : mc_own mkX2_count := ⟨rfl, by decide +kernel⟩
set_option maxRecDepth 100000 in
theorem ckX2_kindAt : mc_all mkX2_kindAt = true := by decide +kernel
set_option maxRecDepth 100000 in
theorem coX2_kindAt : mc_own mkX2_kindAt := ⟨rfl, by decide +kernel⟩
set_option maxRecDepth 100000 in
theorem ckX2_takeLocals : mc_all mkX2_takeLocals = true := by decide +kernel
set_option maxRecDepth 100000 in
theorem coX2_takeLocals : mc_own mkX2_takeLocals := ⟨rfl, by decide +kernel⟩
set_option maxRecDepth 100000 in
theorem ckX2_takePile : mc_all mkX2_takePile = true := by decide +kernel
set_option maxRecDepth 100000 in
theorem coX2_takePile : mc_own mkX2_takePile := ⟨rfl, by decide +kernel⟩
set_option maxRecDepth 100000 in
theorem ckX2_beginsAlike : mc_all mkX2_beginsAlike = true := by decide +kernel
set_option maxRecDepth 100000 in
theorem coX2_beginsAlike : mc_own mkX2_beginsAlike := ⟨rfl, by decide +kernel⟩
set_option maxRecDepth 100000 in
theorem ckX2_take : mc_all mkX2_take = true := by decide +kernel
set_option maxRecDepth 100000 in
theorem coX2_take : mc_own mkX2_take := ⟨rfl, by decide +kernel⟩
set_option maxRecDepth 100000 in
theorem ckX3_init : mc_all mkX3_init = true := by decide +kernel
set_option maxRecDepth 100000 in
theorem coX3_init : mc_own mkX3_init := ⟨rfl, by decide +kernel⟩
set_option maxRecDepth 100000 in
theorem ckX3_count : mc_all mkX3_count = true := by decide +kernel
set_option maxRecDepth 100000 in
theorem coX3_count : mc_own mkX3_count := ⟨rfl, by decide +kernel⟩
set_option maxRecDepth 100000 in
theorem ckX3_instructionOf : mc_all mkX3_instructionOf = true := by decide +kernel
set_option maxRecDepth 100000 in
theorem coX3_instructionOf : mc_own mkX3_instructionOf := ⟨rfl, by decide +kernel⟩
set_option maxRecDepth 100000 in
theorem ckX3_given : mc_all mkX3_given = true := by decide +kernel
set_option maxRecDepth 100000 in
theorem coX3_given : mc_own mkX3_given := ⟨rfl, by decide +kernel⟩
set_option maxRecDepth 100000 in
theorem ckX3_numberAt : mc_all mkX3_numberAt = true := by decide +kernel
set_option maxRecDepth 100000 in
theorem coX3_numberAt : mc_own mkX3_numberAt := ⟨rfl, by decide +kernel⟩
set_option maxRecDepth 100000 in
theorem ckX3_gather : mc_all mkX3_gather = true := by decide +kernel
set_option maxRecDepth 100000 in
theorem coX3_gather : mc_own mkX3_gather := ⟨rfl, by decide +kernel⟩
set_option maxRecDepth 100000 in
theorem ckX3_markWhatIsMeantBy : mc_all mkX3_markWhatIsMeantBy = true := by decide +kernel
set_option maxRecDepth 100000 in
theorem coX3_markWhatIsMeantBy : mc_own mkX3_markWhatIsMeantBy := ⟨rfl, by decide +kernel⟩
set_option maxRecDepth 100000 in
theorem ckX3_mark : mc_all mkX3_mark = true := by decide +kernel
set_option maxRecDepth 100000 in
theorem coX3_mark : mc_own mkX3_mark := ⟨rfl, by decide +kernel⟩
set_option maxRecDepth 100000 in
theorem ckX3_add : mc_all mkX3_add = true := by decide +kernel
set_option maxRecDepth 100000 in
theorem coX3_add : mc_own mkX3_add := ⟨rfl, by decide +kernel⟩
set_option maxRecDepth 100000 in
theorem ckX4_init : mc_all mkX4_init = true := by decide +kernel
set_option maxRecDepth 100000 in
theorem coX4_init : mc_own mkX4_init := ⟨rfl, by decide +kernel⟩
set_option maxRecDepth 100000 in
theorem ckX4_firstWrong : mc_all mkX4_firstWrong = true := by decide +kernel
set_option maxRecDepth 100000 in
theorem coX4_firstWrong : mc_own mkX4_firstWrong := ⟨rfl, by decide +kernel⟩
set_option maxRecDepth 100000 in
theorem ckX4_takesFrame : mc_all mkX4_takesFrame = true := by decide +kernel
set_option maxRecDepth 100000 in
theorem coX4_takesFrame : mc_own mkX4_takesFrame := ⟨rfl, by decide +kernel⟩
set_option maxRecDepth 100000 in
theorem ckX4_passes : mc_all mkX4_passes = true := by decide +kernel
set_option maxRecDepth 100000 in
theorem coX4_passes : mc_own mkX4_passes := ⟨rfl, by decide +kernel⟩
set_option maxRecDepth 100000 in
theorem ckX4_handlersFit : mc_all mkX4_handlersFit = true := by decide +kernel
set_option maxRecDepth 100000 in
theorem coX4_handlersFit : mc_own mkX4_handlersFit := ⟨rfl, by decide +kernel⟩
set_option maxRecDepth 100000 in
theorem ckX4_fitsFrameOf : mc_all mkX4_fitsFrameOf = true := by decide +kernel
set_option maxRecDepth 100000 in
theorem coX4_fitsFrameOf : mc_own mkX4_fitsFrameOf := ⟨rfl, by decide +kernel⟩
set_option maxRecDepth 100000 in
theorem ckX5_init : mc_all mkX5_init = true := by decide +kernel
set_option maxRecDepth 100000 in
theorem coX5_init : mc_own mkX5_init := ⟨rfl, by decide +kernel⟩
set_option maxRecDepth 100000 in
theorem ckX5_suits : mc_all mkX5_suits = true := by decide +kernel
set_option maxRecDepth 100000 in
theorem coX5_suits : mc_own mkX5_suits := ⟨rfl, by decide +kernel⟩
set_option maxRecDepth 100000 in
theorem ckX5_pass : mc_all mkX5_pass = true := by decide +kernel
set_option maxRecDepth 100000 in
theorem coX5_pass : mc_own mkX5_pass := ⟨rfl, by decide +kernel⟩
set_option maxRecDepth 100000 in
theorem ckX5_work : mc_all mkX5_work = true := by decide +kernel
set_option maxRecDepth 100000 in
theorem coX5_work : mc_own mkX5_work := ⟨rfl, by decide +kernel⟩
set_option maxRecDepth 100000 in
theorem ckX6_init : mc_all mkX6_init = true := by decide +kernel
set_option maxRecDepth 100000 in
theorem coX6_init : mc_own mkX6_init := ⟨rfl, by decide +kernel⟩
set_option maxRecDepth 100000 in
theorem ckX6_found : mc_all mkX6_found = true := by decide +kernel
set_option maxRecDepth 100000 in
theorem coX6_found : mc_own mkX6_found := ⟨rfl, by decide +kernel⟩
set_option maxRecDepth 100000 in
theorem ckX6_lookForFault : mc_all mkX6_lookForFault = true := by decide +kernel
set_option maxRecDepth 100000 in
theorem coX6_lookForFault : mc_own mkX6_lookForFault := ⟨rfl, by decide +kernel⟩
set_option maxRecDepth 100000 in
theorem ckX6_followWays : mc_all mkX6_followWays = true := by decide +kernel
set_option maxRecDepth 100000 in
theorem coX6_followWays : mc_own mkX6_followWays := ⟨rfl, by decide +kernel⟩
set_option maxRecDepth 100000 in
theorem ckX6_seenAt : mc_all mkX6_seenAt = true := by decide +kernel
set_option maxRecDepth 100000 in
theorem coX6_seenAt : mc_own mkX6_seenAt := ⟨rfl, by decide +kernel⟩
set_option maxRecDepth 100000 in
theorem ckX6_come : mc_all mkX6_come = true := by decide +kernel
set_option maxRecDepth 100000 in
theorem coX6_come : mc_own mkX6_come := ⟨rfl, by decide +kernel⟩
set_option maxRecDepth 100000 in
theorem ckX6_leave : mc_all mkX6_leave = true := by decide +kernel
set_option maxRecDepth 100000 in
theorem coX6_leave : mc_own mkX6_leave := ⟨rfl, by decide +kernel⟩
set_option maxRecDepth 100000 in
theorem ckX6_goOn : mc_all mkX6_goOn = true := by decide +kernel
set_option maxRecDepth 100000 in
theorem coX6_goOn : mc_own mkX6_goOn := ⟨rfl, by decide +kernel⟩
set_option maxRecDepth 100000 in
theorem ckX6_comesWith : mc_all mkX6_comesWith = true := by decide +kernel
set_option maxRecDepth 100000 in
theorem coX6_comesWith : mc_own mkX6_comesWith := ⟨rfl, by decide +kernel⟩
set_option maxRecDepth 100000 in
theorem ckX6_fits : mc_all mkX6_fits = true := by decide +kernel
set_option maxRecDepth 100000 in
theorem coX6_fits : mc_own mkX6_fits := ⟨rfl, by decide +kernel⟩
set_option maxRecDepth 100000 in
theorem ckX6_faultAt : mc_all mkX6_faultAt = true := by decide +kernel
set_option maxRecDepth 100000 in
theorem coX6_faultAt : mc_own mkX6_faultAt := ⟨rfl, by decide +kernel⟩
set_option maxRecDepth 100000 in
theorem ckX6_leadsOut : mc_all mkX6_leadsOut = true := by decide +kernel
set_option maxRecDepth 100000 in
theorem coX6_leadsOut : mc_own mkX6_leadsOut := ⟨rfl, by decide +kernel⟩
set_option maxRecDepth 100000 in
theorem ckX6_handlerLeadsOut : mc_all mkX6_handlerLeadsOut = true := by decide +kernel
set_option maxRecDepth 100000 in
theorem coX6_handlerLeadsOut : mc_own mkX6_handlerLeadsOut := ⟨rfl, by decide +kernel⟩
set_option maxRecDepth 100000 in
theorem ckX7_init : mc_all mkX7_init = true := by decide +kernel
set_option maxRecDepth 100000 in
theorem coX7_init : mc_own mkX7_init := ⟨rfl, by decide +kernel⟩
set_option maxRecDepth 100000 in
theorem ckX7_isReached : mc_all mkX7_isReached = true := by decide +kernel
set_option maxRecDepth 100000 in
theorem coX7_isReached : mc_own mkX7_isReached := ⟨rfl, by decide +kernel⟩
set_option maxRecDepth 100000 in
theorem ckX7_row : mc_all mkX7_row = true := by decide +kernel
set_option maxRecDepth 100000 in
theorem coX7_row : mc_own mkX7_row := ⟨rfl, by decide +kernel⟩
set_option maxRecDepth 100000 in
theorem ckX7_countReached : mc_all mkX7_countReached = true := by decide +kernel
set_option maxRecDepth 100000 in
theorem coX7_countReached : mc_own mkX7_countReached := ⟨rfl, by decide +kernel⟩
set_option maxRecDepth 100000 in
theorem ckX7_workOut : mc_all mkX7_workOut = true := by decide +kernel
set_option maxRecDepth 100000 in
theorem coX7_workOut : mc_own mkX7_workOut := ⟨rfl, by decide +kernel⟩
set_option maxRecDepth 100000 in
theorem ckX7_firstUnsuited : mc_all mkX7_firstUnsuited = true := by decide +kernel
set_option maxRecDepth 100000 in
theorem coX7_firstUnsuited : mc_own mkX7_firstUnsuited := ⟨rfl, by decide +kernel⟩
set_option maxRecDepth 100000 in
theorem ckX7_leave : mc_all mkX7_leave = true := by decide +kernel
set_option maxRecDepth 100000 in
theorem coX7_leave : mc_own mkX7_leave := ⟨rfl, by decide +kernel⟩
set_option maxRecDepth 100000 in
theorem ckX7_meet : mc_all mkX7_meet = true := by decide +kernel
set_option maxRecDepth 100000 in
theorem coX7_meet : mc_own mkX7_meet := ⟨rfl, by decide +kernel⟩
set_option maxRecDepth 100000 in
theorem ckX8_init : mc_all mkX8_init = true := by decide +kernel
set_option maxRecDepth 100000 in
theorem coX8_init : mc_own mkX8_init := ⟨rfl, by decide +kernel⟩
set_option maxRecDepth 100000 in
theorem ckX8_row : mc_all mkX8_row = true := by decide +kernel
set_option maxRecDepth 100000 in
theorem coX8_row : mc_own mkX8_row := ⟨rfl, by decide +kernel⟩
set_option maxRecDepth 100000 in
theorem ckX9_init : mc_all mkX9_init = true := by decide +kernel
set_option maxRecDepth 100000 in
theorem coX9_init : mc_own mkX9_init := ⟨rfl, by decide +kernel⟩
set_option maxRecDepth 100000 in
theorem ckX9_count : mc_all mkX9_count = true := by decide +kernel
set_option maxRecDepth 100000 in
theorem coX9_count : mc_own mkX9_count := ⟨rfl, by decide +kernel⟩
set_option maxRecDepth 100000 in
theorem ckX9_has : mc_all mkX9_has = true := by decide +kernel
set_option maxRecDepth 100000 in
theorem coX9_has : mc_own mkX9_has := ⟨rfl, by decide +kernel⟩
set_option maxRecDepth 100000 in
theorem ckX9_isFace : mc_all mkX9_isFace = true := by decide +kernel
set_option maxRecDepth 100000 in
theorem coX9_isFace : mc_own mkX9_isFace := ⟨rfl, by decide +kernel⟩
set_option maxRecDepth 100000 in
theorem ckX9_add : mc_all mkX9_add = true := by decide +kernel
set_option maxRecDepth 100000 in
theorem coX9_add : mc_own mkX9_add := ⟨rfl, by decide +kernel⟩
set_option maxRecDepth 100000 in
theorem ckX9_isThing : mc_all mkX9_isThing = true := by decide +kernel
set_option maxRecDepth 100000 in
theorem coX9_isThing : mc_own mkX9_isThing := ⟨rfl, by decide +kernel⟩
set_option maxRecDepth 100000 in
theorem ckX9_isReference : mc_all mkX9_isReference = true := by decide +kernel
set_option maxRecDepth 100000 in
theorem coX9_isReference : mc_own mkX9_isReference := ⟨rfl, by decide +kernel⟩
set_option maxRecDepth 100000 in
theorem ckX9_isPlain : mc_all mkX9_isPlain = true := by decide +kernel
set_option maxRecDepth 100000 in
theorem coX9_isPlain : mc_own mkX9_isPlain := ⟨rfl, by decide +kernel⟩
set_option maxRecDepth 100000 in
theorem ckX9_isKind : mc_all mkX9_isKind = true := by decide +kernel
set_option maxRecDepth 100000 in
theorem coX9_isKind : mc_own mkX9_isKind := ⟨rfl, by decide +kernel⟩
set_option maxRecDepth 100000 in
theorem ckX9_standsFor : mc_all mkX9_standsFor = true := by decide +kernel
set_option maxRecDepth 100000 in
theorem coX9_standsFor : mc_own mkX9_standsFor := ⟨rfl, by decide +kernel⟩
set_option maxRecDepth 100000 in
theorem ckX9_join : mc_all mkX9_join = true := by decide +kernel
set_option maxRecDepth 100000 in
theorem coX9_join : mc_own mkX9_join := ⟨rfl, by decide +kernel⟩
set_option maxRecDepth 100000 in
theorem ckX9_nearest : mc_all mkX9_nearest = true := by decide +kernel
set_option maxRecDepth 100000 in
theorem coX9_nearest : mc_own mkX9_nearest := ⟨rfl, by decide +kernel⟩
set_option maxRecDepth 100000 in
theorem ckX9_share : mc_all mkX9_share = true := by decide +kernel
set_option maxRecDepth 100000 in
theorem coX9_share : mc_own mkX9_share := ⟨rfl, by decide +kernel⟩
set_option maxRecDepth 100000 in
theorem ckX10_init : mc_all mkX10_init = true := by decide +kernel
set_option maxRecDepth 100000 in
theorem coX10_init : mc_own mkX10_init := ⟨rfl, by decide +kernel⟩
set_option maxRecDepth 100000 in
theorem ckX10_length : mc_all mkX10_length = true := by decide +kernel
set_option maxRecDepth 100000 in
theorem coX10_length : mc_own mkX10_length := ⟨rfl, by decide +kernel⟩
set_option maxRecDepth 100000 in
theorem ckX10_has : mc_all mkX10_has = true := by decide +kernel
set_option maxRecDepth 100000 in
theorem coX10_has : mc_own mkX10_has := ⟨rfl, by decide +kernel⟩
set_option maxRecDepth 100000 in
theorem ckX10_byteAt : mc_all mkX10_byteAt = true := by decide +kernel
set_option maxRecDepth 100000 in
theorem coX10_byteAt : mc_own mkX10_byteAt := ⟨rfl, by decide +kernel⟩
set_option maxRecDepth 100000 in
theorem ckX10_write : mc_all mkX10_write = true := by decide +kernel
set_option maxRecDepth 100000 in
theorem coX10_write : mc_own mkX10_write := ⟨rfl, by decide +kernel⟩
set_option maxRecDepth 100000 in
theorem ckX10_writeOne : mc_all mkX10_writeOne = true := by decide +kernel
set_option maxRecDepth 100000 in
theorem coX10_writeOne : mc_own mkX10_writeOne := ⟨rfl, by decide +kernel⟩
set_option maxRecDepth 100000 in
theorem ckX10_addEntries : mc_all mkX10_addEntries = true := by decide +kernel
set_option maxRecDepth 100000 in
theorem coX10_addEntries : mc_own mkX10_addEntries := ⟨rfl, by decide +kernel⟩
set_option maxRecDepth 100000 in
theorem ckX10_addKind : mc_all mkX10_addKind = true := by decide +kernel
set_option maxRecDepth 100000 in
theorem coX10_addKind : mc_own mkX10_addKind := ⟨rfl, by decide +kernel⟩
set_option maxRecDepth 100000 in
theorem ckX10_add : mc_all mkX10_add = true := by decide +kernel
set_option maxRecDepth 100000 in
theorem coX10_add : mc_own mkX10_add := ⟨rfl, by decide +kernel⟩
set_option maxRecDepth 100000 in
theorem ckX11_init : mc_all mkX11_init = true := by decide +kernel
set_option maxRecDepth 100000 in
theorem coX11_init : mc_own mkX11_init := ⟨rfl, by decide +kernel⟩
set_option maxRecDepth 100000 in
theorem ckX11_type : mc_all mkX11_type = true := by decide +kernel
set_option maxRecDepth 100000 in
theorem coX11_type : mc_own mkX11_type := ⟨rfl, by decide +kernel⟩
set_option maxRecDepth 100000 in
theorem ckX11_local : mc_all mkX11_local = true := by decide +kernel
set_option maxRecDepth 100000 in
theorem coX11_local : mc_own mkX11_local := ⟨rfl, by decide +kernel⟩
set_option maxRecDepth 100000 in
theorem ckX11_op : mc_all mkX11_op = true := by decide +kernel
set_option maxRecDepth 100000 in
theorem coX11_op : mc_own mkX11_op := ⟨rfl, by decide +kernel⟩
set_option maxRecDepth 100000 in
theorem ckX11_handler : mc_all mkX11_handler = true := by decide +kernel
set_option maxRecDepth 100000 in
theorem coX11_handler : mc_own mkX11_handler := ⟨rfl, by decide +kernel⟩
set_option maxRecDepth 100000 in
theorem ckX11_make : mc_all mkX11_make = true := by decide +kernel
set_option maxRecDepth 100000 in
theorem coX11_make : mc_own mkX11_make := ⟨rfl, by decide +kernel⟩
set_option maxRecDepth 100000 in
theorem ckX11_fault : mc_all mkX11_fault = true := by decide +kernel
set_option maxRecDepth 100000 in
theorem coX11_fault : mc_own mkX11_fault := ⟨rfl, by decide +kernel⟩
set_option maxRecDepth 100000 in
theorem ckX11_state : mc_all mkX11_state = true := by decide +kernel
set_option maxRecDepth 100000 in
theorem coX11_state : mc_own mkX11_state := ⟨rfl, by decide +kernel⟩
set_option maxRecDepth 100000 in
theorem ckX11_frame : mc_all mkX11_frame = true := by decide +kernel
set_option maxRecDepth 100000 in
theorem coX11_frame : mc_own mkX11_frame := ⟨rfl, by decide +kernel⟩
set_option maxRecDepth 100000 in
theorem ckX11_packed : mc_all mkX11_packed = true := by decide +kernel
set_option maxRecDepth 100000 in
theorem coX11_packed : mc_own mkX11_packed := ⟨rfl, by decide +kernel⟩
set_option maxRecDepth 100000 in
theorem ckX11_plant : mc_all mkX11_plant = true := by decide +kernel
set_option maxRecDepth 100000 in
theorem coX11_plant : mc_own mkX11_plant := ⟨rfl, by decide +kernel⟩
set_option maxRecDepth 100000 in
theorem ckX11_judge : mc_all mkX11_judge = true := by decide +kernel
set_option maxRecDepth 100000 in
theorem coX11_judge : mc_own mkX11_judge := ⟨rfl, by decide +kernel⟩
set_option maxRecDepth 100000 in
theorem ckX11_joined : mc_all mkX11_joined = true := by decide +kernel
set_option maxRecDepth 100000 in
theorem coX11_joined : mc_own mkX11_joined := ⟨rfl, by decide +kernel⟩
set_option maxRecDepth 100000 in
theorem ckX11_goes : mc_all mkX11_goes = true := by decide +kernel
set_option maxRecDepth 100000 in
theorem coX11_goes : mc_own mkX11_goes := ⟨rfl, by decide +kernel⟩
set_option maxRecDepth 100000 in
theorem ckX11_told : mc_all mkX11_told = true := by decide +kernel
set_option maxRecDepth 100000 in
theorem coX11_told : mc_own mkX11_told := ⟨rfl, by decide +kernel⟩
set_option maxRecDepth 100000 in
theorem ckX11_changed : mc_all mkX11_changed = true := by decide +kernel
set_option maxRecDepth 100000 in
theorem coX11_changed : mc_own mkX11_changed := ⟨rfl, by decide +kernel⟩
set_option maxRecDepth 100000 in
theorem ckX11_isNumberFor : mc_all mkX11_isNumberFor = true := by decide +kernel
set_option maxRecDepth 100000 in
theorem coX11_isNumberFor : mc_own mkX11_isNumberFor := ⟨rfl, by decide +kernel⟩
set_option maxRecDepth 100000 in
theorem ckX11_isBegun : mc_all mkX11_isBegun = true := by decide +kernel
set_option maxRecDepth 100000 in
theorem coX11_isBegun : mc_own mkX11_isBegun := ⟨rfl, by decide +kernel⟩
set_option maxRecDepth 100000 in
theorem ckX11_isWhole : mc_all mkX11_isWhole = true := by decide +kernel
set_option maxRecDepth 100000 in
theorem coX11_isWhole : mc_own mkX11_isWhole := ⟨rfl, by decide +kernel⟩
set_option maxRecDepth 100000 in
theorem ckX11_isLong : mc_all mkX11_isLong = true := by decide +kernel
set_option maxRecDepth 100000 in
theorem coX11_isLong : mc_own mkX11_isLong := ⟨rfl, by decide +kernel⟩
set_option maxRecDepth 100000 in
theorem ckX11_takes : mc_all mkX11_takes = true := by decide +kernel
set_option maxRecDepth 100000 in
theorem coX11_takes : mc_own mkX11_takes := ⟨rfl, by decide +kernel⟩
set_option maxRecDepth 100000 in
theorem ckX11_gives : mc_all mkX11_gives = true := by decide +kernel
set_option maxRecDepth 100000 in
theorem coX11_gives : mc_own mkX11_gives := ⟨rfl, by decide +kernel⟩
set_option maxRecDepth 100000 in
theorem ckX12_init : mc_all mkX12_init = true := by decide +kernel
set_option maxRecDepth 100000 in
theorem coX12_init : mc_own mkX12_init := ⟨rfl, by decide +kernel⟩
set_option maxRecDepth 100000 in
theorem ckX12_thrown : mc_all mkX12_thrown = true := by decide +kernel
set_option maxRecDepth 100000 in
theorem coX12_thrown : mc_own mkX12_thrown := ⟨rfl, by decide +kernel⟩
set_option maxRecDepth 100000 in
theorem ckX12_isIn : mc_all mkX12_isIn = true := by decide +kernel
set_option maxRecDepth 100000 in
theorem coX12_isIn : mc_own mkX12_isIn := ⟨rfl, by decide +kernel⟩
set_option maxRecDepth 100000 in
theorem ckX12_isType : mc_all mkX12_isType = true := by decide +kernel
set_option maxRecDepth 100000 in
theorem coX12_isType : mc_own mkX12_isType := ⟨rfl, by decide +kernel⟩
set_option maxRecDepth 100000 in
theorem ckX12_isKind : mc_all mkX12_isKind = true := by decide +kernel
set_option maxRecDepth 100000 in
theorem coX12_isKind : mc_own mkX12_isKind := ⟨rfl, by decide +kernel⟩
set_option maxRecDepth 100000 in
theorem ckX12_isThing : mc_all mkX12_isThing = true := by decide +kernel
set_option maxRecDepth 100000 in
theorem coX12_isThing : mc_own mkX12_isThing := ⟨rfl, by decide +kernel⟩
set_option maxRecDepth 100000 in
theorem ckX12_isThingOrNull : mc_all mkX12_isThingOrNull = true := by decide +kernel
set_option maxRecDepth 100000 in
theorem coX12_isThingOrNull : mc_own mkX12_isThingOrNull := ⟨rfl, by decide +kernel⟩
set_option maxRecDepth 100000 in
theorem ckX12_comes : mc_all mkX12_comes = true := by decide +kernel
set_option maxRecDepth 100000 in
theorem coX12_comes : mc_own mkX12_comes := ⟨rfl, by decide +kernel⟩
set_option maxRecDepth 100000 in
theorem ckX12_goesFor : mc_all mkX12_goesFor = true := by decide +kernel
set_option maxRecDepth 100000 in
theorem coX12_goesFor : mc_own mkX12_goesFor := ⟨rfl, by decide +kernel⟩
set_option maxRecDepth 100000 in
theorem ckX12_join : mc_all mkX12_join = true := by decide +kernel
set_option maxRecDepth 100000 in
theorem coX12_join : mc_own mkX12_join := ⟨rfl, by decide +kernel⟩
set_option maxRecDepth 100000 in
theorem ckX12_joined : mc_all mkX12_joined = true := by decide +kernel
set_option maxRecDepth 100000 in
theorem coX12_joined : mc_own mkX12_joined := ⟨rfl, by decide +kernel⟩
set_option maxRecDepth 100000 in
theorem ckX12_goes : mc_all mkX12_goes = true := by decide +kernel
set_option maxRecDepth 100000 in
theorem coX12_goes : mc_own mkX12_goes := ⟨rfl, by decide +kernel⟩
set_option maxRecDepth 100000 in
theorem ckX12_ends : mc_all mkX12_ends = true := by decide +kernel
set_option maxRecDepth 100000 in
theorem coX12_ends : mc_own mkX12_ends := ⟨rfl, by decide +kernel⟩
set_option maxRecDepth 100000 in
theorem ckX12_type : mc_all mkX12_type = true := by decide +kernel
set_option maxRecDepth 100000 in
theorem coX12_type : mc_own mkX12_type := ⟨rfl, by decide +kernel⟩
set_option maxRecDepth 100000 in
theorem ckX12_lay : mc_all mkX12_lay = true := by decide +kernel
set_option maxRecDepth 100000 in
theorem coX12_lay : mc_own mkX12_lay := ⟨rfl, by decide +kernel⟩
set_option maxRecDepth 100000 in
theorem ckX12_layLong : mc_all mkX12_layLong = true := by decide +kernel
set_option maxRecDepth 100000 in
theorem coX12_layLong : mc_own mkX12_layLong := ⟨rfl, by decide +kernel⟩
set_option maxRecDepth 100000 in
theorem ckX12_local : mc_all mkX12_local = true := by decide +kernel
set_option maxRecDepth 100000 in
theorem coX12_local : mc_own mkX12_local := ⟨rfl, by decide +kernel⟩
set_option maxRecDepth 100000 in
theorem ckX12_op : mc_all mkX12_op = true := by decide +kernel
set_option maxRecDepth 100000 in
theorem coX12_op : mc_own mkX12_op := ⟨rfl, by decide +kernel⟩
set_option maxRecDepth 100000 in
theorem ckX12_handler : mc_all mkX12_handler = true := by decide +kernel
set_option maxRecDepth 100000 in
theorem coX12_handler : mc_own mkX12_handler := ⟨rfl, by decide +kernel⟩
set_option maxRecDepth 100000 in
theorem ckX12_takes : mc_all mkX12_takes = true := by decide +kernel
set_option maxRecDepth 100000 in
theorem coX12_takes : mc_own mkX12_takes := ⟨rfl, by decide +kernel⟩
set_option maxRecDepth 100000 in
theorem ckX12_gives : mc_all mkX12_gives = true := by decide +kernel
set_option maxRecDepth 100000 in
theorem coX12_gives : mc_own mkX12_gives := ⟨rfl, by decide +kernel⟩
set_option maxRecDepth 100000 in
theorem ckX12_goesOn : mc_all mkX12_goesOn = true := by decide +kernel
set_option maxRecDepth 100000 in
theorem coX12_goesOn : mc_own mkX12_goesOn := ⟨rfl, by decide +kernel⟩
set_option maxRecDepth 100000 in
theorem ckX12_leads : mc_all mkX12_leads = true := by decide +kernel
set_option maxRecDepth 100000 in
theorem coX12_leads : mc_own mkX12_leads := ⟨rfl, by decide +kernel⟩
set_option maxRecDepth 100000 in
theorem ckX12_fitsHigh : mc_all mkX12_fitsHigh = true := by decide +kernel
set_option maxRecDepth 100000 in
theorem coX12_fitsHigh : mc_own mkX12_fitsHigh := ⟨rfl, by decide +kernel⟩
set_option maxRecDepth 100000 in
theorem ckX12_come : mc_all mkX12_come = true := by decide +kernel
set_option maxRecDepth 100000 in
theorem coX12_come : mc_own mkX12_come := ⟨rfl, by decide +kernel⟩
set_option maxRecDepth 100000 in
theorem ckX12_walk : mc_all mkX12_walk = true := by decide +kernel
set_option maxRecDepth 100000 in
theorem coX12_walk : mc_own mkX12_walk := ⟨rfl, by decide +kernel⟩
set_option maxRecDepth 100000 in
theorem ckX12_goAlong : mc_all mkX12_goAlong = true := by decide +kernel
set_option maxRecDepth 100000 in
theorem coX12_goAlong : mc_own mkX12_goAlong := ⟨rfl, by decide +kernel⟩
set_option maxRecDepth 100000 in
theorem ckX12_highOf : mc_all mkX12_highOf = true := by decide +kernel
set_option maxRecDepth 100000 in
theorem coX12_highOf : mc_own mkX12_highOf := ⟨rfl, by decide +kernel⟩
set_option maxRecDepth 100000 in
theorem ckX12_top : mc_all mkX12_top = true := by decide +kernel
set_option maxRecDepth 100000 in
theorem coX12_top : mc_own mkX12_top := ⟨rfl, by decide +kernel⟩
set_option maxRecDepth 100000 in
theorem ckX12_isLongOnTop : mc_all mkX12_isLongOnTop = true := by decide +kernel
set_option maxRecDepth 100000 in
theorem coX12_isLongOnTop : mc_own mkX12_isLongOnTop := ⟨rfl, by decide +kernel⟩
set_option maxRecDepth 100000 in
theorem ckX12_isHalfOrLong : mc_all mkX12_isHalfOrLong = true := by decide +kernel
set_option maxRecDepth 100000 in
theorem coX12_isHalfOrLong : mc_own mkX12_isHalfOrLong := ⟨rfl, by decide +kernel⟩
set_option maxRecDepth 100000 in
theorem ckX12_isWanted : mc_all mkX12_isWanted = true := by decide +kernel
set_option maxRecDepth 100000 in
theorem coX12_isWanted : mc_own mkX12_isWanted := ⟨rfl, by decide +kernel⟩
set_option maxRecDepth 100000 in
theorem ckX12_push : mc_all mkX12_push = true := by decide +kernel
set_option maxRecDepth 100000 in
theorem coX12_push : mc_own mkX12_push := ⟨rfl, by decide +kernel⟩
set_option maxRecDepth 100000 in
theorem ckX12_pushLong : mc_all mkX12_pushLong = true := by decide +kernel
set_option maxRecDepth 100000 in
theorem coX12_pushLong : mc_own mkX12_pushLong := ⟨rfl, by decide +kernel⟩
set_option maxRecDepth 100000 in
theorem ckX12_becomes : mc_all mkX12_becomes = true := by decide +kernel
set_option maxRecDepth 100000 in
theorem coX12_becomes : mc_own mkX12_becomes := ⟨rfl, by decide +kernel⟩
set_option maxRecDepth 100000 in
theorem ckX12_work : mc_all mkX12_work = true := by decide +kernel
set_option maxRecDepth 100000 in
theorem coX12_work : mc_own mkX12_work := ⟨rfl, by decide +kernel⟩
set_option maxRecDepth 100000 in
theorem ckX12_takeUp : mc_all mkX12_takeUp = true := by decide +kernel
set_option maxRecDepth 100000 in
theorem coX12_takeUp : mc_own mkX12_takeUp := ⟨rfl, by decide +kernel⟩
set_option maxRecDepth 100000 in
theorem ckX12_joins : mc_all mkX12_joins = true := by decide +kernel
set_option maxRecDepth 100000 in
theorem coX12_joins : mc_own mkX12_joins := ⟨rfl, by decide +kernel⟩
set_option maxRecDepth 100000 in
theorem ckX12_bring : mc_all mkX12_bring = true := by decide +kernel
set_option maxRecDepth 100000 in
theorem coX12_bring : mc_own mkX12_bring := ⟨rfl, by decide +kernel⟩
set_option maxRecDepth 100000 in
theorem ckX12_settle : mc_all mkX12_settle = true := by decide +kernel
set_option maxRecDepth 100000 in
theorem coX12_settle : mc_own mkX12_settle := ⟨rfl, by decide +kernel⟩
set_option maxRecDepth 100000 in
theorem ckX12_isFrame : mc_all mkX12_isFrame = true := by decide +kernel
set_option maxRecDepth 100000 in
theorem coX12_isFrame : mc_own mkX12_isFrame := ⟨rfl, by decide +kernel⟩
set_option maxRecDepth 100000 in
theorem ckX12_list : mc_all mkX12_list = true := by decide +kernel
set_option maxRecDepth 100000 in
theorem coX12_list : mc_own mkX12_list := ⟨rfl, by decide +kernel⟩
set_option maxRecDepth 100000 in
theorem ckX12_keepEntries : mc_all mkX12_keepEntries = true := by decide +kernel
set_option maxRecDepth 100000 in
theorem coX12_keepEntries : mc_own mkX12_keepEntries := ⟨rfl, by decide +kernel⟩
set_option maxRecDepth 100000 in
theorem ckX12_put : mc_all mkX12_put = true := by decide +kernel
set_option maxRecDepth 100000 in
theorem coX12_put : mc_own mkX12_put := ⟨rfl, by decide +kernel⟩
set_option maxRecDepth 100000 in
theorem ckX12_putEntry : mc_all mkX12_putEntry = true := by decide +kernel
set_option maxRecDepth 100000 in
theorem coX12_putEntry : mc_own mkX12_putEntry := ⟨rfl, by decide +kernel⟩
set_option maxRecDepth 100000 in
theorem ckX12_putEntries : mc_all mkX12_putEntries = true := by decide +kernel
set_option maxRecDepth 100000 in
theorem coX12_putEntries : mc_own mkX12_putEntries := ⟨rfl, by decide +kernel⟩
set_option maxRecDepth 100000 in
theorem ckX12_pileMany : mc_all mkX12_pileMany = true := by decide +kernel
set_option maxRecDepth 100000 in
theorem coX12_pileMany : mc_own mkX12_pileMany := ⟨rfl, by decide +kernel⟩
set_option maxRecDepth 100000 in
theorem ckX12_putPile : mc_all mkX12_putPile = true := by decide +kernel
set_option maxRecDepth 100000 in
theorem coX12_putPile : mc_own mkX12_putPile := ⟨rfl, by decide +kernel⟩
set_option maxRecDepth 100000 in
theorem ckX12_write : mc_all mkX12_write = true := by decide +kernel
set_option maxRecDepth 100000 in
theorem coX12_write : mc_own mkX12_write := ⟨rfl, by decide +kernel⟩
set_option maxRecDepth 100000 in
theorem ckX12_frame : mc_all mkX12_frame = true := by decide +kernel
set_option maxRecDepth 100000 in
theorem coX12_frame : mc_own mkX12_frame := ⟨rfl, by decide +kernel⟩
set_option maxRecDepth 100000 in
theorem ckX12_faultOf : mc_all mkX12_faultOf = true := by decide +kernel
set_option maxRecDepth 100000 in
theorem coX12_faultOf : mc_own mkX12_faultOf := ⟨rfl, by decide +kernel⟩
set_option maxRecDepth 100000 in
theorem ckX12_make : mc_all mkX12_make = true := by decide +kernel
set_option maxRecDepth 100000 in
theorem coX12_make : mc_own mkX12_make := ⟨rfl, by decide +kernel⟩
set_option maxRecDepth 100000 in
theorem ckX12_fault : mc_all mkX12_fault = true := by decide +kernel
set_option maxRecDepth 100000 in
theorem coX12_fault : mc_own mkX12_fault := ⟨rfl, by decide +kernel⟩
set_option maxRecDepth 100000 in
theorem ckX12_state : mc_all mkX12_state = true := by decide +kernel
set_option maxRecDepth 100000 in
theorem coX12_state : mc_own mkX12_state := ⟨rfl, by decide +kernel⟩
set_option maxRecDepth 100000 in
theorem ckX12_frame_ : mc_all mkX12_frame_ = true := by decide +kernel
set_option maxRecDepth 100000 in
theorem coX12_frame_ : mc_own mkX12_frame_ := ⟨rfl, by decide +kernel⟩
set_option maxRecDepth 100000 in
theorem ckX12_packed : mc_all mkX12_packed = true := by decide +kernel
set_option maxRecDepth 100000 in
theorem coX12_packed : mc_own mkX12_packed := ⟨rfl, by decide +kernel⟩
set_option maxRecDepth 100000 in
theorem ckX12_out : mc_all mkX12_out = true := by decide +kernel
set_option maxRecDepth 100000 in
theorem coX12_out : mc_own mkX12_out := ⟨rfl, by decide +kernel⟩
set_option maxRecDepth 100000 in
theorem ckX12_plant : mc_all mkX12_plant = true := by decide +kernel
set_option maxRecDepth 100000 in
theorem coX12_plant : mc_own mkX12_plant := ⟨rfl, by decide +kernel⟩
set_option maxRecDepth 100000 in
theorem ckX12_goFor : mc_all mkX12_goFor = true := by decide +kernel
set_option maxRecDepth 100000 in
theorem coX12_goFor : mc_own mkX12_goFor := ⟨rfl, by decide +kernel⟩
set_option maxRecDepth 100000 in
theorem ckX12_handlersGo : mc_all mkX12_handlersGo = true := by decide +kernel
set_option maxRecDepth 100000 in
theorem coX12_handlersGo : mc_own mkX12_handlersGo := ⟨rfl, by decide +kernel⟩
set_option maxRecDepth 100000 in
theorem ckX12_judge : mc_all mkX12_judge = true := by decide +kernel
set_option maxRecDepth 100000 in
theorem coX12_judge : mc_own mkX12_judge := ⟨rfl, by decide +kernel⟩
set_option maxRecDepth 100000 in
theorem ckX12_told : mc_all mkX12_told = true := by decide +kernel
set_option maxRecDepth 100000 in
theorem coX12_told : mc_own mkX12_told := ⟨rfl, by decide +kernel⟩
set_option maxRecDepth 100000 in
theorem ckJ6_bitCount_0f7a4 : mc_all mkJ6_bitCount_0f7a4 = true := by decide +kernel
set_option maxRecDepth 100000 in
theorem coJ6_bitCount_0f7a4 : mc_own mkJ6_bitCount_0f7a4 := ⟨rfl, by decide +kernel⟩
set_option maxRecDepth 100000 in
theorem ck_all : ∀ t ∈ mc_tab, mc_all t = true ∧ mc_own t := by
  unfold mc_tab
  exact List.forall_mem_cons.mpr ⟨⟨ckX0_init, coX0_init⟩, List.forall_mem_cons.mpr ⟨⟨ckX0_height, coX0_height⟩, List.forall_mem_cons.mpr ⟨⟨ckX0_holds, coX0_holds⟩, List.forall_mem_cons.mpr ⟨⟨ckX0_kindAt, coX0_kindAt⟩, List.forall_mem_cons.mpr ⟨⟨ckX0_put, coX0_put⟩, List.forall_mem_cons.mpr ⟨⟨ckX0_fromTop, coX0_fromTop⟩, List.forall_mem_cons.mpr ⟨⟨ckX0_push, coX0_push⟩, List.forall_mem_cons.mpr ⟨⟨ckX0_pushLong, coX0_pushLong⟩, List.forall_mem_cons.mpr ⟨⟨ckX0_drop, coX0_drop⟩, List.forall_mem_cons.mpr ⟨⟨ckX0_store, coX0_store⟩, List.forall_mem_cons.mpr ⟨⟨ckX0_storeLong, coX0_storeLong⟩, List.forall_mem_cons.mpr ⟨⟨ckX0_replaceAll, coX0_replaceAll⟩, List.forall_mem_cons.mpr ⟨⟨ckX0_becomeTops, coX0_becomeTops⟩, List.forall_mem_cons.mpr ⟨⟨ckX0_becomeLike, coX0_becomeLike⟩, List.forall_mem_cons.mpr ⟨⟨ckX0_becomeCaught, coX0_becomeCaught⟩, List.forall_mem_cons.mpr ⟨⟨ckX0_joinWith, coX0_joinWith⟩, List.forall_mem_cons.mpr ⟨⟨ckX0_allStandFor, coX0_allStandFor⟩, List.forall_mem_cons.mpr ⟨⟨ckX0_breakLong, coX0_breakLong⟩, List.forall_mem_cons.mpr ⟨⟨ckX1_init, coX1_init⟩, List.forall_mem_cons.mpr ⟨⟨ckX1_size, coX1_size⟩, List.forall_mem_cons.mpr ⟨⟨ckX1_handlers, coX1_handlers⟩, List.forall_mem_cons.mpr ⟨⟨ckX1_has, coX1_has⟩, List.forall_mem_cons.mpr ⟨⟨ckX1_add, coX1_add⟩, List.forall_mem_cons.mpr ⟨⟨ckX1_addHandler, coX1_addHandler⟩, List.forall_mem_cons.mpr ⟨⟨ckX1_opAt, coX1_opAt⟩, List.forall_mem_cons.mpr ⟨⟨ckX1_numberAt, coX1_numberAt⟩, List.forall_mem_cons.mpr ⟨⟨ckX1_goesOn, coX1_goesOn⟩, List.forall_mem_cons.mpr ⟨⟨ckX1_jumps, coX1_jumps⟩, List.forall_mem_cons.mpr ⟨⟨ckX1_covers, coX1_covers⟩, List.forall_mem_cons.mpr ⟨⟨ckX1_startOf, coX1_startOf⟩, List.forall_mem_cons.mpr ⟨⟨ckX1_thingOf, coX1_thingOf⟩, List.forall_mem_cons.mpr ⟨⟨ckX1_hasHandler, coX1_hasHandler⟩, List.forall_mem_cons.mpr ⟨⟨ckX2_init, coX2_init⟩, List.forall_mem_cons.mpr ⟨⟨ckX2_count, coX2_count⟩, List.forall_mem_cons.mpr ⟨⟨ckX2_kindAt, coX2_kindAt⟩, List.forall_mem_cons.mpr ⟨⟨ckX2_takeLocals, coX2_takeLocals⟩, List.forall_mem_cons.mpr ⟨⟨ckX2_takePile, coX2_takePile⟩, List.forall_mem_cons.mpr ⟨⟨ckX2_beginsAlike, coX2_beginsAlike⟩, List.forall_mem_cons.mpr ⟨⟨ckX2_take, coX2_take⟩, List.forall_mem_cons.mpr ⟨⟨ckX3_init, coX3_init⟩, List.forall_mem_cons.mpr ⟨⟨ckX3_count, coX3_count⟩, List.forall_mem_cons.mpr ⟨⟨ckX3_instructionOf, coX3_instructionOf⟩, List.forall_mem_cons.mpr ⟨⟨ckX3_given, coX3_given⟩, List.forall_mem_cons.mpr ⟨⟨ckX3_numberAt, coX3_numberAt⟩, List.forall_mem_cons.mpr ⟨⟨ckX3_gather, coX3_gather⟩, List.forall_mem_cons.mpr ⟨⟨ckX3_markWhatIsMeantBy, coX3_markWhatIsMeantBy⟩, List.forall_mem_cons.mpr ⟨⟨ckX3_mark, coX3_mark⟩, List.forall_mem_cons.mpr ⟨⟨ckX3_add, coX3_add⟩, List.forall_mem_cons.mpr ⟨⟨ckX4_init, coX4_init⟩, List.forall_mem_cons.mpr ⟨⟨ckX4_firstWrong, coX4_firstWrong⟩, List.forall_mem_cons.mpr ⟨⟨ckX4_takesFrame, coX4_takesFrame⟩, List.forall_mem_cons.mpr ⟨⟨ckX4_passes, coX4_passes⟩, List.forall_mem_cons.mpr ⟨⟨ckX4_handlersFit, coX4_handlersFit⟩, List.forall_mem_cons.mpr ⟨⟨ckX4_fitsFrameOf, coX4_fitsFrameOf⟩, List.forall_mem_cons.mpr ⟨⟨ckX5_init, coX5_init⟩, List.forall_mem_cons.mpr ⟨⟨ckX5_suits, coX5_suits⟩, List.forall_mem_cons.mpr ⟨⟨ckX5_pass, coX5_pass⟩, List.forall_mem_cons.mpr ⟨⟨ckX5_work, coX5_work⟩, List.forall_mem_cons.mpr ⟨⟨ckX6_init, coX6_init⟩, List.forall_mem_cons.mpr ⟨⟨ckX6_found, coX6_found⟩, List.forall_mem_cons.mpr ⟨⟨ckX6_lookForFault, coX6_lookForFault⟩, List.forall_mem_cons.mpr ⟨⟨ckX6_followWays, coX6_followWays⟩, List.forall_mem_cons.mpr ⟨⟨ckX6_seenAt, coX6_seenAt⟩, List.forall_mem_cons.mpr ⟨⟨ckX6_come, coX6_come⟩, List.forall_mem_cons.mpr ⟨⟨ckX6_leave, coX6_leave⟩, List.forall_mem_cons.mpr ⟨⟨ckX6_goOn, coX6_goOn⟩, List.forall_mem_cons.mpr ⟨⟨ckX6_comesWith, coX6_comesWith⟩, List.forall_mem_cons.mpr ⟨⟨ckX6_fits, coX6_fits⟩, List.forall_mem_cons.mpr ⟨⟨ckX6_faultAt, coX6_faultAt⟩, List.forall_mem_cons.mpr ⟨⟨ckX6_leadsOut, coX6_leadsOut⟩, List.forall_mem_cons.mpr ⟨⟨ckX6_handlerLeadsOut, coX6_handlerLeadsOut⟩, List.forall_mem_cons.mpr ⟨⟨ckX7_init, coX7_init⟩, List.forall_mem_cons.mpr ⟨⟨ckX7_isReached, coX7_isReached⟩, List.forall_mem_cons.mpr ⟨⟨ckX7_row, coX7_row⟩, List.forall_mem_cons.mpr ⟨⟨ckX7_countReached, coX7_countReached⟩, List.forall_mem_cons.mpr ⟨⟨ckX7_workOut, coX7_workOut⟩, List.forall_mem_cons.mpr ⟨⟨ckX7_firstUnsuited, coX7_firstUnsuited⟩, List.forall_mem_cons.mpr ⟨⟨ckX7_leave, coX7_leave⟩, List.forall_mem_cons.mpr ⟨⟨ckX7_meet, coX7_meet⟩, List.forall_mem_cons.mpr ⟨⟨ckX8_init, coX8_init⟩, List.forall_mem_cons.mpr ⟨⟨ckX8_row, coX8_row⟩, List.forall_mem_cons.mpr ⟨⟨ckX9_init, coX9_init⟩, List.forall_mem_cons.mpr ⟨⟨ckX9_count, coX9_count⟩, List.forall_mem_cons.mpr ⟨⟨ckX9_has, coX9_has⟩, List.forall_mem_cons.mpr ⟨⟨ckX9_isFace, coX9_isFace⟩, List.forall_mem_cons.mpr ⟨⟨ckX9_add, coX9_add⟩, List.forall_mem_cons.mpr ⟨⟨ckX9_isThing, coX9_isThing⟩, List.forall_mem_cons.mpr ⟨⟨ckX9_isReference, coX9_isReference⟩, List.forall_mem_cons.mpr ⟨⟨ckX9_isPlain, coX9_isPlain⟩, List.forall_mem_cons.mpr ⟨⟨ckX9_isKind, coX9_isKind⟩, List.forall_mem_cons.mpr ⟨⟨ckX9_standsFor, coX9_standsFor⟩, List.forall_mem_cons.mpr ⟨⟨ckX9_join, coX9_join⟩, List.forall_mem_cons.mpr ⟨⟨ckX9_nearest, coX9_nearest⟩, List.forall_mem_cons.mpr ⟨⟨ckX9_share, coX9_share⟩, List.forall_mem_cons.mpr ⟨⟨ckX10_init, coX10_init⟩, List.forall_mem_cons.mpr ⟨⟨ckX10_length, coX10_length⟩, List.forall_mem_cons.mpr ⟨⟨ckX10_has, coX10_has⟩, List.forall_mem_cons.mpr ⟨⟨ckX10_byteAt, coX10_byteAt⟩, List.forall_mem_cons.mpr ⟨⟨ckX10_write, coX10_write⟩, List.forall_mem_cons.mpr ⟨⟨ckX10_writeOne, coX10_writeOne⟩, List.forall_mem_cons.mpr ⟨⟨ckX10_addEntries, coX10_addEntries⟩, List.forall_mem_cons.mpr ⟨⟨ckX10_addKind, coX10_addKind⟩, List.forall_mem_cons.mpr ⟨⟨ckX10_add, coX10_add⟩, List.forall_mem_cons.mpr ⟨⟨ckX11_init, coX11_init⟩, List.forall_mem_cons.mpr ⟨⟨ckX11_type, coX11_type⟩, List.forall_mem_cons.mpr ⟨⟨ckX11_local, coX11_local⟩, List.forall_mem_cons.mpr ⟨⟨ckX11_op, coX11_op⟩, List.forall_mem_cons.mpr ⟨⟨ckX11_handler, coX11_handler⟩, List.forall_mem_cons.mpr ⟨⟨ckX11_make, coX11_make⟩, List.forall_mem_cons.mpr ⟨⟨ckX11_fault, coX11_fault⟩, List.forall_mem_cons.mpr ⟨⟨ckX11_state, coX11_state⟩, List.forall_mem_cons.mpr ⟨⟨ckX11_frame, coX11_frame⟩, List.forall_mem_cons.mpr ⟨⟨ckX11_packed, coX11_packed⟩, List.forall_mem_cons.mpr ⟨⟨ckX11_plant, coX11_plant⟩, List.forall_mem_cons.mpr ⟨⟨ckX11_judge, coX11_judge⟩, List.forall_mem_cons.mpr ⟨⟨ckX11_joined, coX11_joined⟩, List.forall_mem_cons.mpr ⟨⟨ckX11_goes, coX11_goes⟩, List.forall_mem_cons.mpr ⟨⟨ckX11_told, coX11_told⟩, List.forall_mem_cons.mpr ⟨⟨ckX11_changed, coX11_changed⟩, List.forall_mem_cons.mpr ⟨⟨ckX11_isNumberFor, coX11_isNumberFor⟩, List.forall_mem_cons.mpr ⟨⟨ckX11_isBegun, coX11_isBegun⟩, List.forall_mem_cons.mpr ⟨⟨ckX11_isWhole, coX11_isWhole⟩, List.forall_mem_cons.mpr ⟨⟨ckX11_isLong, coX11_isLong⟩, List.forall_mem_cons.mpr ⟨⟨ckX11_takes, coX11_takes⟩, List.forall_mem_cons.mpr ⟨⟨ckX11_gives, coX11_gives⟩, List.forall_mem_cons.mpr ⟨⟨ckX12_init, coX12_init⟩, List.forall_mem_cons.mpr ⟨⟨ckX12_thrown, coX12_thrown⟩, List.forall_mem_cons.mpr ⟨⟨ckX12_isIn, coX12_isIn⟩, List.forall_mem_cons.mpr ⟨⟨ckX12_isType, coX12_isType⟩, List.forall_mem_cons.mpr ⟨⟨ckX12_isKind, coX12_isKind⟩, List.forall_mem_cons.mpr ⟨⟨ckX12_isThing, coX12_isThing⟩, List.forall_mem_cons.mpr ⟨⟨ckX12_isThingOrNull, coX12_isThingOrNull⟩, List.forall_mem_cons.mpr ⟨⟨ckX12_comes, coX12_comes⟩, List.forall_mem_cons.mpr ⟨⟨ckX12_goesFor, coX12_goesFor⟩, List.forall_mem_cons.mpr ⟨⟨ckX12_join, coX12_join⟩, List.forall_mem_cons.mpr ⟨⟨ckX12_joined, coX12_joined⟩, List.forall_mem_cons.mpr ⟨⟨ckX12_goes, coX12_goes⟩, List.forall_mem_cons.mpr ⟨⟨ckX12_ends, coX12_ends⟩, List.forall_mem_cons.mpr ⟨⟨ckX12_type, coX12_type⟩, List.forall_mem_cons.mpr ⟨⟨ckX12_lay, coX12_lay⟩, List.forall_mem_cons.mpr ⟨⟨ckX12_layLong, coX12_layLong⟩, List.forall_mem_cons.mpr ⟨⟨ckX12_local, coX12_local⟩, List.forall_mem_cons.mpr ⟨⟨ckX12_op, coX12_op⟩, List.forall_mem_cons.mpr ⟨⟨ckX12_handler, coX12_handler⟩, List.forall_mem_cons.mpr ⟨⟨ckX12_takes, coX12_takes⟩, List.forall_mem_cons.mpr ⟨⟨ckX12_gives, coX12_gives⟩, List.forall_mem_cons.mpr ⟨⟨ckX12_goesOn, coX12_goesOn⟩, List.forall_mem_cons.mpr ⟨⟨ckX12_leads, coX12_leads⟩, List.forall_mem_cons.mpr ⟨⟨ckX12_fitsHigh, coX12_fitsHigh⟩, List.forall_mem_cons.mpr ⟨⟨ckX12_come, coX12_come⟩, List.forall_mem_cons.mpr ⟨⟨ckX12_walk, coX12_walk⟩, List.forall_mem_cons.mpr ⟨⟨ckX12_goAlong, coX12_goAlong⟩, List.forall_mem_cons.mpr ⟨⟨ckX12_highOf, coX12_highOf⟩, List.forall_mem_cons.mpr ⟨⟨ckX12_top, coX12_top⟩, List.forall_mem_cons.mpr ⟨⟨ckX12_isLongOnTop, coX12_isLongOnTop⟩, List.forall_mem_cons.mpr ⟨⟨ckX12_isHalfOrLong, coX12_isHalfOrLong⟩, List.forall_mem_cons.mpr ⟨⟨ckX12_isWanted, coX12_isWanted⟩, List.forall_mem_cons.mpr ⟨⟨ckX12_push, coX12_push⟩, List.forall_mem_cons.mpr ⟨⟨ckX12_pushLong, coX12_pushLong⟩, List.forall_mem_cons.mpr ⟨⟨ckX12_becomes, coX12_becomes⟩, List.forall_mem_cons.mpr ⟨⟨ckX12_work, coX12_work⟩, List.forall_mem_cons.mpr ⟨⟨ckX12_takeUp, coX12_takeUp⟩, List.forall_mem_cons.mpr ⟨⟨ckX12_joins, coX12_joins⟩, List.forall_mem_cons.mpr ⟨⟨ckX12_bring, coX12_bring⟩, List.forall_mem_cons.mpr ⟨⟨ckX12_settle, coX12_settle⟩, List.forall_mem_cons.mpr ⟨⟨ckX12_isFrame, coX12_isFrame⟩, List.forall_mem_cons.mpr ⟨⟨ckX12_list, coX12_list⟩, List.forall_mem_cons.mpr ⟨⟨ckX12_keepEntries, coX12_keepEntries⟩, List.forall_mem_cons.mpr ⟨⟨ckX12_put, coX12_put⟩, List.forall_mem_cons.mpr ⟨⟨ckX12_putEntry, coX12_putEntry⟩, List.forall_mem_cons.mpr ⟨⟨ckX12_putEntries, coX12_putEntries⟩, List.forall_mem_cons.mpr ⟨⟨ckX12_pileMany, coX12_pileMany⟩, List.forall_mem_cons.mpr ⟨⟨ckX12_putPile, coX12_putPile⟩, List.forall_mem_cons.mpr ⟨⟨ckX12_write, coX12_write⟩, List.forall_mem_cons.mpr ⟨⟨ckX12_frame, coX12_frame⟩, List.forall_mem_cons.mpr ⟨⟨ckX12_faultOf, coX12_faultOf⟩, List.forall_mem_cons.mpr ⟨⟨ckX12_make, coX12_make⟩, List.forall_mem_cons.mpr ⟨⟨ckX12_fault, coX12_fault⟩, List.forall_mem_cons.mpr ⟨⟨ckX12_state, coX12_state⟩, List.forall_mem_cons.mpr ⟨⟨ckX12_frame_, coX12_frame_⟩, List.forall_mem_cons.mpr ⟨⟨ckX12_packed, coX12_packed⟩, List.forall_mem_cons.mpr ⟨⟨ckX12_out, coX12_out⟩, List.forall_mem_cons.mpr ⟨⟨ckX12_plant, coX12_plant⟩, List.forall_mem_cons.mpr ⟨⟨ckX12_goFor, coX12_goFor⟩, List.forall_mem_cons.mpr ⟨⟨ckX12_handlersGo, coX12_handlersGo⟩, List.forall_mem_cons.mpr ⟨⟨ckX12_judge, coX12_judge⟩, List.forall_mem_cons.mpr ⟨⟨ckX12_told, coX12_told⟩, List.forall_mem_cons.mpr ⟨⟨ckJ6_bitCount_0f7a4, coJ6_bitCount_0f7a4⟩, fun _ h => absurd h List.not_mem_nil⟩⟩⟩⟩⟩⟩⟩⟩⟩⟩⟩⟩⟩⟩⟩⟩⟩⟩⟩⟩⟩⟩⟩⟩⟩⟩⟩⟩⟩⟩⟩⟩⟩⟩⟩⟩⟩⟩⟩⟩⟩⟩⟩⟩⟩⟩⟩⟩⟩⟩⟩⟩⟩⟩⟩⟩⟩⟩⟩⟩⟩⟩⟩⟩⟩⟩⟩⟩⟩⟩⟩⟩⟩⟩⟩⟩⟩⟩⟩⟩⟩⟩⟩⟩⟩⟩⟩⟩⟩⟩⟩⟩⟩⟩⟩⟩⟩⟩⟩⟩⟩⟩⟩⟩⟩⟩⟩⟩⟩⟩⟩⟩⟩⟩⟩⟩⟩⟩⟩⟩⟩⟩⟩⟩⟩⟩⟩⟩⟩⟩⟩⟩⟩⟩⟩⟩⟩⟩⟩⟩⟩⟩⟩⟩⟩⟩⟩⟩⟩⟩⟩⟩⟩⟩⟩⟩⟩⟩⟩⟩⟩⟩⟩⟩⟩⟩⟩⟩⟩⟩⟩⟩⟩⟩⟩⟩⟩⟩⟩⟩⟩⟩⟩⟩⟩⟩⟩⟩
