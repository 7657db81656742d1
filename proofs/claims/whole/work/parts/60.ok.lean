/-! The rows are the class files' own, and their words stand in the tables. -/
set_option maxRecDepth 100000 in
theorem ok_Math_max : mz_okM lw_tbl "EtaSeries" vwCl es_MS me_Math_max = true := by decide +kernel
set_option maxRecDepth 100000 in
theorem ok_Math_min : mz_okM lw_tbl "EtaSeries" vwCl es_MS me_Math_min = true := by decide +kernel
set_option maxRecDepth 100000 in
theorem ok_Math_abs : mz_okM lw_tbl "EtaSeries" vwCl es_MS me_Math_abs = true := by decide +kernel
set_option maxRecDepth 100000 in
theorem ok_Math_floorMod : mz_okM lw_tbl "EtaSeries" vwCl es_MS me_Math_floorMod = true := by decide +kernel
set_option maxRecDepth 100000 in
theorem ok_Leaf_hold : mz_okM lw_tbl "EtaSeries" vwCl es_MS me_Leaf_hold = true := by decide +kernel
set_option maxRecDepth 100000 in
theorem ok_Leaf_hasItems : mz_okM lw_tbl "EtaSeries" vwCl es_MS me_Leaf_hasItems = true := by decide +kernel
set_option maxRecDepth 100000 in
theorem ok_Leaf_refuse : mz_okM lw_tbl "EtaSeries" vwCl es_MS me_Leaf_refuse = true := by decide +kernel
set_option maxRecDepth 100000 in
theorem ok_Leaf_refusePairs : mz_okM lw_tbl "EtaSeries" vwCl es_MS me_Leaf_refusePairs = true := by decide +kernel
set_option maxRecDepth 100000 in
theorem ok_Leaf_at : mz_okM lw_tbl "EtaSeries" vwCl es_MS me_Leaf_at = true := by decide +kernel
set_option maxRecDepth 100000 in
theorem ok_Leaf_put : mz_okM lw_tbl "EtaSeries" vwCl es_MS me_Leaf_put = true := by decide +kernel
set_option maxRecDepth 100000 in
theorem ok_Leaf_begins : mz_okM lw_tbl "EtaSeries" vwCl es_MS me_Leaf_begins = true := by decide +kernel
set_option maxRecDepth 100000 in
theorem ok_Leaf_divisor : mz_okM lw_tbl "EtaSeries" vwCl es_MS me_Leaf_divisor = true := by decide +kernel
set_option maxRecDepth 100000 in
theorem ok_Leaf_exponent : mz_okM lw_tbl "EtaSeries" vwCl es_MS me_Leaf_exponent = true := by decide +kernel
set_option maxRecDepth 100000 in
theorem ok_Leaf_weight : mz_okM lw_tbl "EtaSeries" vwCl es_MS me_Leaf_weight = true := by decide +kernel
set_option maxRecDepth 100000 in
theorem ok_Leaf_level : mz_okM lw_tbl "EtaSeries" vwCl es_MS me_Leaf_level = true := by decide +kernel
set_option maxRecDepth 100000 in
theorem ok_Leaf_isLevel : mz_okM lw_tbl "EtaSeries" vwCl es_MS me_Leaf_isLevel = true := by decide +kernel
set_option maxRecDepth 100000 in
theorem ok_Leaf_bound : mz_okM lw_tbl "EtaSeries" vwCl es_MS me_Leaf_bound = true := by decide +kernel
set_option maxRecDepth 100000 in
theorem ok_Leaf_indexOf : mz_okM lw_tbl "EtaSeries" vwCl es_MS me_Leaf_indexOf = true := by decide +kernel
set_option maxRecDepth 100000 in
theorem ok_Mill_result : mz_okM lw_tbl "EtaSeries" vwCl es_MS me_Mill_result = true := by decide +kernel
set_option maxRecDepth 100000 in
theorem ok_Mill_reset : mz_okM lw_tbl "EtaSeries" vwCl es_MS me_Mill_reset = true := by decide +kernel
set_option maxRecDepth 100000 in
theorem ok_Mill_workSum : mz_okM lw_tbl "EtaSeries" vwCl es_MS me_Mill_workSum = true := by decide +kernel
set_option maxRecDepth 100000 in
theorem ok_Mill_workPart : mz_okM lw_tbl "EtaSeries" vwCl es_MS me_Mill_workPart = true := by decide +kernel
set_option maxRecDepth 100000 in
theorem ok_Mill_workPower : mz_okM lw_tbl "EtaSeries" vwCl es_MS me_Mill_workPower = true := by decide +kernel
set_option maxRecDepth 100000 in
theorem ok_Mill_workAtom : mz_okM lw_tbl "EtaSeries" vwCl es_MS me_Mill_workAtom = true := by decide +kernel
set_option maxRecDepth 100000 in
theorem ok_Mill_combine : mz_okM lw_tbl "EtaSeries" vwCl es_MS me_Mill_combine = true := by decide +kernel
set_option maxRecDepth 100000 in
theorem ok_Mill_finish : mz_okM lw_tbl "EtaSeries" vwCl es_MS me_Mill_finish = true := by decide +kernel
set_option maxRecDepth 100000 in
theorem ok_Mill_actOf : mz_okM lw_tbl "EtaSeries" vwCl es_MS me_Mill_actOf = true := by decide +kernel
set_option maxRecDepth 100000 in
theorem ok_Mill_workQuotient : mz_okM lw_tbl "EtaSeries" vwCl es_MS me_Mill_workQuotient = true := by decide +kernel
set_option maxRecDepth 100000 in
theorem ok_Past_remember : mz_okM lw_tbl "EtaSeries" vwCl es_MS me_Past_remember = true := by decide +kernel
set_option maxRecDepth 100000 in
theorem ok_Past_bringBack : mz_okM lw_tbl "EtaSeries" vwCl es_MS me_Past_bringBack = true := by decide +kernel
set_option maxRecDepth 100000 in
theorem ok_Past_takeAll : mz_okM lw_tbl "EtaSeries" vwCl es_MS me_Past_takeAll = true := by decide +kernel
set_option maxRecDepth 100000 in
theorem ok_Row_begin : mz_okM lw_tbl "EtaSeries" vwCl es_MS me_Row_begin = true := by decide +kernel
set_option maxRecDepth 100000 in
theorem ok_Row_at : mz_okM lw_tbl "EtaSeries" vwCl es_MS me_Row_at = true := by decide +kernel
set_option maxRecDepth 100000 in
theorem ok_Row_put : mz_okM lw_tbl "EtaSeries" vwCl es_MS me_Row_put = true := by decide +kernel
set_option maxRecDepth 100000 in
theorem ok_Row_take : mz_okM lw_tbl "EtaSeries" vwCl es_MS me_Row_take = true := by decide +kernel
set_option maxRecDepth 100000 in
theorem ok_Row_become : mz_okM lw_tbl "EtaSeries" vwCl es_MS me_Row_become = true := by decide +kernel
set_option maxRecDepth 100000 in
theorem ok_Row_becomeJoined : mz_okM lw_tbl "EtaSeries" vwCl es_MS me_Row_becomeJoined = true := by decide +kernel
set_option maxRecDepth 100000 in
theorem ok_Row_sum : mz_okM lw_tbl "EtaSeries" vwCl es_MS me_Row_sum = true := by decide +kernel
set_option maxRecDepth 100000 in
theorem ok_Row_product : mz_okM lw_tbl "EtaSeries" vwCl es_MS me_Row_product = true := by decide +kernel
set_option maxRecDepth 100000 in
theorem ok_Row_ratio : mz_okM lw_tbl "EtaSeries" vwCl es_MS me_Row_ratio = true := by decide +kernel
set_option maxRecDepth 100000 in
theorem ok_Row_becomePower : mz_okM lw_tbl "EtaSeries" vwCl es_MS me_Row_becomePower = true := by decide +kernel
set_option maxRecDepth 100000 in
theorem ok_Row_becomeChanged : mz_okM lw_tbl "EtaSeries" vwCl es_MS me_Row_becomeChanged = true := by decide +kernel
set_option maxRecDepth 100000 in
theorem ok_Row_pick : mz_okM lw_tbl "EtaSeries" vwCl es_MS me_Row_pick = true := by decide +kernel
set_option maxRecDepth 100000 in
theorem ok_Shelf_take : mz_okM lw_tbl "EtaSeries" vwCl es_MS me_Shelf_take = true := by decide +kernel
set_option maxRecDepth 100000 in
theorem ok_Shelf_isMissing : mz_okM lw_tbl "EtaSeries" vwCl es_MS me_Shelf_isMissing = true := by decide +kernel
set_option maxRecDepth 100000 in
theorem ok_Shelf_present : mz_okM lw_tbl "EtaSeries" vwCl es_MS me_Shelf_present = true := by decide +kernel
set_option maxRecDepth 100000 in
theorem ok_Shelf_turnDraw : mz_okM lw_tbl "EtaSeries" vwCl es_MS me_Shelf_turnDraw = true := by decide +kernel
set_option maxRecDepth 100000 in
theorem ok_Tape_write : mz_okM lw_tbl "EtaSeries" vwCl es_MS me_Tape_write = true := by decide +kernel
set_option maxRecDepth 100000 in
theorem ok_Tape_parse : mz_okM lw_tbl "EtaSeries" vwCl es_MS me_Tape_parse = true := by decide +kernel
set_option maxRecDepth 100000 in
theorem ok_Tape_here : mz_okM lw_tbl "EtaSeries" vwCl es_MS me_Tape_here = true := by decide +kernel
set_option maxRecDepth 100000 in
theorem ok_Tape_skipBlanks : mz_okM lw_tbl "EtaSeries" vwCl es_MS me_Tape_skipBlanks = true := by decide +kernel
set_option maxRecDepth 100000 in
theorem ok_Tape_digitIsHere : mz_okM lw_tbl "EtaSeries" vwCl es_MS me_Tape_digitIsHere = true := by decide +kernel
set_option maxRecDepth 100000 in
theorem ok_Tape_readAtom : mz_okM lw_tbl "EtaSeries" vwCl es_MS me_Tape_readAtom = true := by decide +kernel
set_option maxRecDepth 100000 in
theorem ok_Tape_readOpen : mz_okM lw_tbl "EtaSeries" vwCl es_MS me_Tape_readOpen = true := by decide +kernel
set_option maxRecDepth 100000 in
theorem ok_Tape_readFamily : mz_okM lw_tbl "EtaSeries" vwCl es_MS me_Tape_readFamily = true := by decide +kernel
set_option maxRecDepth 100000 in
theorem ok_Tape_readBehindAtom : mz_okM lw_tbl "EtaSeries" vwCl es_MS me_Tape_readBehindAtom = true := by decide +kernel
set_option maxRecDepth 100000 in
theorem ok_Tape_readFigure : mz_okM lw_tbl "EtaSeries" vwCl es_MS me_Tape_readFigure = true := by decide +kernel
set_option maxRecDepth 100000 in
theorem ok_Tape_readNumber : mz_okM lw_tbl "EtaSeries" vwCl es_MS me_Tape_readNumber = true := by decide +kernel
set_option maxRecDepth 100000 in
theorem ok_Tape_pass : mz_okM lw_tbl "EtaSeries" vwCl es_MS me_Tape_pass = true := by decide +kernel
set_option maxRecDepth 100000 in
theorem ok_Tape_note : mz_okM lw_tbl "EtaSeries" vwCl es_MS me_Tape_note = true := by decide +kernel
set_option maxRecDepth 100000 in
theorem ok_Tape_signAt : mz_okM lw_tbl "EtaSeries" vwCl es_MS me_Tape_signAt = true := by decide +kernel
set_option maxRecDepth 100000 in
theorem ok_Tape_valueAt : mz_okM lw_tbl "EtaSeries" vwCl es_MS me_Tape_valueAt = true := by decide +kernel
set_option maxRecDepth 100000 in
theorem ok_Tape_kindOf : mz_okM lw_tbl "EtaSeries" vwCl es_MS me_Tape_kindOf = true := by decide +kernel
set_option maxRecDepth 100000 in
theorem ok_ES_make : mz_okM lw_tbl "EtaSeries" vwCl es_MS me_ES_make = true := by decide +kernel
set_option maxRecDepth 100000 in
theorem ok_ES_join : mz_okM lw_tbl "EtaSeries" vwCl es_MS me_ES_join = true := by decide +kernel
set_option maxRecDepth 100000 in
theorem ok_ES_change : mz_okM lw_tbl "EtaSeries" vwCl es_MS me_ES_change = true := by decide +kernel
set_option maxRecDepth 100000 in
theorem ok_ES_out : mz_okM lw_tbl "EtaSeries" vwCl es_MS me_ES_out = true := by decide +kernel
set_option maxRecDepth 100000 in
theorem ok_ES_length : mz_okM lw_tbl "EtaSeries" vwCl es_MS me_ES_length = true := by decide +kernel
set_option maxRecDepth 100000 in
theorem ok_ES_type : mz_okM lw_tbl "EtaSeries" vwCl es_MS me_ES_type = true := by decide +kernel
set_option maxRecDepth 100000 in
theorem ok_ES_work : mz_okM lw_tbl "EtaSeries" vwCl es_MS me_ES_work = true := by decide +kernel
set_option maxRecDepth 100000 in
theorem ok_ES_drift : mz_okM lw_tbl "EtaSeries" vwCl es_MS me_ES_drift = true := by decide +kernel
set_option maxRecDepth 100000 in
theorem ok_ES_undo : mz_okM lw_tbl "EtaSeries" vwCl es_MS me_ES_undo = true := by decide +kernel
set_option maxRecDepth 100000 in
theorem ok_ES_seed : mz_okM lw_tbl "EtaSeries" vwCl es_MS me_ES_seed = true := by decide +kernel
set_option maxRecDepth 100000 in
theorem ok_ES_term : mz_okM lw_tbl "EtaSeries" vwCl es_MS me_ES_term = true := by decide +kernel
set_option maxRecDepth 100000 in
theorem ok_ES_count : mz_okM lw_tbl "EtaSeries" vwCl es_MS me_ES_count = true := by decide +kernel
set_option maxRecDepth 100000 in
theorem ok_ES_first : mz_okM lw_tbl "EtaSeries" vwCl es_MS me_ES_first = true := by decide +kernel
set_option maxRecDepth 100000 in
theorem ok_ES_fits : mz_okM lw_tbl "EtaSeries" vwCl es_MS me_ES_fits = true := by decide +kernel
set_option maxRecDepth 100000 in
theorem ok_ES_found : mz_okM lw_tbl "EtaSeries" vwCl es_MS me_ES_found = true := by decide +kernel
set_option maxRecDepth 100000 in
theorem ok_ES_guess : mz_okM lw_tbl "EtaSeries" vwCl es_MS me_ES_guess = true := by decide +kernel
set_option maxRecDepth 100000 in
theorem ok_ES_image : mz_okM lw_tbl "EtaSeries" vwCl es_MS me_ES_image = true := by decide +kernel
set_option maxRecDepth 100000 in
theorem ok_ES_restore : mz_okM lw_tbl "EtaSeries" vwCl es_MS me_ES_restore = true := by decide +kernel
set_option maxRecDepth 100000 in
theorem ok_ES_told : mz_okM lw_tbl "EtaSeries" vwCl es_MS me_ES_told = true := by decide +kernel
set_option maxRecDepth 100000 in
theorem ok_ES_quotient : mz_okM lw_tbl "EtaSeries" vwCl es_MS me_ES_quotient = true := by decide +kernel
set_option maxRecDepth 100000 in
theorem ok_ES_wrought : mz_okM lw_tbl "EtaSeries" vwCl es_MS me_ES_wrought = true := by decide +kernel
set_option maxRecDepth 100000 in
theorem ok_ES_film : mz_okM lw_tbl "EtaSeries" vwCl es_MS me_ES_film = true := by decide +kernel
set_option maxRecDepth 100000 in
theorem ok_ES_sheet : mz_okM lw_tbl "EtaSeries" vwCl es_MS me_ES_sheet = true := by decide +kernel
set_option maxRecDepth 100000 in
theorem ok_ES_drop : mz_okM lw_tbl "EtaSeries" vwCl es_MS me_ES_drop = true := by decide +kernel
set_option maxRecDepth 100000 in
theorem ok_ES_item : mz_okM lw_tbl "EtaSeries" vwCl es_MS me_ES_item = true := by decide +kernel
set_option maxRecDepth 100000 in
theorem ok_ES_copy : mz_okM lw_tbl "EtaSeries" vwCl es_MS me_ES_copy = true := by decide +kernel
set_option maxRecDepth 100000 in
theorem ok_ES_isOneOfFour : mz_okM lw_tbl "EtaSeries" vwCl es_MS me_ES_isOneOfFour = true := by decide +kernel
set_option maxRecDepth 100000 in
theorem ok_ES_isWithin : mz_okM lw_tbl "EtaSeries" vwCl es_MS me_ES_isWithin = true := by decide +kernel
set_option maxRecDepth 100000 in
theorem ok_ES_isPairs : mz_okM lw_tbl "EtaSeries" vwCl es_MS me_ES_isPairs = true := by decide +kernel
set_option maxRecDepth 100000 in
theorem ok_ES_isStep : mz_okM lw_tbl "EtaSeries" vwCl es_MS me_ES_isStep = true := by decide +kernel
set_option maxRecDepth 100000 in
theorem ok_ES_isKind : mz_okM lw_tbl "EtaSeries" vwCl es_MS me_ES_isKind = true := by decide +kernel
set_option maxRecDepth 100000 in
theorem ok_ES_isChange : mz_okM lw_tbl "EtaSeries" vwCl es_MS me_ES_isChange = true := by decide +kernel
set_option maxRecDepth 100000 in
theorem ok_ES_isWide : mz_okM lw_tbl "EtaSeries" vwCl es_MS me_ES_isWide = true := by decide +kernel
set_option maxRecDepth 100000 in
theorem ok_ES_settle : mz_okM lw_tbl "EtaSeries" vwCl es_MS me_ES_settle = true := by decide +kernel
set_option maxRecDepth 100000 in
theorem ok_ES_firstUnlike : mz_okM lw_tbl "EtaSeries" vwCl es_MS me_ES_firstUnlike = true := by decide +kernel
set_option maxRecDepth 100000 in
theorem ok_ES_firstMisfit : mz_okM lw_tbl "EtaSeries" vwCl es_MS me_ES_firstMisfit = true := by decide +kernel
set_option maxRecDepth 100000 in
theorem ok_ES_leastFitting : mz_okM lw_tbl "EtaSeries" vwCl es_MS me_ES_leastFitting = true := by decide +kernel
set_option maxRecDepth 100000 in
theorem ok_ES_chanceOfEven : mz_okM lw_tbl "EtaSeries" vwCl es_MS me_ES_chanceOfEven = true := by decide +kernel
set_option maxRecDepth 100000 in
theorem ok_Mo_in : mz_okM lw_tbl "EtaSeries" vwCl es_MS me_Mo_in = true := by decide +kernel
set_option maxRecDepth 100000 in
theorem ok_Mo_isSeries : mz_okM lw_tbl "EtaSeries" vwCl es_MS me_Mo_isSeries = true := by decide +kernel
set_option maxRecDepth 100000 in
theorem ok_Mo_many : mz_okM lw_tbl "EtaSeries" vwCl es_MS me_Mo_many = true := by decide +kernel
set_option maxRecDepth 100000 in
theorem ok_Mo_termOf : mz_okM lw_tbl "EtaSeries" vwCl es_MS me_Mo_termOf = true := by decide +kernel
set_option maxRecDepth 100000 in
theorem ok_Mo_takesOne : mz_okM lw_tbl "EtaSeries" vwCl es_MS me_Mo_takesOne = true := by decide +kernel
set_option maxRecDepth 100000 in
theorem ok_Mo_takesTwo : mz_okM lw_tbl "EtaSeries" vwCl es_MS me_Mo_takesTwo = true := by decide +kernel
set_option maxRecDepth 100000 in
theorem ok_Mo_goesOn : mz_okM lw_tbl "EtaSeries" vwCl es_MS me_Mo_goesOn = true := by decide +kernel
set_option maxRecDepth 100000 in
theorem ok_Mo_copiesToTwo : mz_okM lw_tbl "EtaSeries" vwCl es_MS me_Mo_copiesToTwo = true := by decide +kernel
set_option maxRecDepth 100000 in
theorem ok_Mo_keeps : mz_okM lw_tbl "EtaSeries" vwCl es_MS me_Mo_keeps = true := by decide +kernel
set_option maxRecDepth 100000 in
theorem ok_Mo_wide : mz_okM lw_tbl "EtaSeries" vwCl es_MS me_Mo_wide = true := by decide +kernel
set_option maxRecDepth 100000 in
theorem ok_Mo_product : mz_okM lw_tbl "EtaSeries" vwCl es_MS me_Mo_product = true := by decide +kernel
set_option maxRecDepth 100000 in
theorem ok_Mo_over : mz_okM lw_tbl "EtaSeries" vwCl es_MS me_Mo_over = true := by decide +kernel
set_option maxRecDepth 100000 in
theorem ok_Mo_joins : mz_okM lw_tbl "EtaSeries" vwCl es_MS me_Mo_joins = true := by decide +kernel
set_option maxRecDepth 100000 in
theorem ok_Mo_makes : mz_okM lw_tbl "EtaSeries" vwCl es_MS me_Mo_makes = true := by decide +kernel
set_option maxRecDepth 100000 in
theorem ok_Mo_euler : mz_okM lw_tbl "EtaSeries" vwCl es_MS me_Mo_euler = true := by decide +kernel
set_option maxRecDepth 100000 in
theorem ok_Mo_powers : mz_okM lw_tbl "EtaSeries" vwCl es_MS me_Mo_powers = true := by decide +kernel
set_option maxRecDepth 100000 in
theorem ok_Mo_isKind : mz_okM lw_tbl "EtaSeries" vwCl es_MS me_Mo_isKind = true := by decide +kernel
set_option maxRecDepth 100000 in
theorem ok_Mo_make : mz_okM lw_tbl "EtaSeries" vwCl es_MS me_Mo_make = true := by decide +kernel
set_option maxRecDepth 100000 in
theorem ok_Mo_join : mz_okM lw_tbl "EtaSeries" vwCl es_MS me_Mo_join = true := by decide +kernel
set_option maxRecDepth 100000 in
theorem ok_Mo_isChange : mz_okM lw_tbl "EtaSeries" vwCl es_MS me_Mo_isChange = true := by decide +kernel
set_option maxRecDepth 100000 in
theorem ok_Mo_changes : mz_okM lw_tbl "EtaSeries" vwCl es_MS me_Mo_changes = true := by decide +kernel
set_option maxRecDepth 100000 in
theorem ok_Mo_change : mz_okM lw_tbl "EtaSeries" vwCl es_MS me_Mo_change = true := by decide +kernel
set_option maxRecDepth 100000 in
theorem ok_Mo_out : mz_okM lw_tbl "EtaSeries" vwCl es_MS me_Mo_out = true := by decide +kernel
set_option maxRecDepth 100000 in
theorem ok_Mo_length : mz_okM lw_tbl "EtaSeries" vwCl es_MS me_Mo_length = true := by decide +kernel
set_option maxRecDepth 100000 in
theorem ok_Mo_there : mz_okM lw_tbl "EtaSeries" vwCl es_MS me_Mo_there = true := by decide +kernel
set_option maxRecDepth 100000 in
theorem ok_Mo_drift : mz_okM lw_tbl "EtaSeries" vwCl es_MS me_Mo_drift = true := by decide +kernel
set_option maxRecDepth 100000 in
theorem ok_Mo_notes : mz_okM lw_tbl "EtaSeries" vwCl es_MS me_Mo_notes = true := by decide +kernel
set_option maxRecDepth 100000 in
theorem ok_Mo_undo : mz_okM lw_tbl "EtaSeries" vwCl es_MS me_Mo_undo = true := by decide +kernel
set_option maxRecDepth 100000 in
theorem ok_Mo_seed : mz_okM lw_tbl "EtaSeries" vwCl es_MS me_Mo_seed = true := by decide +kernel
set_option maxRecDepth 100000 in
theorem ok_Mo_term : mz_okM lw_tbl "EtaSeries" vwCl es_MS me_Mo_term = true := by decide +kernel
set_option maxRecDepth 100000 in
theorem ok_Mo_count : mz_okM lw_tbl "EtaSeries" vwCl es_MS me_Mo_count = true := by decide +kernel
set_option maxRecDepth 100000 in
theorem ok_Mo_type : mz_okM lw_tbl "EtaSeries" vwCl es_MS me_Mo_type = true := by decide +kernel
set_option maxRecDepth 100000 in
theorem ok_Mo_here : mz_okM lw_tbl "EtaSeries" vwCl es_MS me_Mo_here = true := by decide +kernel
set_option maxRecDepth 100000 in
theorem ok_Mo_has : mz_okM lw_tbl "EtaSeries" vwCl es_MS me_Mo_has = true := by decide +kernel
set_option maxRecDepth 100000 in
theorem ok_Mo_number : mz_okM lw_tbl "EtaSeries" vwCl es_MS me_Mo_number = true := by decide +kernel
set_option maxRecDepth 100000 in
theorem ok_Mo_kindOf : mz_okM lw_tbl "EtaSeries" vwCl es_MS me_Mo_kindOf = true := by decide +kernel
set_option maxRecDepth 100000 in
theorem ok_Mo_readsAtom : mz_okM lw_tbl "EtaSeries" vwCl es_MS me_Mo_readsAtom = true := by decide +kernel
set_option maxRecDepth 100000 in
theorem ok_Mo_isText : mz_okM lw_tbl "EtaSeries" vwCl es_MS me_Mo_isText = true := by decide +kernel
set_option maxRecDepth 100000 in
theorem ok_Mo_begins : mz_okM lw_tbl "EtaSeries" vwCl es_MS me_Mo_begins = true := by decide +kernel
set_option maxRecDepth 100000 in
theorem ok_Mo_broke : mz_okM lw_tbl "EtaSeries" vwCl es_MS me_Mo_broke = true := by decide +kernel
set_option maxRecDepth 100000 in
theorem ok_Mo_lays : mz_okM lw_tbl "EtaSeries" vwCl es_MS me_Mo_lays = true := by decide +kernel
set_option maxRecDepth 100000 in
theorem ok_Mo_takesFrom : mz_okM lw_tbl "EtaSeries" vwCl es_MS me_Mo_takesFrom = true := by decide +kernel
set_option maxRecDepth 100000 in
theorem ok_Mo_joinsPart : mz_okM lw_tbl "EtaSeries" vwCl es_MS me_Mo_joinsPart = true := by decide +kernel
set_option maxRecDepth 100000 in
theorem ok_Mo_joinsSum : mz_okM lw_tbl "EtaSeries" vwCl es_MS me_Mo_joinsSum = true := by decide +kernel
set_option maxRecDepth 100000 in
theorem ok_Mo_joinsAtom : mz_okM lw_tbl "EtaSeries" vwCl es_MS me_Mo_joinsAtom = true := by decide +kernel
set_option maxRecDepth 100000 in
theorem ok_Mo_makesAtom : mz_okM lw_tbl "EtaSeries" vwCl es_MS me_Mo_makesAtom = true := by decide +kernel
set_option maxRecDepth 100000 in
theorem ok_Mo_works : mz_okM lw_tbl "EtaSeries" vwCl es_MS me_Mo_works = true := by decide +kernel
set_option maxRecDepth 100000 in
theorem ok_Mo_work : mz_okM lw_tbl "EtaSeries" vwCl es_MS me_Mo_work = true := by decide +kernel
set_option maxRecDepth 100000 in
theorem ok_Mo_first : mz_okM lw_tbl "EtaSeries" vwCl es_MS me_Mo_first = true := by decide +kernel
set_option maxRecDepth 100000 in
theorem ok_Mo_isStep : mz_okM lw_tbl "EtaSeries" vwCl es_MS me_Mo_isStep = true := by decide +kernel
set_option maxRecDepth 100000 in
theorem ok_Mo_failsAt : mz_okM lw_tbl "EtaSeries" vwCl es_MS me_Mo_failsAt = true := by decide +kernel
set_option maxRecDepth 100000 in
theorem ok_Mo_fits : mz_okM lw_tbl "EtaSeries" vwCl es_MS me_Mo_fits = true := by decide +kernel
set_option maxRecDepth 100000 in
theorem ok_Mo_found : mz_okM lw_tbl "EtaSeries" vwCl es_MS me_Mo_found = true := by decide +kernel
set_option maxRecDepth 100000 in
theorem ok_Mo_guess : mz_okM lw_tbl "EtaSeries" vwCl es_MS me_Mo_guess = true := by decide +kernel
set_option maxRecDepth 100000 in
theorem ok_Mo_image : mz_okM lw_tbl "EtaSeries" vwCl es_MS me_Mo_image = true := by decide +kernel
set_option maxRecDepth 100000 in
theorem ok_Mo_restore : mz_okM lw_tbl "EtaSeries" vwCl es_MS me_Mo_restore = true := by decide +kernel
set_option maxRecDepth 100000 in
theorem ok_Mo_isSheet : mz_okM lw_tbl "EtaSeries" vwCl es_MS me_Mo_isSheet = true := by decide +kernel
set_option maxRecDepth 100000 in
theorem ok_Mo_cut : mz_okM lw_tbl "EtaSeries" vwCl es_MS me_Mo_cut = true := by decide +kernel
set_option maxRecDepth 100000 in
theorem ok_Mo_sheet : mz_okM lw_tbl "EtaSeries" vwCl es_MS me_Mo_sheet = true := by decide +kernel
set_option maxRecDepth 100000 in
theorem ok_Mo_drop : mz_okM lw_tbl "EtaSeries" vwCl es_MS me_Mo_drop = true := by decide +kernel
set_option maxRecDepth 100000 in
theorem ok_Mo_why : mz_okM lw_tbl "EtaSeries" vwCl es_MS me_Mo_why = true := by decide +kernel
set_option maxRecDepth 100000 in
theorem ok_Mo_item : mz_okM lw_tbl "EtaSeries" vwCl es_MS me_Mo_item = true := by decide +kernel
set_option maxRecDepth 100000 in
theorem ok_Mo_copy : mz_okM lw_tbl "EtaSeries" vwCl es_MS me_Mo_copy = true := by decide +kernel
set_option maxRecDepth 100000 in
theorem ok_Mo_whyPairs : mz_okM lw_tbl "EtaSeries" vwCl es_MS me_Mo_whyPairs = true := by decide +kernel
set_option maxRecDepth 100000 in
theorem ok_Mo_levelOf : mz_okM lw_tbl "EtaSeries" vwCl es_MS me_Mo_levelOf = true := by decide +kernel
set_option maxRecDepth 100000 in
theorem ok_Mo_indexOf : mz_okM lw_tbl "EtaSeries" vwCl es_MS me_Mo_indexOf = true := by decide +kernel
set_option maxRecDepth 100000 in
theorem ok_Mo_told : mz_okM lw_tbl "EtaSeries" vwCl es_MS me_Mo_told = true := by decide +kernel
set_option maxRecDepth 100000 in
theorem ok_Mo_quotient : mz_okM lw_tbl "EtaSeries" vwCl es_MS me_Mo_quotient = true := by decide +kernel
set_option maxRecDepth 100000 in
theorem ok_Mo_wrought : mz_okM lw_tbl "EtaSeries" vwCl es_MS me_Mo_wrought = true := by decide +kernel
set_option maxRecDepth 100000 in
theorem ok_Mo_film : mz_okM lw_tbl "EtaSeries" vwCl es_MS me_Mo_film = true := by decide +kernel
