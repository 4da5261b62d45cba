set_option maxRecDepth 100000 in
theorem ok_X5_init : ckm mi_X5_init pc_X5_init = true := by decide +kernel
set_option maxRecDepth 100000 in
theorem ok_X5_begin : ckm mi_X5_begin pc_X5_begin = true := by decide +kernel
set_option maxRecDepth 100000 in
theorem ok_X5_copyFrom : ckm mi_X5_copyFrom pc_X5_copyFrom = true := by decide +kernel
set_option maxRecDepth 100000 in
theorem ok_X5_isFull : ckm mi_X5_isFull pc_X5_isFull = true := by decide +kernel
set_option maxRecDepth 100000 in
theorem ok_X5_isTired : ckm mi_X5_isTired pc_X5_isTired = true := by decide +kernel
set_option maxRecDepth 100000 in
theorem ok_X5_canGo : ckm mi_X5_canGo pc_X5_canGo = true := by decide +kernel
set_option maxRecDepth 100000 in
theorem ok_X5_isWordAccepted : ckm mi_X5_isWordAccepted pc_X5_isWordAccepted = true := by decide +kernel
set_option maxRecDepth 100000 in
theorem ok_X5_isEveryGoalReached : ckm mi_X5_isEveryGoalReached pc_X5_isEveryGoalReached = true := by decide +kernel
set_option maxRecDepth 100000 in
theorem ok_X5_tell : ckm mi_X5_tell pc_X5_tell = true := by decide +kernel
set_option maxRecDepth 100000 in
theorem ok_X5_read : ckm mi_X5_read pc_X5_read = true := by decide +kernel
set_option maxRecDepth 100000 in
theorem ok_X5_enter : ckm mi_X5_enter pc_X5_enter = true := by decide +kernel
set_option maxRecDepth 100000 in
theorem ok_X5_pay : ckm mi_X5_pay pc_X5_pay = true := by decide +kernel
set_option maxRecDepth 100000 in
theorem ok_X5_payForReset : ckm mi_X5_payForReset pc_X5_payForReset = true := by decide +kernel
set_option maxRecDepth 100000 in
theorem ok_X5_restart : ckm mi_X5_restart pc_X5_restart = true := by decide +kernel
set_option maxRecDepth 100000 in
theorem ok_X5_endRound : ckm mi_X5_endRound pc_X5_endRound = true := by decide +kernel
set_option maxRecDepth 100000 in
theorem ok_X5_takeTurn : ckm mi_X5_takeTurn pc_X5_takeTurn = true := by decide +kernel
set_option maxRecDepth 100000 in
theorem ok_X5_shareChest : ckm mi_X5_shareChest pc_X5_shareChest = true := by decide +kernel
set_option maxRecDepth 100000 in
theorem ok_X5_note : ckm mi_X5_note pc_X5_note = true := by decide +kernel
set_option maxRecDepth 100000 in
theorem ok_X5_entryPart : ckm mi_X5_entryPart pc_X5_entryPart = true := by decide +kernel
set_option maxRecDepth 100000 in
theorem ok_X6_init : ckm mi_X6_init pc_X6_init = true := by decide +kernel
set_option maxRecDepth 100000 in
theorem ok_X6_find : ckm mi_X6_find pc_X6_find = true := by decide +kernel
set_option maxRecDepth 100000 in
theorem ok_X6_kind : ckm mi_X6_kind pc_X6_kind = true := by decide +kernel
set_option maxRecDepth 100000 in
theorem ok_X6_start : ckm mi_X6_start pc_X6_start = true := by decide +kernel
set_option maxRecDepth 100000 in
theorem ok_X6_value : ckm mi_X6_value pc_X6_value = true := by decide +kernel
set_option maxRecDepth 100000 in
theorem ok_X6_packed : ckm mi_X6_packed pc_X6_packed = true := by decide +kernel
set_option maxRecDepth 100000 in
theorem ok_X6_add : ckm mi_X6_add pc_X6_add = true := by decide +kernel
set_option maxRecDepth 100000 in
theorem ok_X6_lengthen : ckm mi_X6_lengthen pc_X6_lengthen = true := by decide +kernel
set_option maxRecDepth 100000 in
theorem ok_X6_kindOf : ckm mi_X6_kindOf pc_X6_kindOf = true := by decide +kernel
set_option maxRecDepth 100000 in
theorem ok_X6_baseOf : ckm mi_X6_baseOf pc_X6_baseOf = true := by decide +kernel
set_option maxRecDepth 100000 in
theorem ok_X6_digitOf : ckm mi_X6_digitOf pc_X6_digitOf = true := by decide +kernel
set_option maxRecDepth 100000 in
theorem ok_X7_init : ckm mi_X7_init pc_X7_init = true := by decide +kernel
set_option maxRecDepth 100000 in
theorem ok_X7_append : ckm mi_X7_append pc_X7_append = true := by decide +kernel
set_option maxRecDepth 100000 in
theorem ok_X7_parse : ckm mi_X7_parse pc_X7_parse = true := by decide +kernel
set_option maxRecDepth 100000 in
theorem ok_X7_errorPosition : ckm mi_X7_errorPosition pc_X7_errorPosition = true := by decide +kernel
set_option maxRecDepth 100000 in
theorem ok_X7_size : ckm mi_X7_size pc_X7_size = true := by decide +kernel
set_option maxRecDepth 100000 in
theorem ok_X7_machine : ckm mi_X7_machine pc_X7_machine = true := by decide +kernel
set_option maxRecDepth 100000 in
theorem ok_X7_strength : ckm mi_X7_strength pc_X7_strength = true := by decide +kernel
set_option maxRecDepth 100000 in
theorem ok_X7_isAccepting : ckm mi_X7_isAccepting pc_X7_isAccepting = true := by decide +kernel
set_option maxRecDepth 100000 in
theorem ok_X7_goes : ckm mi_X7_goes pc_X7_goes = true := by decide +kernel
set_option maxRecDepth 100000 in
theorem ok_X7_distance : ckm mi_X7_distance pc_X7_distance = true := by decide +kernel
set_option maxRecDepth 100000 in
theorem ok_X7_whyNotBid : ckm mi_X7_whyNotBid pc_X7_whyNotBid = true := by decide +kernel
set_option maxRecDepth 100000 in
theorem ok_X7_bidLetter : ckm mi_X7_bidLetter pc_X7_bidLetter = true := by decide +kernel
set_option maxRecDepth 100000 in
theorem ok_X7_bid : ckm mi_X7_bid pc_X7_bid = true := by decide +kernel
set_option maxRecDepth 100000 in
theorem ok_X7_sum : ckm mi_X7_sum pc_X7_sum = true := by decide +kernel
set_option maxRecDepth 100000 in
theorem ok_X7_winner : ckm mi_X7_winner pc_X7_winner = true := by decide +kernel
set_option maxRecDepth 100000 in
theorem ok_X7_price : ckm mi_X7_price pc_X7_price = true := by decide +kernel
set_option maxRecDepth 100000 in
theorem ok_X7_pays : ckm mi_X7_pays pc_X7_pays = true := by decide +kernel
set_option maxRecDepth 100000 in
theorem ok_X7_coinsAfter : ckm mi_X7_coinsAfter pc_X7_coinsAfter = true := by decide +kernel
set_option maxRecDepth 100000 in
theorem ok_X7_letter : ckm mi_X7_letter pc_X7_letter = true := by decide +kernel
set_option maxRecDepth 100000 in
theorem ok_X7_accepts : ckm mi_X7_accepts pc_X7_accepts = true := by decide +kernel
set_option maxRecDepth 100000 in
theorem ok_X7_isAgreed : ckm mi_X7_isAgreed pc_X7_isAgreed = true := by decide +kernel
set_option maxRecDepth 100000 in
theorem ok_X7_words : ckm mi_X7_words pc_X7_words = true := by decide +kernel
set_option maxRecDepth 100000 in
theorem ok_X7_shortest : ckm mi_X7_shortest pc_X7_shortest = true := by decide +kernel
set_option maxRecDepth 100000 in
theorem ok_X7_shortestLetter : ckm mi_X7_shortestLetter pc_X7_shortestLetter = true := by decide +kernel
set_option maxRecDepth 100000 in
theorem ok_X7_differs : ckm mi_X7_differs pc_X7_differs = true := by decide +kernel
set_option maxRecDepth 100000 in
theorem ok_X7_log : ckm mi_X7_log pc_X7_log = true := by decide +kernel
set_option maxRecDepth 100000 in
theorem ok_X7_account : ckm mi_X7_account pc_X7_account = true := by decide +kernel
set_option maxRecDepth 100000 in
theorem ok_X7_play : ckm mi_X7_play pc_X7_play = true := by decide +kernel
set_option maxRecDepth 100000 in
theorem ok_X7_buy : ckm mi_X7_buy pc_X7_buy = true := by decide +kernel
set_option maxRecDepth 100000 in
theorem ok_X7_reset : ckm mi_X7_reset pc_X7_reset = true := by decide +kernel
set_option maxRecDepth 100000 in
theorem ok_X7_give : ckm mi_X7_give pc_X7_give = true := by decide +kernel
set_option maxRecDepth 100000 in
theorem ok_X7_setWeight : ckm mi_X7_setWeight pc_X7_setWeight = true := by decide +kernel
set_option maxRecDepth 100000 in
theorem ok_X7_undo : ckm mi_X7_undo pc_X7_undo = true := by decide +kernel
set_option maxRecDepth 100000 in
theorem ok_X7_saveSnapshot : ckm mi_X7_saveSnapshot pc_X7_saveSnapshot = true := by decide +kernel
set_option maxRecDepth 100000 in
theorem ok_X7_restoreSnapshot : ckm mi_X7_restoreSnapshot pc_X7_restoreSnapshot = true := by decide +kernel
set_option maxRecDepth 100000 in
theorem ok_X7_checkMachine : ckm mi_X7_checkMachine pc_X7_checkMachine = true := by decide +kernel
set_option maxRecDepth 100000 in
theorem ok_X7_checkState : ckm mi_X7_checkState pc_X7_checkState = true := by decide +kernel
set_option maxRecDepth 100000 in
theorem ok_X7_checkLetter : ckm mi_X7_checkLetter pc_X7_checkLetter = true := by decide +kernel
set_option maxRecDepth 100000 in
theorem ok_X7_checkSet : ckm mi_X7_checkSet pc_X7_checkSet = true := by decide +kernel
set_option maxRecDepth 100000 in
theorem ok_X7_checkSlot : ckm mi_X7_checkSlot pc_X7_checkSlot = true := by decide +kernel
set_option maxRecDepth 100000 in
theorem ok_X7_checkArgument : ckm mi_X7_checkArgument pc_X7_checkArgument = true := by decide +kernel
set_option maxRecDepth 100000 in
theorem ok_X7_checkPossible : ckm mi_X7_checkPossible pc_X7_checkPossible = true := by decide +kernel
set_option maxRecDepth 100000 in
theorem ok_J6_bitCount_0f7a4 : ckm mi_J6_bitCount_0f7a4 pc_J6_bitCount_0f7a4 = true := by decide +kernel
set_option maxRecDepth 100000 in
theorem ok_J7_fill_53178 : ckm mi_J7_fill_53178 pc_J7_fill_53178 = true := by decide +kernel
