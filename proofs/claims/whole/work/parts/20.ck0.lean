set_option maxRecDepth 100000 in
theorem ok_X0_init : ckm mi_X0_init pc_X0_init = true := sorry
set_option maxRecDepth 100000 in
theorem ok_X0_measure : ckm mi_X0_measure pc_X0_measure = true := sorry
set_option maxRecDepth 100000 in
theorem ok_X0_isNextTo : ckm mi_X0_isNextTo pc_X0_isNextTo = true := sorry
set_option maxRecDepth 100000 in
theorem ok_X0_obstacle : ckm mi_X0_obstacle pc_X0_obstacle = true := sorry
set_option maxRecDepth 100000 in
theorem ok_X0_collect : ckm mi_X0_collect pc_X0_collect = true := by decide +kernel
set_option maxRecDepth 100000 in
theorem ok_X0_choose : ckm mi_X0_choose pc_X0_choose = true := by decide +kernel
set_option maxRecDepth 100000 in
theorem ok_X0_findBest : ckm mi_X0_findBest pc_X0_findBest = true := by decide +kernel
set_option maxRecDepth 100000 in
theorem ok_X0_divideCost : ckm mi_X0_divideCost pc_X0_divideCost = true := sorry
set_option maxRecDepth 100000 in
theorem ok_X0_divideRest : ckm mi_X0_divideRest pc_X0_divideRest = true := sorry
set_option maxRecDepth 100000 in
theorem ok_X0_playRounds : ckm mi_X0_playRounds pc_X0_playRounds = true := sorry
set_option maxRecDepth 100000 in
theorem ok_X0_carryOut : ckm mi_X0_carryOut pc_X0_carryOut = true := sorry
set_option maxRecDepth 100000 in
theorem ok_X1_init : ckm mi_X1_init pc_X1_init = true := sorry
set_option maxRecDepth 100000 in
theorem ok_X1_empty : ckm mi_X1_empty pc_X1_empty = true := sorry
set_option maxRecDepth 100000 in
theorem ok_X1_keep : ckm mi_X1_keep pc_X1_keep = true := by decide +kernel
set_option maxRecDepth 100000 in
theorem ok_X1_takeBack : ckm mi_X1_takeBack pc_X1_takeBack = true := sorry
set_option maxRecDepth 100000 in
theorem ok_X1_isSaved : ckm mi_X1_isSaved pc_X1_isSaved = true := sorry
set_option maxRecDepth 100000 in
theorem ok_X1_save : ckm mi_X1_save pc_X1_save = true := sorry
set_option maxRecDepth 100000 in
theorem ok_X1_load : ckm mi_X1_load pc_X1_load = true := sorry
set_option maxRecDepth 100000 in
theorem ok_X2_init : ckm mi_X2_init pc_X2_init = true := sorry
set_option maxRecDepth 100000 in
theorem ok_X2_clear : ckm mi_X2_clear pc_X2_clear = true := by decide +kernel
set_option maxRecDepth 100000 in
theorem ok_X2_target : ckm mi_X2_target pc_X2_target = true := sorry
set_option maxRecDepth 100000 in
theorem ok_X2_setTarget : ckm mi_X2_setTarget pc_X2_setTarget = true := sorry
set_option maxRecDepth 100000 in
theorem ok_X2_isGoal : ckm mi_X2_isGoal pc_X2_isGoal = true := sorry
set_option maxRecDepth 100000 in
theorem ok_X2_isListening : ckm mi_X2_isListening pc_X2_isListening = true := sorry
set_option maxRecDepth 100000 in
theorem ok_X3_init : ckm mi_X3_init pc_X3_init = true := sorry
set_option maxRecDepth 100000 in
theorem ok_X3_put : ckm mi_X3_put pc_X3_put = true := sorry
set_option maxRecDepth 100000 in
theorem ok_X3_readInto : ckm mi_X3_readInto pc_X3_readInto = true := sorry
set_option maxRecDepth 100000 in
theorem ok_X3_readStatement : ckm mi_X3_readStatement pc_X3_readStatement = true := sorry
set_option maxRecDepth 100000 in
theorem ok_X3_readMachine : ckm mi_X3_readMachine pc_X3_readMachine = true := sorry
set_option maxRecDepth 100000 in
theorem ok_X3_readGo : ckm mi_X3_readGo pc_X3_readGo = true := sorry
set_option maxRecDepth 100000 in
theorem ok_X3_readAccept : ckm mi_X3_readAccept pc_X3_readAccept = true := sorry
set_option maxRecDepth 100000 in
theorem ok_X3_readTire : ckm mi_X3_readTire pc_X3_readTire = true := sorry
set_option maxRecDepth 100000 in
theorem ok_X3_readTurn : ckm mi_X3_readTurn pc_X3_readTurn = true := sorry
set_option maxRecDepth 100000 in
theorem ok_X3_takeSemicolon : ckm mi_X3_takeSemicolon pc_X3_takeSemicolon = true := sorry
set_option maxRecDepth 100000 in
theorem ok_X3_takeNumber : ckm mi_X3_takeNumber pc_X3_takeNumber = true := sorry
set_option maxRecDepth 100000 in
theorem ok_X3_takeNewName : ckm mi_X3_takeNewName pc_X3_takeNewName = true := sorry
set_option maxRecDepth 100000 in
theorem ok_X3_takeMachine : ckm mi_X3_takeMachine pc_X3_takeMachine = true := sorry
set_option maxRecDepth 100000 in
theorem ok_X3_takeLetter : ckm mi_X3_takeLetter pc_X3_takeLetter = true := sorry
set_option maxRecDepth 100000 in
theorem ok_X3_fail : ckm mi_X3_fail pc_X3_fail = true := sorry
set_option maxRecDepth 100000 in
theorem ok_X3_indexOfName : ckm mi_X3_indexOfName pc_X3_indexOfName = true := sorry
set_option maxRecDepth 100000 in
theorem ok_X3_isKeyword : ckm mi_X3_isKeyword pc_X3_isKeyword = true := sorry
set_option maxRecDepth 100000 in
theorem ok_X4_init : ckm mi_X4_init pc_X4_init = true := sorry
set_option maxRecDepth 100000 in
theorem ok_X4_count : ckm mi_X4_count pc_X4_count = true := sorry
set_option maxRecDepth 100000 in
theorem ok_X4_waysFrom : ckm mi_X4_waysFrom pc_X4_waysFrom = true := sorry
set_option maxRecDepth 100000 in
theorem ok_X4_lengthTogether : ckm mi_X4_lengthTogether pc_X4_lengthTogether = true := sorry
set_option maxRecDepth 100000 in
theorem ok_X4_letterTogether : ckm mi_X4_letterTogether pc_X4_letterTogether = true := sorry
set_option maxRecDepth 100000 in
theorem ok_X4_lengthApart : ckm mi_X4_lengthApart pc_X4_lengthApart = true := sorry
set_option maxRecDepth 100000 in
theorem ok_X4_begin : ckm mi_X4_begin pc_X4_begin = true := sorry
set_option maxRecDepth 100000 in
theorem ok_X4_meet : ckm mi_X4_meet pc_X4_meet = true := sorry
set_option maxRecDepth 100000 in
theorem ok_X4_explore : ckm mi_X4_explore pc_X4_explore = true := sorry
set_option maxRecDepth 100000 in
theorem ok_X4_lengthTo : ckm mi_X4_lengthTo pc_X4_lengthTo = true := sorry
set_option maxRecDepth 100000 in
theorem ok_X4_step : ckm mi_X4_step pc_X4_step = true := sorry
set_option maxRecDepth 100000 in
theorem ok_X4_isFound : ckm mi_X4_isFound pc_X4_isFound = true := by decide +kernel
set_option maxRecDepth 100000 in
theorem ok_X5_init : ckm mi_X5_init pc_X5_init = true := sorry
set_option maxRecDepth 100000 in
theorem ok_X5_begin : ckm mi_X5_begin pc_X5_begin = true := by decide +kernel
set_option maxRecDepth 100000 in
theorem ok_X5_copyFrom : ckm mi_X5_copyFrom pc_X5_copyFrom = true := sorry
set_option maxRecDepth 100000 in
theorem ok_X5_isFull : ckm mi_X5_isFull pc_X5_isFull = true := sorry
set_option maxRecDepth 100000 in
theorem ok_X5_isTired : ckm mi_X5_isTired pc_X5_isTired = true := sorry
set_option maxRecDepth 100000 in
theorem ok_X5_canGo : ckm mi_X5_canGo pc_X5_canGo = true := sorry
set_option maxRecDepth 100000 in
theorem ok_X5_isWordAccepted : ckm mi_X5_isWordAccepted pc_X5_isWordAccepted = true := sorry
set_option maxRecDepth 100000 in
theorem ok_X5_isEveryGoalReached : ckm mi_X5_isEveryGoalReached pc_X5_isEveryGoalReached = true := sorry
set_option maxRecDepth 100000 in
theorem ok_X5_tell : ckm mi_X5_tell pc_X5_tell = true := sorry
set_option maxRecDepth 100000 in
theorem ok_X5_read : ckm mi_X5_read pc_X5_read = true := sorry
set_option maxRecDepth 100000 in
theorem ok_X5_enter : ckm mi_X5_enter pc_X5_enter = true := sorry
set_option maxRecDepth 100000 in
theorem ok_X5_pay : ckm mi_X5_pay pc_X5_pay = true := sorry
set_option maxRecDepth 100000 in
theorem ok_X5_payForReset : ckm mi_X5_payForReset pc_X5_payForReset = true := sorry
set_option maxRecDepth 100000 in
theorem ok_X5_restart : ckm mi_X5_restart pc_X5_restart = true := sorry
set_option maxRecDepth 100000 in
theorem ok_X5_endRound : ckm mi_X5_endRound pc_X5_endRound = true := sorry
set_option maxRecDepth 100000 in
theorem ok_X5_takeTurn : ckm mi_X5_takeTurn pc_X5_takeTurn = true := sorry
set_option maxRecDepth 100000 in
theorem ok_X5_shareChest : ckm mi_X5_shareChest pc_X5_shareChest = true := sorry
set_option maxRecDepth 100000 in
theorem ok_X5_note : ckm mi_X5_note pc_X5_note = true := by decide +kernel
set_option maxRecDepth 100000 in
theorem ok_X5_entryPart : ckm mi_X5_entryPart pc_X5_entryPart = true := sorry
set_option maxRecDepth 100000 in
theorem ok_X6_init : ckm mi_X6_init pc_X6_init = true := sorry
set_option maxRecDepth 100000 in
theorem ok_X6_find : ckm mi_X6_find pc_X6_find = true := sorry
set_option maxRecDepth 100000 in
theorem ok_X6_kind : ckm mi_X6_kind pc_X6_kind = true := sorry
set_option maxRecDepth 100000 in
theorem ok_X6_start : ckm mi_X6_start pc_X6_start = true := sorry
set_option maxRecDepth 100000 in
theorem ok_X6_value : ckm mi_X6_value pc_X6_value = true := sorry
set_option maxRecDepth 100000 in
theorem ok_X6_packed : ckm mi_X6_packed pc_X6_packed = true := sorry
set_option maxRecDepth 100000 in
theorem ok_X6_add : ckm mi_X6_add pc_X6_add = true := sorry
set_option maxRecDepth 100000 in
theorem ok_X6_lengthen : ckm mi_X6_lengthen pc_X6_lengthen = true := sorry
set_option maxRecDepth 100000 in
theorem ok_X6_kindOf : ckm mi_X6_kindOf pc_X6_kindOf = true := sorry
set_option maxRecDepth 100000 in
theorem ok_X6_baseOf : ckm mi_X6_baseOf pc_X6_baseOf = true := sorry
set_option maxRecDepth 100000 in
theorem ok_X6_digitOf : ckm mi_X6_digitOf pc_X6_digitOf = true := sorry
set_option maxRecDepth 100000 in
theorem ok_X7_init : ckm mi_X7_init pc_X7_init = true := sorry
set_option maxRecDepth 100000 in
theorem ok_X7_append : ckm mi_X7_append pc_X7_append = true := sorry
set_option maxRecDepth 100000 in
theorem ok_X7_parse : ckm mi_X7_parse pc_X7_parse = true := sorry
set_option maxRecDepth 100000 in
theorem ok_X7_errorPosition : ckm mi_X7_errorPosition pc_X7_errorPosition = true := sorry
set_option maxRecDepth 100000 in
theorem ok_X7_size : ckm mi_X7_size pc_X7_size = true := sorry
set_option maxRecDepth 100000 in
theorem ok_X7_machine : ckm mi_X7_machine pc_X7_machine = true := sorry
set_option maxRecDepth 100000 in
theorem ok_X7_strength : ckm mi_X7_strength pc_X7_strength = true := sorry
set_option maxRecDepth 100000 in
theorem ok_X7_isAccepting : ckm mi_X7_isAccepting pc_X7_isAccepting = true := sorry
set_option maxRecDepth 100000 in
theorem ok_X7_goes : ckm mi_X7_goes pc_X7_goes = true := sorry
set_option maxRecDepth 100000 in
theorem ok_X7_distance : ckm mi_X7_distance pc_X7_distance = true := sorry
set_option maxRecDepth 100000 in
theorem ok_X7_whyNotBid : ckm mi_X7_whyNotBid pc_X7_whyNotBid = true := sorry
set_option maxRecDepth 100000 in
theorem ok_X7_bidLetter : ckm mi_X7_bidLetter pc_X7_bidLetter = true := sorry
set_option maxRecDepth 100000 in
theorem ok_X7_bid : ckm mi_X7_bid pc_X7_bid = true := sorry
set_option maxRecDepth 100000 in
theorem ok_X7_sum : ckm mi_X7_sum pc_X7_sum = true := sorry
set_option maxRecDepth 100000 in
theorem ok_X7_winner : ckm mi_X7_winner pc_X7_winner = true := sorry
set_option maxRecDepth 100000 in
theorem ok_X7_price : ckm mi_X7_price pc_X7_price = true := sorry
set_option maxRecDepth 100000 in
theorem ok_X7_pays : ckm mi_X7_pays pc_X7_pays = true := sorry
set_option maxRecDepth 100000 in
theorem ok_X7_coinsAfter : ckm mi_X7_coinsAfter pc_X7_coinsAfter = true := sorry
set_option maxRecDepth 100000 in
theorem ok_X7_letter : ckm mi_X7_letter pc_X7_letter = true := sorry
set_option maxRecDepth 100000 in
theorem ok_X7_accepts : ckm mi_X7_accepts pc_X7_accepts = true := sorry
set_option maxRecDepth 100000 in
theorem ok_X7_isAgreed : ckm mi_X7_isAgreed pc_X7_isAgreed = true := sorry
set_option maxRecDepth 100000 in
theorem ok_X7_words : ckm mi_X7_words pc_X7_words = true := sorry
set_option maxRecDepth 100000 in
theorem ok_X7_shortest : ckm mi_X7_shortest pc_X7_shortest = true := sorry
set_option maxRecDepth 100000 in
theorem ok_X7_shortestLetter : ckm mi_X7_shortestLetter pc_X7_shortestLetter = true := sorry
set_option maxRecDepth 100000 in
theorem ok_X7_differs : ckm mi_X7_differs pc_X7_differs = true := sorry
set_option maxRecDepth 100000 in
theorem ok_X7_log : ckm mi_X7_log pc_X7_log = true := sorry
set_option maxRecDepth 100000 in
theorem ok_X7_account : ckm mi_X7_account pc_X7_account = true := sorry
set_option maxRecDepth 100000 in
theorem ok_X7_play : ckm mi_X7_play pc_X7_play = true := sorry
set_option maxRecDepth 100000 in
theorem ok_X7_buy : ckm mi_X7_buy pc_X7_buy = true := sorry
set_option maxRecDepth 100000 in
theorem ok_X7_reset : ckm mi_X7_reset pc_X7_reset = true := sorry
set_option maxRecDepth 100000 in
theorem ok_X7_give : ckm mi_X7_give pc_X7_give = true := sorry
set_option maxRecDepth 100000 in
theorem ok_X7_setWeight : ckm mi_X7_setWeight pc_X7_setWeight = true := sorry
set_option maxRecDepth 100000 in
theorem ok_X7_undo : ckm mi_X7_undo pc_X7_undo = true := sorry
set_option maxRecDepth 100000 in
theorem ok_X7_saveSnapshot : ckm mi_X7_saveSnapshot pc_X7_saveSnapshot = true := sorry
set_option maxRecDepth 100000 in
theorem ok_X7_restoreSnapshot : ckm mi_X7_restoreSnapshot pc_X7_restoreSnapshot = true := sorry
set_option maxRecDepth 100000 in
theorem ok_X7_checkMachine : ckm mi_X7_checkMachine pc_X7_checkMachine = true := sorry
set_option maxRecDepth 100000 in
theorem ok_X7_checkState : ckm mi_X7_checkState pc_X7_checkState = true := sorry
set_option maxRecDepth 100000 in
theorem ok_X7_checkLetter : ckm mi_X7_checkLetter pc_X7_checkLetter = true := sorry
set_option maxRecDepth 100000 in
theorem ok_X7_checkSet : ckm mi_X7_checkSet pc_X7_checkSet = true := sorry
set_option maxRecDepth 100000 in
theorem ok_X7_checkSlot : ckm mi_X7_checkSlot pc_X7_checkSlot = true := sorry
set_option maxRecDepth 100000 in
theorem ok_X7_checkArgument : ckm mi_X7_checkArgument pc_X7_checkArgument = true := sorry
set_option maxRecDepth 100000 in
theorem ok_X7_checkPossible : ckm mi_X7_checkPossible pc_X7_checkPossible = true := sorry
set_option maxRecDepth 100000 in
theorem ok_J6_bitCount_0f7a4 : ckm mi_J6_bitCount_0f7a4 pc_J6_bitCount_0f7a4 = true := sorry
set_option maxRecDepth 100000 in
theorem ok_J7_fill_53178 : ckm mi_J7_fill_53178 pc_J7_fill_53178 = true := sorry
set_option maxRecDepth 100000 in
theorem ok_X8_init : ckm mi_X8_init pc_X8_init = true := sorry
set_option maxRecDepth 100000 in
theorem ok_X8_thrown : ckm mi_X8_thrown pc_X8_thrown = true := sorry
set_option maxRecDepth 100000 in
theorem ok_X8_within : ckm mi_X8_within pc_X8_within = true := sorry
set_option maxRecDepth 100000 in
theorem ok_X8_throwsIf : ckm mi_X8_throwsIf pc_X8_throwsIf = true := sorry
set_option maxRecDepth 100000 in
theorem ok_X8_append : ckm mi_X8_append pc_X8_append = true := sorry
set_option maxRecDepth 100000 in
theorem ok_X8_bytesOf : ckm mi_X8_bytesOf pc_X8_bytesOf = true := sorry
set_option maxRecDepth 100000 in
theorem ok_X8_byteAt : ckm mi_X8_byteAt pc_X8_byteAt = true := sorry
set_option maxRecDepth 100000 in
theorem ok_X8_advance : ckm mi_X8_advance pc_X8_advance = true := sorry
set_option maxRecDepth 100000 in
theorem ok_X8_isWord : ckm mi_X8_isWord pc_X8_isWord = true := sorry
set_option maxRecDepth 100000 in
theorem ok_X8_fails : ckm mi_X8_fails pc_X8_fails = true := sorry
set_option maxRecDepth 100000 in
theorem ok_X8_starts : ckm mi_X8_starts pc_X8_starts = true := sorry
set_option maxRecDepth 100000 in
theorem ok_X8_takes : ckm mi_X8_takes pc_X8_takes = true := sorry
set_option maxRecDepth 100000 in
theorem ok_X8_lays : ckm mi_X8_lays pc_X8_lays = true := sorry
set_option maxRecDepth 100000 in
theorem ok_X8_closes : ckm mi_X8_closes pc_X8_closes = true := sorry
set_option maxRecDepth 100000 in
theorem ok_X8_named : ckm mi_X8_named pc_X8_named = true := sorry
set_option maxRecDepth 100000 in
theorem ok_X8_machineLine : ckm mi_X8_machineLine pc_X8_machineLine = true := sorry
set_option maxRecDepth 100000 in
theorem ok_X8_machineRead : ckm mi_X8_machineRead pc_X8_machineRead = true := sorry
set_option maxRecDepth 100000 in
theorem ok_X8_stateAt : ckm mi_X8_stateAt pc_X8_stateAt = true := sorry
set_option maxRecDepth 100000 in
theorem ok_X8_stateRead : ckm mi_X8_stateRead pc_X8_stateRead = true := sorry
set_option maxRecDepth 100000 in
theorem ok_X8_goLine : ckm mi_X8_goLine pc_X8_goLine = true := sorry
set_option maxRecDepth 100000 in
theorem ok_X8_acceptLine : ckm mi_X8_acceptLine pc_X8_acceptLine = true := sorry
set_option maxRecDepth 100000 in
theorem ok_X8_tireLine : ckm mi_X8_tireLine pc_X8_tireLine = true := sorry
set_option maxRecDepth 100000 in
theorem ok_X8_turnLine : ckm mi_X8_turnLine pc_X8_turnLine = true := sorry
set_option maxRecDepth 100000 in
theorem ok_X8_statement : ckm mi_X8_statement pc_X8_statement = true := sorry
set_option maxRecDepth 100000 in
theorem ok_X8_clearsRead : ckm mi_X8_clearsRead pc_X8_clearsRead = true := sorry
set_option maxRecDepth 100000 in
theorem ok_X8_parse : ckm mi_X8_parse pc_X8_parse = true := sorry
set_option maxRecDepth 100000 in
theorem ok_X8_begins : ckm mi_X8_begins pc_X8_begins = true := sorry
set_option maxRecDepth 100000 in
theorem ok_X8_errorPosition : ckm mi_X8_errorPosition pc_X8_errorPosition = true := sorry
set_option maxRecDepth 100000 in
theorem ok_X8_toldOf : ckm mi_X8_toldOf pc_X8_toldOf = true := sorry
set_option maxRecDepth 100000 in
theorem ok_X8_toldState : ckm mi_X8_toldState pc_X8_toldState = true := sorry
set_option maxRecDepth 100000 in
theorem ok_X8_isEnd : ckm mi_X8_isEnd pc_X8_isEnd = true := sorry
set_option maxRecDepth 100000 in
theorem ok_X8_goOf : ckm mi_X8_goOf pc_X8_goOf = true := sorry
set_option maxRecDepth 100000 in
theorem ok_X8_of : ckm mi_X8_of pc_X8_of = true := sorry
set_option maxRecDepth 100000 in
theorem ok_X8_sets : ckm mi_X8_sets pc_X8_sets = true := sorry
set_option maxRecDepth 100000 in
theorem ok_X8_freshens : ckm mi_X8_freshens pc_X8_freshens = true := sorry
set_option maxRecDepth 100000 in
theorem ok_X8_isTired : ckm mi_X8_isTired pc_X8_isTired = true := sorry
set_option maxRecDepth 100000 in
theorem ok_X8_distanceOf : ckm mi_X8_distanceOf pc_X8_distanceOf = true := sorry
set_option maxRecDepth 100000 in
theorem ok_X8_leadsTo : ckm mi_X8_leadsTo pc_X8_leadsTo = true := sorry
set_option maxRecDepth 100000 in
theorem ok_X8_why : ckm mi_X8_why pc_X8_why = true := sorry
set_option maxRecDepth 100000 in
theorem ok_X8_worth : ckm mi_X8_worth pc_X8_worth = true := sorry
set_option maxRecDepth 100000 in
theorem ok_X8_wanted : ckm mi_X8_wanted pc_X8_wanted = true := sorry
set_option maxRecDepth 100000 in
theorem ok_X8_bidOf : ckm mi_X8_bidOf pc_X8_bidOf = true := sorry
set_option maxRecDepth 100000 in
theorem ok_X8_sumOf : ckm mi_X8_sumOf pc_X8_sumOf = true := sorry
set_option maxRecDepth 100000 in
theorem ok_X8_bestLetter : ckm mi_X8_bestLetter pc_X8_bestLetter = true := sorry
set_option maxRecDepth 100000 in
theorem ok_X8_priceOf : ckm mi_X8_priceOf pc_X8_priceOf = true := sorry
set_option maxRecDepth 100000 in
theorem ok_X8_laysPaid : ckm mi_X8_laysPaid pc_X8_laysPaid = true := sorry
set_option maxRecDepth 100000 in
theorem ok_X8_intoChest : ckm mi_X8_intoChest pc_X8_intoChest = true := sorry
set_option maxRecDepth 100000 in
theorem ok_X8_enters : ckm mi_X8_enters pc_X8_enters = true := sorry
set_option maxRecDepth 100000 in
theorem ok_X8_canGo : ckm mi_X8_canGo pc_X8_canGo = true := sorry
set_option maxRecDepth 100000 in
theorem ok_X8_hears : ckm mi_X8_hears pc_X8_hears = true := sorry
set_option maxRecDepth 100000 in
theorem ok_X8_says : ckm mi_X8_says pc_X8_says = true := sorry
set_option maxRecDepth 100000 in
theorem ok_X8_writes : ckm mi_X8_writes pc_X8_writes = true := sorry
set_option maxRecDepth 100000 in
theorem ok_X8_turns : ckm mi_X8_turns pc_X8_turns = true := sorry
set_option maxRecDepth 100000 in
theorem ok_X8_rounds : ckm mi_X8_rounds pc_X8_rounds = true := sorry
set_option maxRecDepth 100000 in
theorem ok_X8_plays : ckm mi_X8_plays pc_X8_plays = true := sorry
set_option maxRecDepth 100000 in
theorem ok_X8_size : ckm mi_X8_size pc_X8_size = true := sorry
set_option maxRecDepth 100000 in
theorem ok_X8_no : ckm mi_X8_no pc_X8_no = true := sorry
set_option maxRecDepth 100000 in
theorem ok_X8_noMachine : ckm mi_X8_noMachine pc_X8_noMachine = true := sorry
set_option maxRecDepth 100000 in
theorem ok_X8_noState : ckm mi_X8_noState pc_X8_noState = true := sorry
set_option maxRecDepth 100000 in
theorem ok_X8_machine : ckm mi_X8_machine pc_X8_machine = true := sorry
set_option maxRecDepth 100000 in
theorem ok_X8_strength : ckm mi_X8_strength pc_X8_strength = true := sorry
set_option maxRecDepth 100000 in
theorem ok_X8_isAccepting : ckm mi_X8_isAccepting pc_X8_isAccepting = true := sorry
set_option maxRecDepth 100000 in
theorem ok_X8_goes : ckm mi_X8_goes pc_X8_goes = true := sorry
set_option maxRecDepth 100000 in
theorem ok_X8_distance : ckm mi_X8_distance pc_X8_distance = true := sorry
set_option maxRecDepth 100000 in
theorem ok_X8_whyNotBid : ckm mi_X8_whyNotBid pc_X8_whyNotBid = true := sorry
set_option maxRecDepth 100000 in
theorem ok_X8_bidLetter : ckm mi_X8_bidLetter pc_X8_bidLetter = true := sorry
set_option maxRecDepth 100000 in
theorem ok_X8_bid : ckm mi_X8_bid pc_X8_bid = true := sorry
set_option maxRecDepth 100000 in
theorem ok_X8_sum : ckm mi_X8_sum pc_X8_sum = true := sorry
set_option maxRecDepth 100000 in
theorem ok_X8_winner : ckm mi_X8_winner pc_X8_winner = true := sorry
set_option maxRecDepth 100000 in
theorem ok_X8_price : ckm mi_X8_price pc_X8_price = true := sorry
set_option maxRecDepth 100000 in
theorem ok_X8_pays : ckm mi_X8_pays pc_X8_pays = true := sorry
set_option maxRecDepth 100000 in
theorem ok_X8_puts : ckm mi_X8_puts pc_X8_puts = true := sorry
set_option maxRecDepth 100000 in
theorem ok_X8_noRounds : ckm mi_X8_noRounds pc_X8_noRounds = true := sorry
set_option maxRecDepth 100000 in
theorem ok_X8_coinsAfter : ckm mi_X8_coinsAfter pc_X8_coinsAfter = true := sorry
set_option maxRecDepth 100000 in
theorem ok_X8_digit : ckm mi_X8_digit pc_X8_digit = true := sorry
set_option maxRecDepth 100000 in
theorem ok_X8_together : ckm mi_X8_together pc_X8_together = true := sorry
set_option maxRecDepth 100000 in
theorem ok_X8_areEnds : ckm mi_X8_areEnds pc_X8_areEnds = true := sorry
set_option maxRecDepth 100000 in
theorem ok_X8_noSet : ckm mi_X8_noSet pc_X8_noSet = true := sorry
set_option maxRecDepth 100000 in
theorem ok_X8_words : ckm mi_X8_words pc_X8_words = true := sorry
set_option maxRecDepth 100000 in
theorem ok_X8_goesOn : ckm mi_X8_goesOn pc_X8_goesOn = true := sorry
set_option maxRecDepth 100000 in
theorem ok_X8_firstEnd : ckm mi_X8_firstEnd pc_X8_firstEnd = true := sorry
set_option maxRecDepth 100000 in
theorem ok_X8_depthOf : ckm mi_X8_depthOf pc_X8_depthOf = true := sorry
set_option maxRecDepth 100000 in
theorem ok_X8_shortest : ckm mi_X8_shortest pc_X8_shortest = true := sorry
set_option maxRecDepth 100000 in
theorem ok_X8_shortestLetter : ckm mi_X8_shortestLetter pc_X8_shortestLetter = true := sorry
set_option maxRecDepth 100000 in
theorem ok_X8_goOrDie : ckm mi_X8_goOrDie pc_X8_goOrDie = true := sorry
set_option maxRecDepth 100000 in
theorem ok_X8_isOver : ckm mi_X8_isOver pc_X8_isOver = true := sorry
set_option maxRecDepth 100000 in
theorem ok_X8_differs : ckm mi_X8_differs pc_X8_differs = true := sorry
set_option maxRecDepth 100000 in
theorem ok_X8_letter : ckm mi_X8_letter pc_X8_letter = true := sorry
set_option maxRecDepth 100000 in
theorem ok_X8_accepts : ckm mi_X8_accepts pc_X8_accepts = true := sorry
set_option maxRecDepth 100000 in
theorem ok_X8_isAgreed : ckm mi_X8_isAgreed pc_X8_isAgreed = true := sorry
set_option maxRecDepth 100000 in
theorem ok_X8_log : ckm mi_X8_log pc_X8_log = true := sorry
set_option maxRecDepth 100000 in
theorem ok_X8_account : ckm mi_X8_account pc_X8_account = true := sorry
set_option maxRecDepth 100000 in
theorem ok_X8_play : ckm mi_X8_play pc_X8_play = true := sorry
set_option maxRecDepth 100000 in
theorem ok_X8_buy : ckm mi_X8_buy pc_X8_buy = true := sorry
set_option maxRecDepth 100000 in
theorem ok_X8_reset : ckm mi_X8_reset pc_X8_reset = true := sorry
set_option maxRecDepth 100000 in
theorem ok_X8_give : ckm mi_X8_give pc_X8_give = true := sorry
set_option maxRecDepth 100000 in
theorem ok_X8_setWeight : ckm mi_X8_setWeight pc_X8_setWeight = true := sorry
set_option maxRecDepth 100000 in
theorem ok_X8_copies : ckm mi_X8_copies pc_X8_copies = true := sorry
set_option maxRecDepth 100000 in
theorem ok_X8_keeps : ckm mi_X8_keeps pc_X8_keeps = true := sorry
set_option maxRecDepth 100000 in
theorem ok_X8_undo : ckm mi_X8_undo pc_X8_undo = true := sorry
set_option maxRecDepth 100000 in
theorem ok_X8_noSlot : ckm mi_X8_noSlot pc_X8_noSlot = true := sorry
set_option maxRecDepth 100000 in
theorem ok_X8_saveSnapshot : ckm mi_X8_saveSnapshot pc_X8_saveSnapshot = true := sorry
set_option maxRecDepth 100000 in
theorem ok_X8_restoreSnapshot : ckm mi_X8_restoreSnapshot pc_X8_restoreSnapshot = true := sorry
set_option maxRecDepth 100000 in
theorem ok_L_parse : ckm mi_L_parse pc_L_parse = true := sorry
set_option maxRecDepth 100000 in
theorem ok_L_size : ckm mi_L_size pc_L_size = true := sorry
set_option maxRecDepth 100000 in
theorem ok_L_machine : ckm mi_L_machine pc_L_machine = true := sorry
set_option maxRecDepth 100000 in
theorem ok_L_strength : ckm mi_L_strength pc_L_strength = true := sorry
set_option maxRecDepth 100000 in
theorem ok_L_isAccepting : ckm mi_L_isAccepting pc_L_isAccepting = true := sorry
set_option maxRecDepth 100000 in
theorem ok_L_goes : ckm mi_L_goes pc_L_goes = true := sorry
set_option maxRecDepth 100000 in
theorem ok_L_distance : ckm mi_L_distance pc_L_distance = true := sorry
set_option maxRecDepth 100000 in
theorem ok_L_whyNotBid : ckm mi_L_whyNotBid pc_L_whyNotBid = true := sorry
set_option maxRecDepth 100000 in
theorem ok_L_bidLetter : ckm mi_L_bidLetter pc_L_bidLetter = true := sorry
set_option maxRecDepth 100000 in
theorem ok_L_bid : ckm mi_L_bid pc_L_bid = true := sorry
set_option maxRecDepth 100000 in
theorem ok_L_sum : ckm mi_L_sum pc_L_sum = true := sorry
set_option maxRecDepth 100000 in
theorem ok_L_pays : ckm mi_L_pays pc_L_pays = true := sorry
set_option maxRecDepth 100000 in
theorem ok_L_coinsAfter : ckm mi_L_coinsAfter pc_L_coinsAfter = true := sorry
set_option maxRecDepth 100000 in
theorem ok_L_accepts : ckm mi_L_accepts pc_L_accepts = true := sorry
set_option maxRecDepth 100000 in
theorem ok_L_words : ckm mi_L_words pc_L_words = true := sorry
set_option maxRecDepth 100000 in
theorem ok_L_shortest : ckm mi_L_shortest pc_L_shortest = true := sorry
set_option maxRecDepth 100000 in
theorem ok_L_shortestLetter : ckm mi_L_shortestLetter pc_L_shortestLetter = true := sorry
set_option maxRecDepth 100000 in
theorem ok_L_differs : ckm mi_L_differs pc_L_differs = true := sorry
set_option maxRecDepth 100000 in
theorem ok_L_log : ckm mi_L_log pc_L_log = true := sorry
set_option maxRecDepth 100000 in
theorem ok_L_account : ckm mi_L_account pc_L_account = true := sorry
set_option maxRecDepth 100000 in
theorem ok_L_play : ckm mi_L_play pc_L_play = true := sorry
set_option maxRecDepth 100000 in
theorem ok_L_buy : ckm mi_L_buy pc_L_buy = true := sorry
set_option maxRecDepth 100000 in
theorem ok_L_reset : ckm mi_L_reset pc_L_reset = true := sorry
set_option maxRecDepth 100000 in
theorem ok_L_give : ckm mi_L_give pc_L_give = true := sorry
set_option maxRecDepth 100000 in
theorem ok_L_setWeight : ckm mi_L_setWeight pc_L_setWeight = true := sorry
set_option maxRecDepth 100000 in
theorem ok_L_saveSnapshot : ckm mi_L_saveSnapshot pc_L_saveSnapshot = true := sorry
set_option maxRecDepth 100000 in
theorem ok_L_restoreSnapshot : ckm mi_L_restoreSnapshot pc_L_restoreSnapshot = true := sorry
set_option maxRecDepth 100000 in
theorem okl_0 : ((pc_L_law.drop 0).take 100).all (fun z => ckq mi_L_law z.1 z.2) = true := sorry
set_option maxRecDepth 100000 in
theorem okl_1 : ((pc_L_law.drop 100).take 100).all (fun z => ckq mi_L_law z.1 z.2) = true := sorry
set_option maxRecDepth 100000 in
theorem okl_2 : ((pc_L_law.drop 200).take 100).all (fun z => ckq mi_L_law z.1 z.2) = true := sorry
set_option maxRecDepth 100000 in
theorem okl_3 : ((pc_L_law.drop 300).take 100).all (fun z => ckq mi_L_law z.1 z.2) = true := sorry
set_option maxRecDepth 100000 in
theorem okl_4 : ((pc_L_law.drop 400).take 100).all (fun z => ckq mi_L_law z.1 z.2) = true := sorry
set_option maxRecDepth 100000 in
theorem okl_5 : ((pc_L_law.drop 500).take 100).all (fun z => ckq mi_L_law z.1 z.2) = true := sorry
set_option maxRecDepth 100000 in
theorem okl_6 : ((pc_L_law.drop 600).take 100).all (fun z => ckq mi_L_law z.1 z.2) = true := sorry
set_option maxRecDepth 100000 in
theorem okl_7 : ((pc_L_law.drop 700).take 100).all (fun z => ckq mi_L_law z.1 z.2) = true := sorry
set_option maxRecDepth 100000 in
theorem okl_8 : ((pc_L_law.drop 800).take 100).all (fun z => ckq mi_L_law z.1 z.2) = true := sorry
set_option maxRecDepth 100000 in
theorem okl_9 : ((pc_L_law.drop 900).take 100).all (fun z => ckq mi_L_law z.1 z.2) = true := sorry
set_option maxRecDepth 100000 in
theorem okl_10 : ((pc_L_law.drop 1000).take 100).all (fun z => ckq mi_L_law z.1 z.2) = true := sorry
set_option maxRecDepth 100000 in
theorem okl_11 : ((pc_L_law.drop 1100).take 100).all (fun z => ckq mi_L_law z.1 z.2) = true := sorry
set_option maxRecDepth 100000 in
theorem okl_12 : ((pc_L_law.drop 1200).take 100).all (fun z => ckq mi_L_law z.1 z.2) = true := sorry
