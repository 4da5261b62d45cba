set_option maxRecDepth 100000 in
theorem ok_X0_init : ckm mi_X0_init pc_X0_init = true := by decide +kernel
set_option maxRecDepth 100000 in
theorem ok_X0_measure : ckm mi_X0_measure pc_X0_measure = true := by decide +kernel
set_option maxRecDepth 100000 in
theorem ok_X0_isNextTo : ckm mi_X0_isNextTo pc_X0_isNextTo = true := by decide +kernel
set_option maxRecDepth 100000 in
theorem ok_X0_obstacle : ckm mi_X0_obstacle pc_X0_obstacle = true := by decide +kernel
set_option maxRecDepth 100000 in
theorem ok_X0_collect : ckm mi_X0_collect pc_X0_collect = true := by decide +kernel
set_option maxRecDepth 100000 in
theorem ok_X0_choose : ckm mi_X0_choose pc_X0_choose = true := by decide +kernel
set_option maxRecDepth 100000 in
theorem ok_X0_findBest : ckm mi_X0_findBest pc_X0_findBest = true := by decide +kernel
set_option maxRecDepth 100000 in
theorem ok_X0_divideCost : ckm mi_X0_divideCost pc_X0_divideCost = true := by decide +kernel
set_option maxRecDepth 100000 in
theorem ok_X0_divideRest : ckm mi_X0_divideRest pc_X0_divideRest = true := by decide +kernel
set_option maxRecDepth 100000 in
theorem ok_X0_playRounds : ckm mi_X0_playRounds pc_X0_playRounds = true := by decide +kernel
set_option maxRecDepth 100000 in
theorem ok_X0_carryOut : ckm mi_X0_carryOut pc_X0_carryOut = true := by decide +kernel
set_option maxRecDepth 100000 in
theorem ok_X1_init : ckm mi_X1_init pc_X1_init = true := by decide +kernel
set_option maxRecDepth 100000 in
theorem ok_X1_empty : ckm mi_X1_empty pc_X1_empty = true := by decide +kernel
set_option maxRecDepth 100000 in
theorem ok_X1_keep : ckm mi_X1_keep pc_X1_keep = true := by decide +kernel
set_option maxRecDepth 100000 in
theorem ok_X1_takeBack : ckm mi_X1_takeBack pc_X1_takeBack = true := by decide +kernel
set_option maxRecDepth 100000 in
theorem ok_X1_isSaved : ckm mi_X1_isSaved pc_X1_isSaved = true := by decide +kernel
set_option maxRecDepth 100000 in
theorem ok_X1_save : ckm mi_X1_save pc_X1_save = true := by decide +kernel
set_option maxRecDepth 100000 in
theorem ok_X1_load : ckm mi_X1_load pc_X1_load = true := by decide +kernel
set_option maxRecDepth 100000 in
theorem ok_X2_init : ckm mi_X2_init pc_X2_init = true := by decide +kernel
set_option maxRecDepth 100000 in
theorem ok_X2_clear : ckm mi_X2_clear pc_X2_clear = true := by decide +kernel
set_option maxRecDepth 100000 in
theorem ok_X2_target : ckm mi_X2_target pc_X2_target = true := by decide +kernel
set_option maxRecDepth 100000 in
theorem ok_X2_setTarget : ckm mi_X2_setTarget pc_X2_setTarget = true := by decide +kernel
set_option maxRecDepth 100000 in
theorem ok_X2_isGoal : ckm mi_X2_isGoal pc_X2_isGoal = true := by decide +kernel
set_option maxRecDepth 100000 in
theorem ok_X2_isListening : ckm mi_X2_isListening pc_X2_isListening = true := by decide +kernel
set_option maxRecDepth 100000 in
theorem ok_X3_init : ckm mi_X3_init pc_X3_init = true := by decide +kernel
set_option maxRecDepth 100000 in
theorem ok_X3_put : ckm mi_X3_put pc_X3_put = true := by decide +kernel
set_option maxRecDepth 100000 in
theorem ok_X3_readInto : ckm mi_X3_readInto pc_X3_readInto = true := by decide +kernel
set_option maxRecDepth 100000 in
theorem ok_X3_readStatement : ckm mi_X3_readStatement pc_X3_readStatement = true := by decide +kernel
set_option maxRecDepth 100000 in
theorem ok_X3_readMachine : ckm mi_X3_readMachine pc_X3_readMachine = true := by decide +kernel
set_option maxRecDepth 100000 in
theorem ok_X3_readGo : ckm mi_X3_readGo pc_X3_readGo = true := by decide +kernel
set_option maxRecDepth 100000 in
theorem ok_X3_readAccept : ckm mi_X3_readAccept pc_X3_readAccept = true := by decide +kernel
set_option maxRecDepth 100000 in
theorem ok_X3_readTire : ckm mi_X3_readTire pc_X3_readTire = true := by decide +kernel
set_option maxRecDepth 100000 in
theorem ok_X3_readTurn : ckm mi_X3_readTurn pc_X3_readTurn = true := by decide +kernel
set_option maxRecDepth 100000 in
theorem ok_X3_takeSemicolon : ckm mi_X3_takeSemicolon pc_X3_takeSemicolon = true := by decide +kernel
set_option maxRecDepth 100000 in
theorem ok_X3_takeNumber : ckm mi_X3_takeNumber pc_X3_takeNumber = true := by decide +kernel
set_option maxRecDepth 100000 in
theorem ok_X3_takeNewName : ckm mi_X3_takeNewName pc_X3_takeNewName = true := by decide +kernel
set_option maxRecDepth 100000 in
theorem ok_X3_takeMachine : ckm mi_X3_takeMachine pc_X3_takeMachine = true := by decide +kernel
set_option maxRecDepth 100000 in
theorem ok_X3_takeLetter : ckm mi_X3_takeLetter pc_X3_takeLetter = true := by decide +kernel
set_option maxRecDepth 100000 in
theorem ok_X3_fail : ckm mi_X3_fail pc_X3_fail = true := by decide +kernel
set_option maxRecDepth 100000 in
theorem ok_X3_indexOfName : ckm mi_X3_indexOfName pc_X3_indexOfName = true := by decide +kernel
set_option maxRecDepth 100000 in
theorem ok_X3_isKeyword : ckm mi_X3_isKeyword pc_X3_isKeyword = true := by decide +kernel
set_option maxRecDepth 100000 in
theorem ok_X4_init : ckm mi_X4_init pc_X4_init = true := by decide +kernel
set_option maxRecDepth 100000 in
theorem ok_X4_count : ckm mi_X4_count pc_X4_count = true := by decide +kernel
set_option maxRecDepth 100000 in
theorem ok_X4_waysFrom : ckm mi_X4_waysFrom pc_X4_waysFrom = true := by decide +kernel
set_option maxRecDepth 100000 in
theorem ok_X4_lengthTogether : ckm mi_X4_lengthTogether pc_X4_lengthTogether = true := by decide +kernel
set_option maxRecDepth 100000 in
theorem ok_X4_letterTogether : ckm mi_X4_letterTogether pc_X4_letterTogether = true := by decide +kernel
set_option maxRecDepth 100000 in
theorem ok_X4_lengthApart : ckm mi_X4_lengthApart pc_X4_lengthApart = true := by decide +kernel
set_option maxRecDepth 100000 in
theorem ok_X4_begin : ckm mi_X4_begin pc_X4_begin = true := by decide +kernel
set_option maxRecDepth 100000 in
theorem ok_X4_meet : ckm mi_X4_meet pc_X4_meet = true := by decide +kernel
set_option maxRecDepth 100000 in
theorem ok_X4_explore : ckm mi_X4_explore pc_X4_explore = true := by decide +kernel
set_option maxRecDepth 100000 in
theorem ok_X4_lengthTo : ckm mi_X4_lengthTo pc_X4_lengthTo = true := by decide +kernel
set_option maxRecDepth 100000 in
theorem ok_X4_step : ckm mi_X4_step pc_X4_step = true := by decide +kernel
set_option maxRecDepth 100000 in
theorem ok_X4_isFound : ckm mi_X4_isFound pc_X4_isFound = true := by decide +kernel
