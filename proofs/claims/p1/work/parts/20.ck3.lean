set_option maxRecDepth 100000 in
theorem ok_X8_init : ckm mi_X8_init pc_X8_init = true := by decide +kernel
set_option maxRecDepth 100000 in
theorem ok_X8_thrown : ckm mi_X8_thrown pc_X8_thrown = true := by decide +kernel
set_option maxRecDepth 100000 in
theorem ok_X8_within : ckm mi_X8_within pc_X8_within = true := by decide +kernel
set_option maxRecDepth 100000 in
theorem ok_X8_throwsIf : ckm mi_X8_throwsIf pc_X8_throwsIf = true := by decide +kernel
set_option maxRecDepth 100000 in
theorem ok_X8_append : ckm mi_X8_append pc_X8_append = true := by decide +kernel
set_option maxRecDepth 100000 in
theorem ok_X8_bytesOf : ckm mi_X8_bytesOf pc_X8_bytesOf = true := by decide +kernel
set_option maxRecDepth 100000 in
theorem ok_X8_byteAt : ckm mi_X8_byteAt pc_X8_byteAt = true := by decide +kernel
set_option maxRecDepth 100000 in
theorem ok_X8_advance : ckm mi_X8_advance pc_X8_advance = true := by decide +kernel
set_option maxRecDepth 100000 in
theorem ok_X8_isWord : ckm mi_X8_isWord pc_X8_isWord = true := by decide +kernel
set_option maxRecDepth 100000 in
theorem ok_X8_fails : ckm mi_X8_fails pc_X8_fails = true := by decide +kernel
set_option maxRecDepth 100000 in
theorem ok_X8_starts : ckm mi_X8_starts pc_X8_starts = true := by decide +kernel
set_option maxRecDepth 100000 in
theorem ok_X8_takes : ckm mi_X8_takes pc_X8_takes = true := by decide +kernel
set_option maxRecDepth 100000 in
theorem ok_X8_lays : ckm mi_X8_lays pc_X8_lays = true := by decide +kernel
set_option maxRecDepth 100000 in
theorem ok_X8_closes : ckm mi_X8_closes pc_X8_closes = true := by decide +kernel
set_option maxRecDepth 100000 in
theorem ok_X8_named : ckm mi_X8_named pc_X8_named = true := by decide +kernel
set_option maxRecDepth 100000 in
theorem ok_X8_machineLine : ckm mi_X8_machineLine pc_X8_machineLine = true := by decide +kernel
set_option maxRecDepth 100000 in
theorem ok_X8_machineRead : ckm mi_X8_machineRead pc_X8_machineRead = true := by decide +kernel
set_option maxRecDepth 100000 in
theorem ok_X8_stateAt : ckm mi_X8_stateAt pc_X8_stateAt = true := by decide +kernel
set_option maxRecDepth 100000 in
theorem ok_X8_stateRead : ckm mi_X8_stateRead pc_X8_stateRead = true := by decide +kernel
set_option maxRecDepth 100000 in
theorem ok_X8_goLine : ckm mi_X8_goLine pc_X8_goLine = true := by decide +kernel
set_option maxRecDepth 100000 in
theorem ok_X8_acceptLine : ckm mi_X8_acceptLine pc_X8_acceptLine = true := by decide +kernel
set_option maxRecDepth 100000 in
theorem ok_X8_tireLine : ckm mi_X8_tireLine pc_X8_tireLine = true := by decide +kernel
set_option maxRecDepth 100000 in
theorem ok_X8_turnLine : ckm mi_X8_turnLine pc_X8_turnLine = true := by decide +kernel
set_option maxRecDepth 100000 in
theorem ok_X8_statement : ckm mi_X8_statement pc_X8_statement = true := by decide +kernel
set_option maxRecDepth 100000 in
theorem ok_X8_clearsRead : ckm mi_X8_clearsRead pc_X8_clearsRead = true := by decide +kernel
set_option maxRecDepth 100000 in
theorem ok_X8_parse : ckm mi_X8_parse pc_X8_parse = true := by decide +kernel
set_option maxRecDepth 100000 in
theorem ok_X8_begins : ckm mi_X8_begins pc_X8_begins = true := by decide +kernel
set_option maxRecDepth 100000 in
theorem ok_X8_errorPosition : ckm mi_X8_errorPosition pc_X8_errorPosition = true := by decide +kernel
set_option maxRecDepth 100000 in
theorem ok_X8_toldOf : ckm mi_X8_toldOf pc_X8_toldOf = true := by decide +kernel
set_option maxRecDepth 100000 in
theorem ok_X8_toldState : ckm mi_X8_toldState pc_X8_toldState = true := by decide +kernel
set_option maxRecDepth 100000 in
theorem ok_X8_isEnd : ckm mi_X8_isEnd pc_X8_isEnd = true := by decide +kernel
set_option maxRecDepth 100000 in
theorem ok_X8_goOf : ckm mi_X8_goOf pc_X8_goOf = true := by decide +kernel
set_option maxRecDepth 100000 in
theorem ok_X8_of : ckm mi_X8_of pc_X8_of = true := by decide +kernel
set_option maxRecDepth 100000 in
theorem ok_X8_sets : ckm mi_X8_sets pc_X8_sets = true := by decide +kernel
set_option maxRecDepth 100000 in
theorem ok_X8_freshens : ckm mi_X8_freshens pc_X8_freshens = true := by decide +kernel
set_option maxRecDepth 100000 in
theorem ok_X8_isTired : ckm mi_X8_isTired pc_X8_isTired = true := by decide +kernel
set_option maxRecDepth 100000 in
theorem ok_X8_distanceOf : ckm mi_X8_distanceOf pc_X8_distanceOf = true := by decide +kernel
set_option maxRecDepth 100000 in
theorem ok_X8_leadsTo : ckm mi_X8_leadsTo pc_X8_leadsTo = true := by decide +kernel
set_option maxRecDepth 100000 in
theorem ok_X8_why : ckm mi_X8_why pc_X8_why = true := by decide +kernel
set_option maxRecDepth 100000 in
theorem ok_X8_worth : ckm mi_X8_worth pc_X8_worth = true := by decide +kernel
set_option maxRecDepth 100000 in
theorem ok_X8_wanted : ckm mi_X8_wanted pc_X8_wanted = true := by decide +kernel
set_option maxRecDepth 100000 in
theorem ok_X8_bidOf : ckm mi_X8_bidOf pc_X8_bidOf = true := by decide +kernel
set_option maxRecDepth 100000 in
theorem ok_X8_sumOf : ckm mi_X8_sumOf pc_X8_sumOf = true := by decide +kernel
set_option maxRecDepth 100000 in
theorem ok_X8_bestLetter : ckm mi_X8_bestLetter pc_X8_bestLetter = true := by decide +kernel
set_option maxRecDepth 100000 in
theorem ok_X8_priceOf : ckm mi_X8_priceOf pc_X8_priceOf = true := by decide +kernel
set_option maxRecDepth 100000 in
theorem ok_X8_laysPaid : ckm mi_X8_laysPaid pc_X8_laysPaid = true := by decide +kernel
set_option maxRecDepth 100000 in
theorem ok_X8_intoChest : ckm mi_X8_intoChest pc_X8_intoChest = true := by decide +kernel
set_option maxRecDepth 100000 in
theorem ok_X8_enters : ckm mi_X8_enters pc_X8_enters = true := by decide +kernel
set_option maxRecDepth 100000 in
theorem ok_X8_canGo : ckm mi_X8_canGo pc_X8_canGo = true := by decide +kernel
set_option maxRecDepth 100000 in
theorem ok_X8_hears : ckm mi_X8_hears pc_X8_hears = true := by decide +kernel
set_option maxRecDepth 100000 in
theorem ok_X8_says : ckm mi_X8_says pc_X8_says = true := by decide +kernel
set_option maxRecDepth 100000 in
theorem ok_X8_writes : ckm mi_X8_writes pc_X8_writes = true := by decide +kernel
