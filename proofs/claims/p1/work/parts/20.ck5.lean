set_option maxRecDepth 100000 in
theorem ok_L_parse : ckm mi_L_parse pc_L_parse = true := by decide +kernel
set_option maxRecDepth 100000 in
theorem ok_L_size : ckm mi_L_size pc_L_size = true := by decide +kernel
set_option maxRecDepth 100000 in
theorem ok_L_machine : ckm mi_L_machine pc_L_machine = true := by decide +kernel
set_option maxRecDepth 100000 in
theorem ok_L_strength : ckm mi_L_strength pc_L_strength = true := by decide +kernel
set_option maxRecDepth 100000 in
theorem ok_L_isAccepting : ckm mi_L_isAccepting pc_L_isAccepting = true := by decide +kernel
set_option maxRecDepth 100000 in
theorem ok_L_goes : ckm mi_L_goes pc_L_goes = true := by decide +kernel
set_option maxRecDepth 100000 in
theorem ok_L_distance : ckm mi_L_distance pc_L_distance = true := by decide +kernel
set_option maxRecDepth 100000 in
theorem ok_L_whyNotBid : ckm mi_L_whyNotBid pc_L_whyNotBid = true := by decide +kernel
set_option maxRecDepth 100000 in
theorem ok_L_bidLetter : ckm mi_L_bidLetter pc_L_bidLetter = true := by decide +kernel
set_option maxRecDepth 100000 in
theorem ok_L_bid : ckm mi_L_bid pc_L_bid = true := by decide +kernel
set_option maxRecDepth 100000 in
theorem ok_L_sum : ckm mi_L_sum pc_L_sum = true := by decide +kernel
set_option maxRecDepth 100000 in
theorem ok_L_pays : ckm mi_L_pays pc_L_pays = true := by decide +kernel
set_option maxRecDepth 100000 in
theorem ok_L_coinsAfter : ckm mi_L_coinsAfter pc_L_coinsAfter = true := by decide +kernel
set_option maxRecDepth 100000 in
theorem ok_L_accepts : ckm mi_L_accepts pc_L_accepts = true := by decide +kernel
set_option maxRecDepth 100000 in
theorem ok_L_words : ckm mi_L_words pc_L_words = true := by decide +kernel
set_option maxRecDepth 100000 in
theorem ok_L_shortest : ckm mi_L_shortest pc_L_shortest = true := by decide +kernel
set_option maxRecDepth 100000 in
theorem ok_L_shortestLetter : ckm mi_L_shortestLetter pc_L_shortestLetter = true := by decide +kernel
set_option maxRecDepth 100000 in
theorem ok_L_differs : ckm mi_L_differs pc_L_differs = true := by decide +kernel
set_option maxRecDepth 100000 in
theorem ok_L_log : ckm mi_L_log pc_L_log = true := by decide +kernel
set_option maxRecDepth 100000 in
theorem ok_L_account : ckm mi_L_account pc_L_account = true := by decide +kernel
set_option maxRecDepth 100000 in
theorem ok_L_play : ckm mi_L_play pc_L_play = true := by decide +kernel
set_option maxRecDepth 100000 in
theorem ok_L_buy : ckm mi_L_buy pc_L_buy = true := by decide +kernel
set_option maxRecDepth 100000 in
theorem ok_L_reset : ckm mi_L_reset pc_L_reset = true := by decide +kernel
set_option maxRecDepth 100000 in
theorem ok_L_give : ckm mi_L_give pc_L_give = true := by decide +kernel
set_option maxRecDepth 100000 in
theorem ok_L_setWeight : ckm mi_L_setWeight pc_L_setWeight = true := by decide +kernel
set_option maxRecDepth 100000 in
theorem ok_L_saveSnapshot : ckm mi_L_saveSnapshot pc_L_saveSnapshot = true := by decide +kernel
set_option maxRecDepth 100000 in
theorem ok_L_restoreSnapshot : ckm mi_L_restoreSnapshot pc_L_restoreSnapshot = true := by decide +kernel
