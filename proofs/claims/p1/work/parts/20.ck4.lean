set_option maxRecDepth 100000 in
theorem ok_X8_turns : ckm mi_X8_turns pc_X8_turns = true := by decide +kernel
set_option maxRecDepth 100000 in
theorem ok_X8_rounds : ckm mi_X8_rounds pc_X8_rounds = true := by decide +kernel
set_option maxRecDepth 100000 in
theorem ok_X8_plays : ckm mi_X8_plays pc_X8_plays = true := by decide +kernel
set_option maxRecDepth 100000 in
theorem ok_X8_size : ckm mi_X8_size pc_X8_size = true := by decide +kernel
set_option maxRecDepth 100000 in
theorem ok_X8_no : ckm mi_X8_no pc_X8_no = true := by decide +kernel
set_option maxRecDepth 100000 in
theorem ok_X8_noMachine : ckm mi_X8_noMachine pc_X8_noMachine = true := by decide +kernel
set_option maxRecDepth 100000 in
theorem ok_X8_noState : ckm mi_X8_noState pc_X8_noState = true := by decide +kernel
set_option maxRecDepth 100000 in
theorem ok_X8_machine : ckm mi_X8_machine pc_X8_machine = true := by decide +kernel
set_option maxRecDepth 100000 in
theorem ok_X8_strength : ckm mi_X8_strength pc_X8_strength = true := by decide +kernel
set_option maxRecDepth 100000 in
theorem ok_X8_isAccepting : ckm mi_X8_isAccepting pc_X8_isAccepting = true := by decide +kernel
set_option maxRecDepth 100000 in
theorem ok_X8_goes : ckm mi_X8_goes pc_X8_goes = true := by decide +kernel
set_option maxRecDepth 100000 in
theorem ok_X8_distance : ckm mi_X8_distance pc_X8_distance = true := by decide +kernel
set_option maxRecDepth 100000 in
theorem ok_X8_whyNotBid : ckm mi_X8_whyNotBid pc_X8_whyNotBid = true := by decide +kernel
set_option maxRecDepth 100000 in
theorem ok_X8_bidLetter : ckm mi_X8_bidLetter pc_X8_bidLetter = true := by decide +kernel
set_option maxRecDepth 100000 in
theorem ok_X8_bid : ckm mi_X8_bid pc_X8_bid = true := by decide +kernel
set_option maxRecDepth 100000 in
theorem ok_X8_sum : ckm mi_X8_sum pc_X8_sum = true := by decide +kernel
set_option maxRecDepth 100000 in
theorem ok_X8_winner : ckm mi_X8_winner pc_X8_winner = true := by decide +kernel
set_option maxRecDepth 100000 in
theorem ok_X8_price : ckm mi_X8_price pc_X8_price = true := by decide +kernel
set_option maxRecDepth 100000 in
theorem ok_X8_pays : ckm mi_X8_pays pc_X8_pays = true := by decide +kernel
set_option maxRecDepth 100000 in
theorem ok_X8_puts : ckm mi_X8_puts pc_X8_puts = true := by decide +kernel
set_option maxRecDepth 100000 in
theorem ok_X8_noRounds : ckm mi_X8_noRounds pc_X8_noRounds = true := by decide +kernel
set_option maxRecDepth 100000 in
theorem ok_X8_coinsAfter : ckm mi_X8_coinsAfter pc_X8_coinsAfter = true := by decide +kernel
set_option maxRecDepth 100000 in
theorem ok_X8_digit : ckm mi_X8_digit pc_X8_digit = true := by decide +kernel
set_option maxRecDepth 100000 in
theorem ok_X8_together : ckm mi_X8_together pc_X8_together = true := by decide +kernel
set_option maxRecDepth 100000 in
theorem ok_X8_areEnds : ckm mi_X8_areEnds pc_X8_areEnds = true := by decide +kernel
set_option maxRecDepth 100000 in
theorem ok_X8_noSet : ckm mi_X8_noSet pc_X8_noSet = true := by decide +kernel
set_option maxRecDepth 100000 in
theorem ok_X8_words : ckm mi_X8_words pc_X8_words = true := by decide +kernel
set_option maxRecDepth 100000 in
theorem ok_X8_goesOn : ckm mi_X8_goesOn pc_X8_goesOn = true := by decide +kernel
set_option maxRecDepth 100000 in
theorem ok_X8_firstEnd : ckm mi_X8_firstEnd pc_X8_firstEnd = true := by decide +kernel
set_option maxRecDepth 100000 in
theorem ok_X8_depthOf : ckm mi_X8_depthOf pc_X8_depthOf = true := by decide +kernel
set_option maxRecDepth 100000 in
theorem ok_X8_shortest : ckm mi_X8_shortest pc_X8_shortest = true := by decide +kernel
set_option maxRecDepth 100000 in
theorem ok_X8_shortestLetter : ckm mi_X8_shortestLetter pc_X8_shortestLetter = true := by decide +kernel
set_option maxRecDepth 100000 in
theorem ok_X8_goOrDie : ckm mi_X8_goOrDie pc_X8_goOrDie = true := by decide +kernel
set_option maxRecDepth 100000 in
theorem ok_X8_isOver : ckm mi_X8_isOver pc_X8_isOver = true := by decide +kernel
set_option maxRecDepth 100000 in
theorem ok_X8_differs : ckm mi_X8_differs pc_X8_differs = true := by decide +kernel
set_option maxRecDepth 100000 in
theorem ok_X8_letter : ckm mi_X8_letter pc_X8_letter = true := by decide +kernel
set_option maxRecDepth 100000 in
theorem ok_X8_accepts : ckm mi_X8_accepts pc_X8_accepts = true := by decide +kernel
set_option maxRecDepth 100000 in
theorem ok_X8_isAgreed : ckm mi_X8_isAgreed pc_X8_isAgreed = true := by decide +kernel
set_option maxRecDepth 100000 in
theorem ok_X8_log : ckm mi_X8_log pc_X8_log = true := by decide +kernel
set_option maxRecDepth 100000 in
theorem ok_X8_account : ckm mi_X8_account pc_X8_account = true := by decide +kernel
set_option maxRecDepth 100000 in
theorem ok_X8_play : ckm mi_X8_play pc_X8_play = true := by decide +kernel
set_option maxRecDepth 100000 in
theorem ok_X8_buy : ckm mi_X8_buy pc_X8_buy = true := by decide +kernel
set_option maxRecDepth 100000 in
theorem ok_X8_reset : ckm mi_X8_reset pc_X8_reset = true := by decide +kernel
set_option maxRecDepth 100000 in
theorem ok_X8_give : ckm mi_X8_give pc_X8_give = true := by decide +kernel
set_option maxRecDepth 100000 in
theorem ok_X8_setWeight : ckm mi_X8_setWeight pc_X8_setWeight = true := by decide +kernel
set_option maxRecDepth 100000 in
theorem ok_X8_copies : ckm mi_X8_copies pc_X8_copies = true := by decide +kernel
set_option maxRecDepth 100000 in
theorem ok_X8_keeps : ckm mi_X8_keeps pc_X8_keeps = true := by decide +kernel
set_option maxRecDepth 100000 in
theorem ok_X8_undo : ckm mi_X8_undo pc_X8_undo = true := by decide +kernel
set_option maxRecDepth 100000 in
theorem ok_X8_noSlot : ckm mi_X8_noSlot pc_X8_noSlot = true := by decide +kernel
set_option maxRecDepth 100000 in
theorem ok_X8_saveSnapshot : ckm mi_X8_saveSnapshot pc_X8_saveSnapshot = true := by decide +kernel
set_option maxRecDepth 100000 in
theorem ok_X8_restoreSnapshot : ckm mi_X8_restoreSnapshot pc_X8_restoreSnapshot = true := by decide +kernel
