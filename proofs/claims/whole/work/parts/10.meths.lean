section JMM
def m_X0_init : jm_M := (yX0_init, cX0_init, 1, none, { frames := 2, cells := 5, slots := 24, locals := 40 })
def m_X0_find : jm_M := (yX0_find, cX0_find, 6, none, { frames := 5, cells := 0, slots := 0, locals := 121 })
def m_X0_spreadOf : jm_M := (yX0_spreadOf, cX0_spreadOf, 7, (some .int), { frames := 2, cells := 0, slots := 0, locals := 52 })
def m_X0_judge : jm_M := (yX0_judge, cX0_judge, 8, none, { frames := 4, cells := 0, slots := 0, locals := 94 })
def m_X0_gather : jm_M := (yX0_gather, cX0_gather, 8, none, { frames := 1, cells := 0, slots := 0, locals := 21 })
def m_X0_choose : jm_M := (yX0_choose, cX0_choose, 5, (some .boolean), { frames := 1, cells := 0, slots := 0, locals := 21 })
def m_X1_init : jm_M := (yX1_init, cX1_init, 1, none, { frames := 1, cells := 1, slots := 4, locals := 20 })
def m_X1_search : jm_M := (yX1_search, cX1_search, 10, (some .boolean), { frames := 2, cells := 0, slots := 0, locals := 52 })
def m_X1_spreadAt : jm_M := (yX1_spreadAt, cX1_spreadAt, 8, (some .int), { frames := 1, cells := 0, slots := 0, locals := 25 })
def m_X1_leastStart : jm_M := (yX1_leastStart, cX1_leastStart, 4, (some .int), { frames := 1, cells := 0, slots := 0, locals := 25 })
def m_X2_init : jm_M := (yX2_init, cX2_init, 3, none, { frames := 1, cells := 2, slots := 3362, locals := 22 })
def m_X2_speedAt : jm_M := (yX2_speedAt, cX2_speedAt, 1, (some .int), { frames := 1, cells := 0, slots := 0, locals := 22 })
def m_X2_tune : jm_M := (yX2_tune, cX2_tune, 4, none, { frames := 2, cells := 0, slots := 0, locals := 42 })
def m_X2_distance : jm_M := (yX2_distance, cX2_distance, 5, (some .int), { frames := 1, cells := 0, slots := 0, locals := 21 })
def m_X2_crackTime : jm_M := (yX2_crackTime, cX2_crackTime, 6, (some .int), { frames := 0, cells := 0, slots := 0, locals := 0 })
def m_X2_lag : jm_M := (yX2_lag, cX2_lag, 4, (some .int), { frames := 0, cells := 0, slots := 0, locals := 0 })
def m_X2_rootOf : jm_M := (yX2_rootOf, cX2_rootOf, 3, (some .int), { frames := 0, cells := 0, slots := 0, locals := 0 })
def m_X3_init : jm_M := (yX3_init, cX3_init, 1, none, { frames := 1, cells := 2, slots := 35, locals := 20 })
def m_X3_isPulse : jm_M := (yX3_isPulse, cX3_isPulse, 2, (some .boolean), { frames := 0, cells := 0, slots := 0, locals := 0 })
def m_X3_earOf : jm_M := (yX3_earOf, cX3_earOf, 2, (some .int), { frames := 0, cells := 0, slots := 0, locals := 0 })
def m_X3_timeOf : jm_M := (yX3_timeOf, cX3_timeOf, 2, (some .int), { frames := 0, cells := 0, slots := 0, locals := 0 })
def m_X3_has : jm_M := (yX3_has, cX3_has, 3, (some .boolean), { frames := 1, cells := 0, slots := 0, locals := 22 })
def m_X3_refusalOf : jm_M := (yX3_refusalOf, cX3_refusalOf, 2, (some .int), { frames := 2, cells := 0, slots := 0, locals := 44 })
def m_X3_add : jm_M := (yX3_add, cX3_add, 3, (some .int), { frames := 1, cells := 0, slots := 0, locals := 26 })
def m_X3_remove : jm_M := (yX3_remove, cX3_remove, 2, none, { frames := 1, cells := 0, slots := 0, locals := 26 })
def m_X3_become : jm_M := (yX3_become, cX3_become, 2, none, { frames := 1, cells := 0, slots := 0, locals := 26 })
def m_X3_placeOf : jm_M := (yX3_placeOf, cX3_placeOf, 3, (some .int), { frames := 0, cells := 0, slots := 0, locals := 0 })
def m_X4_init : jm_M := (yX4_init, cX4_init, 2, none, { frames := 2, cells := 19, slots := 234, locals := 40 })
def m_X4_record : jm_M := (yX4_record, cX4_record, 2, none, { frames := 2, cells := 0, slots := 0, locals := 47 })
def m_X4_takeBack : jm_M := (yX4_takeBack, cX4_takeBack, 2, none, { frames := 2, cells := 0, slots := 0, locals := 47 })
def m_X5_init : jm_M := (yX5_init, cX5_init, 1, none, { frames := 1, cells := 2, slots := 100, locals := 20 })
def m_X5_append : jm_M := (yX5_append, cX5_append, 2, none, { frames := 0, cells := 0, slots := 0, locals := 0 })
def m_X5_read : jm_M := (yX5_read, cX5_read, 3, (some .int), { frames := 3, cells := 0, slots := 0, locals := 65 })
def m_X5_step : jm_M := (yX5_step, cX5_step, 5, (some .int), { frames := 2, cells := 0, slots := 0, locals := 41 })
def m_X5_note : jm_M := (yX5_note, cX5_note, 1, none, { frames := 1, cells := 0, slots := 0, locals := 21 })
def m_X6_init : jm_M := (yX6_init, cX6_init, 1, none, { frames := 1, cells := 1, slots := 4, locals := 20 })
def m_X6_become : jm_M := (yX6_become, cX6_become, 4, none, { frames := 2, cells := 0, slots := 0, locals := 48 })
def m_X6_tell : jm_M := (yX6_tell, cX6_tell, 2, (some .int), { frames := 0, cells := 0, slots := 0, locals := 0 })
def m_X7_init : jm_M := (yX7_init, cX7_init, 2, none, { frames := 2, cells := 18, slots := 120, locals := 40 })
def m_X7_reset : jm_M := (yX7_reset, cX7_reset, 2, none, { frames := 0, cells := 0, slots := 0, locals := 0 })
def m_X7_isShot : jm_M := (yX7_isShot, cX7_isShot, 2, (some .boolean), { frames := 0, cells := 0, slots := 0, locals := 0 })
def m_X7_draft : jm_M := (yX7_draft, cX7_draft, 4, none, { frames := 3, cells := 0, slots := 0, locals := 71 })
def m_X7_accept : jm_M := (yX7_accept, cX7_accept, 2, none, { frames := 0, cells := 0, slots := 0, locals := 0 })
def m_X7_sumOfRings : jm_M := (yX7_sumOfRings, cX7_sumOfRings, 3, (some .int), { frames := 0, cells := 0, slots := 0, locals := 0 })
def m_X7_sumOfSpreads : jm_M := (yX7_sumOfSpreads, cX7_sumOfSpreads, 3, (some .int), { frames := 0, cells := 0, slots := 0, locals := 0 })
def m_X7_sumOfX : jm_M := (yX7_sumOfX, cX7_sumOfX, 3, (some .int), { frames := 0, cells := 0, slots := 0, locals := 0 })
def m_X7_sumOfY : jm_M := (yX7_sumOfY, cX7_sumOfY, 3, (some .int), { frames := 0, cells := 0, slots := 0, locals := 0 })
def m_X7_withGreatestRing : jm_M := (yX7_withGreatestRing, cX7_withGreatestRing, 4, (some .int), { frames := 0, cells := 0, slots := 0, locals := 0 })
def m_X7_widest : jm_M := (yX7_widest, cX7_widest, 5, (some .int), { frames := 2, cells := 0, slots := 0, locals := 45 })
def m_X8_init : jm_M := (yX8_init, cX8_init, 2, none, { frames := 3, cells := 81, slots := 4100, locals := 61 })
def m_X8_set : jm_M := (yX8_set, cX8_set, 4, (some .int), { frames := 4, cells := 0, slots := 0, locals := 88 })
def m_X8_hear : jm_M := (yX8_hear, cX8_hear, 5, (some .int), { frames := 4, cells := 0, slots := 0, locals := 88 })
def m_X8_fire : jm_M := (yX8_fire, cX8_fire, 5, (some .int), { frames := 4, cells := 0, slots := 0, locals := 88 })
def m_X8_hearAll : jm_M := (yX8_hearAll, cX8_hearAll, 2, (some .int), { frames := 4, cells := 0, slots := 0, locals := 88 })
def m_X8_forget : jm_M := (yX8_forget, cX8_forget, 3, (some .int), { frames := 4, cells := 0, slots := 0, locals := 88 })
def m_X8_clear : jm_M := (yX8_clear, cX8_clear, 2, (some .int), { frames := 4, cells := 0, slots := 0, locals := 88 })
def m_X8_takes : jm_M := (yX8_takes, cX8_takes, 4, (some .int), { frames := 3, cells := 0, slots := 0, locals := 65 })
def m_X8_pulse : jm_M := (yX8_pulse, cX8_pulse, 3, (some .int), { frames := 7, cells := 0, slots := 0, locals := 166 })
def m_X8_shot : jm_M := (yX8_shot, cX8_shot, 4, (some .int), { frames := 7, cells := 0, slots := 0, locals := 166 })
def m_X8_count : jm_M := (yX8_count, cX8_count, 2, (some .int), { frames := 7, cells := 0, slots := 0, locals := 166 })
def m_X8_fits : jm_M := (yX8_fits, cX8_fits, 5, (some .int), { frames := 7, cells := 0, slots := 0, locals := 166 })
def m_X8_mean : jm_M := (yX8_mean, cX8_mean, 3, (some .int), { frames := 7, cells := 0, slots := 0, locals := 166 })
def m_X8_ifHeat : jm_M := (yX8_ifHeat, cX8_ifHeat, 3, (some .int), { frames := 7, cells := 0, slots := 0, locals := 168 })
def m_X8_bestHeat : jm_M := (yX8_bestHeat, cX8_bestHeat, 6, (some .int), { frames := 7, cells := 0, slots := 0, locals := 168 })
def m_X8_ifForgot : jm_M := (yX8_ifForgot, cX8_ifForgot, 2, (some .int), { frames := 7, cells := 0, slots := 0, locals := 168 })
def m_X8_put : jm_M := (yX8_put, cX8_put, 8, (some .int), { frames := 1, cells := 0, slots := 0, locals := 21 })
def m_X8_wipe : jm_M := (yX8_wipe, cX8_wipe, 2, (some .int), { frames := 0, cells := 0, slots := 0, locals := 0 })
def m_X8_fault : jm_M := (yX8_fault, cX8_fault, 1, (some .int), { frames := 4, cells := 0, slots := 0, locals := 87 })
def m_X8_undo : jm_M := (yX8_undo, cX8_undo, 1, (some .int), { frames := 3, cells := 0, slots := 0, locals := 68 })
def m_X8_save : jm_M := (yX8_save, cX8_save, 2, (some .int), { frames := 2, cells := 0, slots := 0, locals := 47 })
def m_X8_restore : jm_M := (yX8_restore, cX8_restore, 2, (some .int), { frames := 4, cells := 0, slots := 0, locals := 88 })
def m_X8_beginChange : jm_M := (yX8_beginChange, cX8_beginChange, 1, none, { frames := 3, cells := 0, slots := 0, locals := 68 })
def m_X8_current : jm_M := (yX8_current, cX8_current, 1, (some (.object "CrackTarget$Shots")), { frames := 6, cells := 0, slots := 0, locals := 146 })
def m_X8_tryOut : jm_M := (yX8_tryOut, cX8_tryOut, 3, none, { frames := 6, cells := 0, slots := 0, locals := 146 })
def m_X8_isEar : jm_M := (yX8_isEar, cX8_isEar, 1, (some .boolean), { frames := 0, cells := 0, slots := 0, locals := 0 })
def m_X8_isPoint : jm_M := (yX8_isPoint, cX8_isPoint, 2, (some .boolean), { frames := 0, cells := 0, slots := 0, locals := 0 })
def m_X8_markOf : jm_M := (yX8_markOf, cX8_markOf, 2, (some .int), { frames := 0, cells := 0, slots := 0, locals := 0 })
def m_X9_init : jm_M := (yX9_init, cX9_init, 3, none, { frames := 1, cells := 16, slots := 9271, locals := 22 })
def m_X9_moves : jm_M := (yX9_moves, cX9_moves, 5, none, { frames := 0, cells := 0, slots := 0, locals := 0 })
def m_X9_within : jm_M := (yX9_within, cX9_within, 3, (some .boolean), { frames := 0, cells := 0, slots := 0, locals := 0 })
def m_X9_size : jm_M := (yX9_size, cX9_size, 1, (some .int), { frames := 0, cells := 0, slots := 0, locals := 0 })
def m_X9_root : jm_M := (yX9_root, cX9_root, 3, (some .int), { frames := 0, cells := 0, slots := 0, locals := 0 })
def m_X9_record : jm_M := (yX9_record, cX9_record, 2, none, { frames := 1, cells := 0, slots := 0, locals := 24 })
def m_X9_isPoint : jm_M := (yX9_isPoint, cX9_isPoint, 2, (some .boolean), { frames := 1, cells := 0, slots := 0, locals := 22 })
def m_X9_isEar : jm_M := (yX9_isEar, cX9_isEar, 1, (some .boolean), { frames := 1, cells := 0, slots := 0, locals := 22 })
def m_X9_distance : jm_M := (yX9_distance, cX9_distance, 5, (some .int), { frames := 1, cells := 0, slots := 0, locals := 20 })
def m_X9_speedBy : jm_M := (yX9_speedBy, cX9_speedBy, 1, (some .int), { frames := 0, cells := 0, slots := 0, locals := 0 })
def m_X9_takesBy : jm_M := (yX9_takesBy, cX9_takesBy, 5, (some .int), { frames := 2, cells := 0, slots := 0, locals := 44 })
def m_X9_reckon : jm_M := (yX9_reckon, cX9_reckon, 4, none, { frames := 3, cells := 0, slots := 0, locals := 68 })
def m_X9_isPulse : jm_M := (yX9_isPulse, cX9_isPulse, 2, (some .boolean), { frames := 1, cells := 0, slots := 0, locals := 22 })
def m_X9_earOf : jm_M := (yX9_earOf, cX9_earOf, 2, (some .int), { frames := 0, cells := 0, slots := 0, locals := 0 })
def m_X9_timeOf : jm_M := (yX9_timeOf, cX9_timeOf, 2, (some .int), { frames := 0, cells := 0, slots := 0, locals := 0 })
def m_X9_isThere : jm_M := (yX9_isThere, cX9_isThere, 5, (some .boolean), { frames := 1, cells := 0, slots := 0, locals := 21 })
def m_X9_comes : jm_M := (yX9_comes, cX9_comes, 4, (some .int), { frames := 1, cells := 0, slots := 0, locals := 21 })
def m_X9_goes : jm_M := (yX9_goes, cX9_goes, 3, none, { frames := 0, cells := 0, slots := 0, locals := 0 })
def m_X9_spreadAt : jm_M := (yX9_spreadAt, cX9_spreadAt, 6, (some .int), { frames := 1, cells := 0, slots := 0, locals := 21 })
def m_X9_momentAt : jm_M := (yX9_momentAt, cX9_momentAt, 5, (some .int), { frames := 1, cells := 0, slots := 0, locals := 21 })
def m_X9_findPlace : jm_M := (yX9_findPlace, cX9_findPlace, 3, none, { frames := 2, cells := 0, slots := 0, locals := 46 })
def m_X9_findCandidates : jm_M := (yX9_findCandidates, cX9_findCandidates, 7, (some .boolean), { frames := 1, cells := 0, slots := 0, locals := 21 })
def m_X9_takeRow : jm_M := (yX9_takeRow, cX9_takeRow, 3, none, { frames := 0, cells := 0, slots := 0, locals := 0 })
def m_X9_isRow : jm_M := (yX9_isRow, cX9_isRow, 3, (some .boolean), { frames := 0, cells := 0, slots := 0, locals := 0 })
def m_X9_findBest : jm_M := (yX9_findBest, cX9_findBest, 3, none, { frames := 3, cells := 0, slots := 0, locals := 68 })
def m_X9_becomesShot : jm_M := (yX9_becomesShot, cX9_becomesShot, 2, none, { frames := 2, cells := 0, slots := 0, locals := 45 })
def m_X9_findShots : jm_M := (yX9_findShots, cX9_findShots, 4, none, { frames := 4, cells := 0, slots := 0, locals := 91 })
def m_X9_find : jm_M := (yX9_find, cX9_find, 1, none, { frames := 5, cells := 0, slots := 0, locals := 114 })
def m_X9_ringOf : jm_M := (yX9_ringOf, cX9_ringOf, 3, (some .int), { frames := 2, cells := 0, slots := 0, locals := 44 })
def m_X9_sumOfRings : jm_M := (yX9_sumOfRings, cX9_sumOfRings, 3, (some .int), { frames := 3, cells := 0, slots := 0, locals := 66 })
def m_X9_sumOfSpreads : jm_M := (yX9_sumOfSpreads, cX9_sumOfSpreads, 3, (some .int), { frames := 0, cells := 0, slots := 0, locals := 0 })
def m_X9_isValue : jm_M := (yX9_isValue, cX9_isValue, 2, (some .boolean), { frames := 1, cells := 0, slots := 0, locals := 22 })
def m_X9_set : jm_M := (yX9_set, cX9_set, 4, (some .int), { frames := 2, cells := 0, slots := 0, locals := 45 })
def m_X9_whyNotHeard : jm_M := (yX9_whyNotHeard, cX9_whyNotHeard, 3, (some .int), { frames := 2, cells := 0, slots := 0, locals := 45 })
def m_X9_hear : jm_M := (yX9_hear, cX9_hear, 4, (some .int), { frames := 3, cells := 0, slots := 0, locals := 67 })
def m_X9_fire : jm_M := (yX9_fire, cX9_fire, 7, (some .int), { frames := 3, cells := 0, slots := 0, locals := 68 })
def m_X9_forget : jm_M := (yX9_forget, cX9_forget, 3, (some .int), { frames := 2, cells := 0, slots := 0, locals := 45 })
def m_X9_clear : jm_M := (yX9_clear, cX9_clear, 2, (some .int), { frames := 2, cells := 0, slots := 0, locals := 45 })
def m_X9_takes : jm_M := (yX9_takes, cX9_takes, 4, (some .int), { frames := 3, cells := 0, slots := 0, locals := 68 })
def m_X9_pulse : jm_M := (yX9_pulse, cX9_pulse, 3, (some .int), { frames := 6, cells := 0, slots := 0, locals := 134 })
def m_X9_isShot : jm_M := (yX9_isShot, cX9_isShot, 2, (some .boolean), { frames := 6, cells := 0, slots := 0, locals := 134 })
def m_X9_shot : jm_M := (yX9_shot, cX9_shot, 3, (some .int), { frames := 7, cells := 0, slots := 0, locals := 155 })
def m_X9_bestShot : jm_M := (yX9_bestShot, cX9_bestShot, 3, (some .int), { frames := 3, cells := 0, slots := 0, locals := 66 })
def m_X9_widest : jm_M := (yX9_widest, cX9_widest, 5, (some .int), { frames := 2, cells := 0, slots := 0, locals := 44 })
def m_X9_count : jm_M := (yX9_count, cX9_count, 2, (some .int), { frames := 6, cells := 0, slots := 0, locals := 134 })
def m_X9_fits : jm_M := (yX9_fits, cX9_fits, 5, (some .int), { frames := 7, cells := 0, slots := 0, locals := 155 })
def m_X9_mean : jm_M := (yX9_mean, cX9_mean, 4, (some .int), { frames := 6, cells := 0, slots := 0, locals := 134 })
def m_X9_ifHeat : jm_M := (yX9_ifHeat, cX9_ifHeat, 3, (some .int), { frames := 5, cells := 0, slots := 0, locals := 114 })
def m_X9_bestHeat : jm_M := (yX9_bestHeat, cX9_bestHeat, 6, (some .int), { frames := 5, cells := 0, slots := 0, locals := 114 })
def m_X9_ifForgot : jm_M := (yX9_ifForgot, cX9_ifForgot, 2, (some .int), { frames := 6, cells := 0, slots := 0, locals := 134 })
def m_X9_put : jm_M := (yX9_put, cX9_put, 8, (some .int), { frames := 1, cells := 0, slots := 0, locals := 22 })
def m_X9_wipe : jm_M := (yX9_wipe, cX9_wipe, 2, (some .int), { frames := 0, cells := 0, slots := 0, locals := 0 })
def m_X9_character : jm_M := (yX9_character, cX9_character, 2, (some .int), { frames := 0, cells := 0, slots := 0, locals := 0 })
def m_X9_isNext : jm_M := (yX9_isNext, cX9_isNext, 3, (some .boolean), { frames := 1, cells := 0, slots := 0, locals := 21 })
def m_X9_takeDigit : jm_M := (yX9_takeDigit, cX9_takeDigit, 3, (some .int), { frames := 1, cells := 0, slots := 0, locals := 22 })
def m_X9_takeNumber : jm_M := (yX9_takeNumber, cX9_takeNumber, 2, (some .int), { frames := 2, cells := 0, slots := 0, locals := 44 })
def m_X9_readsPulse : jm_M := (yX9_readsPulse, cX9_readsPulse, 1, (some .boolean), { frames := 3, cells := 0, slots := 0, locals := 65 })
def m_X9_findFault : jm_M := (yX9_findFault, cX9_findFault, 1, (some .int), { frames := 4, cells := 0, slots := 0, locals := 85 })
def m_X9_fault : jm_M := (yX9_fault, cX9_fault, 1, (some .int), { frames := 5, cells := 0, slots := 0, locals := 105 })
def m_X9_hearAll : jm_M := (yX9_hearAll, cX9_hearAll, 3, (some .int), { frames := 5, cells := 0, slots := 0, locals := 105 })
def m_X9_undo : jm_M := (yX9_undo, cX9_undo, 1, (some .int), { frames := 1, cells := 0, slots := 0, locals := 24 })
def m_X9_save : jm_M := (yX9_save, cX9_save, 2, (some .int), { frames := 1, cells := 0, slots := 0, locals := 24 })
def m_X9_restore : jm_M := (yX9_restore, cX9_restore, 2, (some .int), { frames := 2, cells := 0, slots := 0, locals := 45 })
def m_J9_floorDiv_7cf53 : jm_M := (yJ9_floorDiv_7cf53, cJ9_floorDiv_7cf53, 3, (some .int), { frames := 0, cells := 0, slots := 0, locals := 0 })
def m_L_law : jm_M := (yL_law, cL_law, 4, some .boolean, room_1)
theorem jc_RX8_3 : jm_LO RX8 3 := ⟨tw_60, tw_61, tw_62⟩
theorem jc_RX8_11 : jm_LNI RX8 11 m_X3_init 0 := ⟨⟨RX8, jm_nb 65 (by decide +kernel) rfl⟩, ⟨tw_66, tw_44, tw_67, rfl, rfl⟩, ⟨by decide +kernel, by decide +kernel, by decide +kernel⟩⟩
theorem jc_RX8_18 : jm_LI RX8 18 m_X4_init 0 := ⟨⟨tw_86, tw_87, tw_45, tw_88, rfl, rfl⟩, ⟨by decide +kernel, by decide +kernel, by decide +kernel⟩⟩
theorem jc_RX8_33 : jm_LNI RX8 33 m_X5_init 0 := ⟨⟨RX8, jm_nb 106 (by decide +kernel) rfl⟩, ⟨tw_107, tw_46, tw_108, rfl, rfl⟩, ⟨by decide +kernel, by decide +kernel, by decide +kernel⟩⟩
theorem jc_RX8_40 : jm_LI RX8 40 m_X2_init 0 := ⟨⟨tw_136, tw_137, tw_47, tw_138, rfl, rfl⟩, ⟨by decide +kernel, by decide +kernel, by decide +kernel⟩⟩
theorem jc_RX8_47 : jm_LNI RX8 47 m_X0_init 0 := ⟨⟨RX8, jm_nb 155 (by decide +kernel) rfl⟩, ⟨tw_156, tw_48, tw_157, rfl, rfl⟩, ⟨by decide +kernel, by decide +kernel, by decide +kernel⟩⟩
theorem jc_RX8_54 : jm_LI RX8 54 m_X7_init 0 := ⟨⟨tw_198, tw_199, tw_50, tw_200, rfl, rfl⟩, ⟨by decide +kernel, by decide +kernel, by decide +kernel⟩⟩
theorem jc_RX8_76 : jm_LV RX8 76 m_X8_beginChange 0 := ⟨⟨tw_288, tw_290, tw_0, tw_43, tw_291⟩, ⟨by decide +kernel, by decide +kernel, by decide +kernel⟩⟩
theorem jc_RX8_79 : jm_LS RX8 79 m_X8_isEar 1 := ⟨⟨tw_307, tw_308, tw_43, tw_309⟩, ⟨by decide +kernel, by decide +kernel, by decide +kernel⟩⟩
theorem jc_RX8_84 : jm_LS RX8 84 m_X8_markOf 2 := ⟨⟨tw_311, tw_312, tw_43, tw_313⟩, ⟨by decide +kernel, by decide +kernel, by decide +kernel⟩⟩
theorem jc_RX8_88 : jm_LV RX8 88 m_X3_refusalOf 1 := ⟨⟨tw_314, tw_315, tw_316, tw_44, tw_317⟩, ⟨by decide +kernel, by decide +kernel, by decide +kernel⟩⟩
theorem jc_RX8_92 : jm_LV RX8 92 m_X3_add 1 := ⟨⟨tw_326, tw_327, tw_328, tw_44, tw_329⟩, ⟨by decide +kernel, by decide +kernel, by decide +kernel⟩⟩
theorem jc_RX8_95 : jm_LS RX8 95 m_X8_isPoint 2 := ⟨⟨tw_334, tw_335, tw_43, tw_336⟩, ⟨by decide +kernel, by decide +kernel, by decide +kernel⟩⟩
theorem jc_RX8_100 : jm_LV RX8 100 m_X2_tune 1 := ⟨⟨tw_338, tw_339, tw_340, tw_47, tw_341⟩, ⟨by decide +kernel, by decide +kernel, by decide +kernel⟩⟩
theorem jc_RX8_104 : jm_LV RX8 104 m_X2_crackTime 3 := ⟨⟨tw_348, tw_349, tw_350, tw_47, tw_351⟩, ⟨by decide +kernel, by decide +kernel, by decide +kernel⟩⟩
theorem jc_RX8_108 : jm_LV RX8 108 m_X3_has 1 := ⟨⟨tw_352, tw_319, tw_320, tw_44, tw_321⟩, ⟨by decide +kernel, by decide +kernel, by decide +kernel⟩⟩
theorem jc_RX8_115 : jm_LV RX8 115 m_X5_read 0 := ⟨⟨tw_357, tw_358, tw_359, tw_46, tw_360⟩, ⟨by decide +kernel, by decide +kernel, by decide +kernel⟩⟩
theorem jc_RX8_128 : jm_LV RX8 128 m_X3_isPulse 1 := ⟨⟨tw_376, tw_377, tw_378, tw_44, tw_379⟩, ⟨by decide +kernel, by decide +kernel, by decide +kernel⟩⟩
theorem jc_RX8_131 : jm_LV RX8 131 m_X3_timeOf 1 := ⟨⟨tw_380, tw_381, tw_382, tw_44, tw_383⟩, ⟨by decide +kernel, by decide +kernel, by decide +kernel⟩⟩
theorem jc_RX8_134 : jm_LV RX8 134 m_X3_remove 1 := ⟨⟨tw_384, tw_385, tw_386, tw_44, tw_387⟩, ⟨by decide +kernel, by decide +kernel, by decide +kernel⟩⟩
theorem jc_RX8_137 : jm_LV RX8 137 m_X3_earOf 1 := ⟨⟨tw_401, tw_402, tw_403, tw_44, tw_404⟩, ⟨by decide +kernel, by decide +kernel, by decide +kernel⟩⟩
theorem jc_RX8_140 : jm_LV RX8 140 m_X8_current 0 := ⟨⟨tw_405, tw_407, tw_4, tw_43, tw_408⟩, ⟨by decide +kernel, by decide +kernel, by decide +kernel⟩⟩
theorem jc_RX8_147 : jm_LV RX8 147 m_X7_isShot 1 := ⟨⟨tw_480, tw_481, tw_482, tw_50, tw_483⟩, ⟨by decide +kernel, by decide +kernel, by decide +kernel⟩⟩
theorem jc_RX8_154 : jm_LV RX8 154 m_X6_tell 1 := ⟨⟨tw_484, tw_485, tw_486, tw_51, tw_487⟩, ⟨by decide +kernel, by decide +kernel, by decide +kernel⟩⟩
theorem jc_RX8_160 : jm_LV RX8 160 m_X7_sumOfRings 0 := ⟨⟨tw_492, tw_493, tw_494, tw_50, tw_495⟩, ⟨by decide +kernel, by decide +kernel, by decide +kernel⟩⟩
theorem jc_RX8_163 : jm_LV RX8 163 m_X7_withGreatestRing 0 := ⟨⟨tw_496, tw_497, tw_498, tw_50, tw_499⟩, ⟨by decide +kernel, by decide +kernel, by decide +kernel⟩⟩
theorem jc_RX8_166 : jm_LV RX8 166 m_X7_sumOfSpreads 0 := ⟨⟨tw_500, tw_501, tw_502, tw_50, tw_503⟩, ⟨by decide +kernel, by decide +kernel, by decide +kernel⟩⟩
theorem jc_RX8_169 : jm_LV RX8 169 m_X7_widest 1 := ⟨⟨tw_504, tw_505, tw_506, tw_50, tw_507⟩, ⟨by decide +kernel, by decide +kernel, by decide +kernel⟩⟩
theorem jc_RX8_173 : jm_LS RX8 173 m_X2_speedAt 1 := ⟨⟨tw_510, tw_343, tw_47, tw_344⟩, ⟨by decide +kernel, by decide +kernel, by decide +kernel⟩⟩
theorem jc_RX8_177 : jm_LV RX8 177 m_X0_spreadOf 5 := ⟨⟨tw_515, tw_516, tw_517, tw_48, tw_518⟩, ⟨by decide +kernel, by decide +kernel, by decide +kernel⟩⟩
theorem jc_RX8_181 : jm_LV RX8 181 m_X7_sumOfX 0 := ⟨⟨tw_524, tw_525, tw_526, tw_50, tw_527⟩, ⟨by decide +kernel, by decide +kernel, by decide +kernel⟩⟩
theorem jc_RX8_184 : jm_LV RX8 184 m_X7_sumOfY 0 := ⟨⟨tw_528, tw_529, tw_530, tw_50, tw_531⟩, ⟨by decide +kernel, by decide +kernel, by decide +kernel⟩⟩
theorem jc_RX8_187 : jm_LV RX8 187 m_X8_tryOut 2 := ⟨⟨tw_536, tw_538, tw_8, tw_43, tw_539⟩, ⟨by decide +kernel, by decide +kernel, by decide +kernel⟩⟩
theorem jc_RX8_197 : jm_LV RX8 197 m_X5_append 1 := ⟨⟨tw_555, tw_556, tw_557, tw_46, tw_558⟩, ⟨by decide +kernel, by decide +kernel, by decide +kernel⟩⟩
theorem jc_RX8_201 : jm_LV RX8 201 m_X4_takeBack 1 := ⟨⟨tw_571, tw_572, tw_573, tw_45, tw_574⟩, ⟨by decide +kernel, by decide +kernel, by decide +kernel⟩⟩
theorem jc_RX8_205 : jm_LV RX8 205 m_X3_become 1 := ⟨⟨tw_579, tw_297, tw_298, tw_44, tw_299⟩, ⟨by decide +kernel, by decide +kernel, by decide +kernel⟩⟩
theorem jc_RX8_208 : jm_LV RX8 208 m_X4_record 1 := ⟨⟨tw_292, tw_293, tw_294, tw_45, tw_295⟩, ⟨by decide +kernel, by decide +kernel, by decide +kernel⟩⟩
theorem jc_RX8_211 : jm_LV RX8 211 m_X0_find 4 := ⟨⟨tw_409, tw_410, tw_411, tw_48, tw_412⟩, ⟨by decide +kernel, by decide +kernel, by decide +kernel⟩⟩
theorem jc_RX0_3 : jm_LO RX0 3 := ⟨tw_158, tw_61, tw_62⟩
theorem jc_RX0_11 : jm_LNI RX0 11 m_X1_init 0 := ⟨⟨RX8, jm_nb 161 (by decide +kernel) rfl⟩, ⟨tw_162, tw_49, tw_163, rfl, rfl⟩, ⟨by decide +kernel, by decide +kernel, by decide +kernel⟩⟩
theorem jc_RX0_28 : jm_LV RX0 28 m_X7_reset 0 := ⟨⟨tw_413, tw_414, tw_415, tw_50, tw_416⟩, ⟨by decide +kernel, by decide +kernel, by decide +kernel⟩⟩
theorem jc_RX0_33 : jm_LV RX0 33 m_X3_isPulse 1 := ⟨⟨tw_417, tw_377, tw_378, tw_44, tw_379⟩, ⟨by decide +kernel, by decide +kernel, by decide +kernel⟩⟩
theorem jc_RX0_47 : jm_LV RX0 47 m_X0_judge 4 := ⟨⟨tw_418, tw_420, tw_5, tw_48, tw_421⟩, ⟨by decide +kernel, by decide +kernel, by decide +kernel⟩⟩
theorem jc_RX0_59 : jm_LV RX0 59 m_X3_timeOf 1 := ⟨⟨tw_427, tw_381, tw_382, tw_44, tw_383⟩, ⟨by decide +kernel, by decide +kernel, by decide +kernel⟩⟩
theorem jc_RX0_63 : jm_LV RX0 63 m_X1_spreadAt 3 := ⟨⟨tw_519, tw_441, tw_442, tw_49, tw_443⟩, ⟨by decide +kernel, by decide +kernel, by decide +kernel⟩⟩
theorem jc_RX0_67 : jm_LV RX0 67 m_X0_gather 3 := ⟨⟨tw_422, tw_424, tw_6, tw_48, tw_425⟩, ⟨by decide +kernel, by decide +kernel, by decide +kernel⟩⟩
theorem jc_RX0_74 : jm_LV RX0 74 m_X0_choose 2 := ⟨⟨tw_428, tw_430, tw_7, tw_48, tw_431⟩, ⟨by decide +kernel, by decide +kernel, by decide +kernel⟩⟩
theorem jc_RX0_78 : jm_LV RX0 78 m_X1_search 2 := ⟨⟨tw_432, tw_433, tw_434, tw_49, tw_435⟩, ⟨by decide +kernel, by decide +kernel, by decide +kernel⟩⟩
theorem jc_RX0_82 : jm_LV RX0 82 m_X7_draft 3 := ⟨⟨tw_451, tw_452, tw_453, tw_50, tw_454⟩, ⟨by decide +kernel, by decide +kernel, by decide +kernel⟩⟩
theorem jc_RX0_89 : jm_LV RX0 89 m_X7_accept 0 := ⟨⟨tw_472, tw_473, tw_474, tw_50, tw_475⟩, ⟨by decide +kernel, by decide +kernel, by decide +kernel⟩⟩
theorem jc_RX0_92 : jm_LV RX0 92 m_X3_earOf 1 := ⟨⟨tw_426, tw_402, tw_403, tw_44, tw_404⟩, ⟨by decide +kernel, by decide +kernel, by decide +kernel⟩⟩
theorem jc_RX1_3 : jm_LO RX1 3 := ⟨tw_164, tw_61, tw_62⟩
theorem jc_RX1_22 : jm_LV RX1 22 m_X2_lag 2 := ⟨⟨tw_436, tw_437, tw_438, tw_47, tw_439⟩, ⟨by decide +kernel, by decide +kernel, by decide +kernel⟩⟩
theorem jc_RX1_28 : jm_LV RX1 28 m_X1_spreadAt 3 := ⟨⟨tw_440, tw_441, tw_442, tw_49, tw_443⟩, ⟨by decide +kernel, by decide +kernel, by decide +kernel⟩⟩
theorem jc_RX1_35 : jm_LV RX1 35 m_X2_crackTime 3 := ⟨⟨tw_444, tw_349, tw_350, tw_47, tw_351⟩, ⟨by decide +kernel, by decide +kernel, by decide +kernel⟩⟩
theorem jc_RX1_39 : jm_LM RX1 39 Lib.Math.min.name Lib.Math.min.code 2 := ⟨tw_445, tw_446, tw_54, tw_447⟩
theorem jc_RX1_44 : jm_LM RX1 44 Lib.Math.max.name Lib.Math.max.code 2 := ⟨tw_448, tw_449, tw_54, tw_450⟩
theorem jc_RX2_3 : jm_LO RX2 3 := ⟨tw_139, tw_61, tw_62⟩
theorem jc_RX2_18 : jm_LS RX2 18 m_X2_rootOf 1 := ⟨⟨tw_140, tw_141, tw_47, tw_142⟩, ⟨by decide +kernel, by decide +kernel, by decide +kernel⟩⟩
theorem jc_RX2_22 : jm_LS RX2 22 m_J9_floorDiv_7cf53 2 := ⟨⟨tw_345, tw_346, tw_54, tw_347⟩, ⟨by decide +kernel, by decide +kernel, by decide +kernel⟩⟩
theorem jc_RX2_28 : jm_LS RX2 28 m_X2_speedAt 1 := ⟨⟨tw_342, tw_343, tw_47, tw_344⟩, ⟨by decide +kernel, by decide +kernel, by decide +kernel⟩⟩
theorem jc_RX2_35 : jm_LM RX2 35 Lib.Math.abs.name Lib.Math.abs.code 1 := ⟨tw_468, tw_469, tw_54, tw_470⟩
theorem jc_RX3_3 : jm_LO RX3 3 := ⟨tw_68, tw_61, tw_62⟩
theorem jc_RX3_22 : jm_LV RX3 22 m_X3_placeOf 1 := ⟨⟨tw_322, tw_324, tw_1, tw_44, tw_325⟩, ⟨by decide +kernel, by decide +kernel, by decide +kernel⟩⟩
theorem jc_RX3_26 : jm_LV RX3 26 m_X3_has 1 := ⟨⟨tw_318, tw_319, tw_320, tw_44, tw_321⟩, ⟨by decide +kernel, by decide +kernel, by decide +kernel⟩⟩
theorem jc_RX3_30 : jm_LC RX3 30 := ⟨tw_300, tw_302, tw_301, tw_53⟩
theorem jc_RX3_36 : jm_LV RX3 36 m_X3_isPulse 1 := ⟨⟨tw_388, tw_377, tw_378, tw_44, tw_379⟩, ⟨by decide +kernel, by decide +kernel, by decide +kernel⟩⟩
theorem jc_RX4_1 : jm_LO RX4 1 := ⟨tw_89, tw_61, tw_62⟩
theorem jc_RX4_15 : jm_LNI RX4 15 m_X3_init 0 := ⟨⟨RX8, jm_nb 92 (by decide +kernel) rfl⟩, ⟨tw_66, tw_44, tw_67, rfl, rfl⟩, ⟨by decide +kernel, by decide +kernel, by decide +kernel⟩⟩
theorem jc_RX4_23 : jm_LV RX4 23 m_X3_become 1 := ⟨⟨tw_296, tw_297, tw_298, tw_44, tw_299⟩, ⟨by decide +kernel, by decide +kernel, by decide +kernel⟩⟩
theorem jc_RX5_3 : jm_LO RX5 3 := ⟨tw_109, tw_61, tw_62⟩
theorem jc_RX5_26 : jm_LV RX5 26 m_X5_step 2 := ⟨⟨tw_361, tw_363, tw_2, tw_46, tw_364⟩, ⟨by decide +kernel, by decide +kernel, by decide +kernel⟩⟩
theorem jc_RX5_30 : jm_LV RX5 30 m_X5_note 0 := ⟨⟨tw_366, tw_368, tw_3, tw_46, tw_369⟩, ⟨by decide +kernel, by decide +kernel, by decide +kernel⟩⟩
theorem jc_RX5_36 : jm_LNS RX5 36 m_X8_isEar 1 := ⟨⟨RX8, jm_nb 365 (by decide +kernel) rfl⟩, ⟨tw_308, tw_43, tw_309⟩, ⟨by decide +kernel, by decide +kernel, by decide +kernel⟩⟩
theorem jc_RX5_44 : jm_LNS RX5 44 m_X8_markOf 2 := ⟨⟨RX8, jm_nb 370 (by decide +kernel) rfl⟩, ⟨tw_312, tw_43, tw_313⟩, ⟨by decide +kernel, by decide +kernel, by decide +kernel⟩⟩
theorem jc_RX6_3 : jm_LO RX6 3 := ⟨tw_208, tw_61, tw_62⟩
theorem jc_RX6_15 : jm_LC RX6 15 := ⟨tw_459, tw_302, tw_301, tw_53⟩
theorem jc_RX6_36 : jm_LV RX6 36 m_X1_leastStart 1 := ⟨⟨tw_460, tw_461, tw_462, tw_49, tw_463⟩, ⟨by decide +kernel, by decide +kernel, by decide +kernel⟩⟩
theorem jc_RX6_43 : jm_LV RX6 43 m_X2_distance 4 := ⟨⟨tw_464, tw_465, tw_466, tw_47, tw_467⟩, ⟨by decide +kernel, by decide +kernel, by decide +kernel⟩⟩
theorem jc_RX6_49 : jm_LM RX6 49 Lib.Math.max.name Lib.Math.max.code 2 := ⟨tw_471, tw_449, tw_54, tw_450⟩
theorem jc_RX7_3 : jm_LO RX7 3 := ⟨tw_201, tw_61, tw_62⟩
theorem jc_RX7_21 : jm_LNI RX7 21 m_X6_init 0 := ⟨⟨RX8, jm_nb 205 (by decide +kernel) rfl⟩, ⟨tw_206, tw_51, tw_207, rfl, rfl⟩, ⟨by decide +kernel, by decide +kernel, by decide +kernel⟩⟩
theorem jc_RX7_26 : jm_LV RX7 26 m_X6_become 3 := ⟨⟨tw_455, tw_456, tw_457, tw_51, tw_458⟩, ⟨by decide +kernel, by decide +kernel, by decide +kernel⟩⟩
theorem jc_RX7_45 : jm_LV RX7 45 m_X2_distance 4 := ⟨⟨tw_508, tw_465, tw_466, tw_47, tw_467⟩, ⟨by decide +kernel, by decide +kernel, by decide +kernel⟩⟩
theorem jc_RX7_51 : jm_LM RX7 51 Lib.Math.max.name Lib.Math.max.code 2 := ⟨tw_509, tw_449, tw_54, tw_450⟩
theorem jc_RL_9 : jm_LI RL 9 m_X8_init 0 := ⟨⟨tw_57, tw_58, tw_43, tw_59, rfl, rfl⟩, ⟨by decide +kernel, by decide +kernel, by decide +kernel⟩⟩
theorem jc_RL_12 : jm_LI RL 12 m_X9_init 0 := ⟨⟨tw_586, tw_587, tw_52, tw_588, rfl, rfl⟩, ⟨by decide +kernel, by decide +kernel, by decide +kernel⟩⟩
theorem jc_RL_13 : jm_LV RL 13 m_X8_set 2 := ⟨⟨tw_280, tw_281, tw_282, tw_43, tw_283⟩, ⟨by decide +kernel, by decide +kernel, by decide +kernel⟩⟩
theorem jc_RL_17 : jm_LV RL 17 m_X9_set 2 := ⟨⟨tw_675, tw_676, tw_677, tw_52, tw_678⟩, ⟨by decide +kernel, by decide +kernel, by decide +kernel⟩⟩
theorem jc_RL_18 : jm_LV RL 18 m_X8_hear 2 := ⟨⟨tw_303, tw_304, tw_305, tw_43, tw_306⟩, ⟨by decide +kernel, by decide +kernel, by decide +kernel⟩⟩
theorem jc_RL_21 : jm_LV RL 21 m_X9_hear 2 := ⟨⟨tw_692, tw_693, tw_694, tw_52, tw_695⟩, ⟨by decide +kernel, by decide +kernel, by decide +kernel⟩⟩
theorem jc_RL_22 : jm_LV RL 22 m_X8_fire 3 := ⟨⟨tw_330, tw_331, tw_332, tw_43, tw_333⟩, ⟨by decide +kernel, by decide +kernel, by decide +kernel⟩⟩
theorem jc_RL_26 : jm_LV RL 26 m_X9_fire 3 := ⟨⟨tw_720, tw_721, tw_722, tw_52, tw_723⟩, ⟨by decide +kernel, by decide +kernel, by decide +kernel⟩⟩
theorem jc_RL_27 : jm_LV RL 27 m_X8_hearAll 0 := ⟨⟨tw_353, tw_354, tw_355, tw_43, tw_356⟩, ⟨by decide +kernel, by decide +kernel, by decide +kernel⟩⟩
theorem jc_RL_31 : jm_LV RL 31 m_X9_hearAll 0 := ⟨⟨tw_900, tw_901, tw_902, tw_52, tw_903⟩, ⟨by decide +kernel, by decide +kernel, by decide +kernel⟩⟩
theorem jc_RL_32 : jm_LV RL 32 m_X8_forget 1 := ⟨⟨tw_372, tw_373, tw_374, tw_43, tw_375⟩, ⟨by decide +kernel, by decide +kernel, by decide +kernel⟩⟩
theorem jc_RL_36 : jm_LV RL 36 m_X9_forget 1 := ⟨⟨tw_742, tw_743, tw_744, tw_52, tw_745⟩, ⟨by decide +kernel, by decide +kernel, by decide +kernel⟩⟩
theorem jc_RL_37 : jm_LV RL 37 m_X8_clear 0 := ⟨⟨tw_389, tw_390, tw_391, tw_43, tw_392⟩, ⟨by decide +kernel, by decide +kernel, by decide +kernel⟩⟩
theorem jc_RL_40 : jm_LV RL 40 m_X9_clear 0 := ⟨⟨tw_754, tw_755, tw_756, tw_52, tw_757⟩, ⟨by decide +kernel, by decide +kernel, by decide +kernel⟩⟩
theorem jc_RL_41 : jm_LV RL 41 m_X8_takes 3 := ⟨⟨tw_393, tw_394, tw_395, tw_43, tw_396⟩, ⟨by decide +kernel, by decide +kernel, by decide +kernel⟩⟩
theorem jc_RL_44 : jm_LV RL 44 m_X9_takes 3 := ⟨⟨tw_758, tw_759, tw_760, tw_52, tw_761⟩, ⟨by decide +kernel, by decide +kernel, by decide +kernel⟩⟩
theorem jc_RL_45 : jm_LV RL 45 m_X8_pulse 2 := ⟨⟨tw_397, tw_398, tw_399, tw_43, tw_400⟩, ⟨by decide +kernel, by decide +kernel, by decide +kernel⟩⟩
theorem jc_RL_48 : jm_LV RL 48 m_X9_pulse 2 := ⟨⟨tw_762, tw_763, tw_764, tw_52, tw_765⟩, ⟨by decide +kernel, by decide +kernel, by decide +kernel⟩⟩
theorem jc_RL_49 : jm_LV RL 49 m_X8_shot 2 := ⟨⟨tw_476, tw_477, tw_478, tw_43, tw_479⟩, ⟨by decide +kernel, by decide +kernel, by decide +kernel⟩⟩
theorem jc_RL_52 : jm_LV RL 52 m_X9_shot 2 := ⟨⟨tw_811, tw_812, tw_813, tw_52, tw_814⟩, ⟨by decide +kernel, by decide +kernel, by decide +kernel⟩⟩
theorem jc_RL_53 : jm_LV RL 53 m_X8_count 1 := ⟨⟨tw_488, tw_489, tw_490, tw_43, tw_491⟩, ⟨by decide +kernel, by decide +kernel, by decide +kernel⟩⟩
theorem jc_RL_56 : jm_LV RL 56 m_X9_count 1 := ⟨⟨tw_823, tw_824, tw_825, tw_52, tw_826⟩, ⟨by decide +kernel, by decide +kernel, by decide +kernel⟩⟩
theorem jc_RL_57 : jm_LV RL 57 m_X8_fits 3 := ⟨⟨tw_511, tw_512, tw_513, tw_43, tw_514⟩, ⟨by decide +kernel, by decide +kernel, by decide +kernel⟩⟩
theorem jc_RL_60 : jm_LV RL 60 m_X9_fits 3 := ⟨⟨tw_843, tw_844, tw_845, tw_52, tw_846⟩, ⟨by decide +kernel, by decide +kernel, by decide +kernel⟩⟩
theorem jc_RL_61 : jm_LV RL 61 m_X8_mean 1 := ⟨⟨tw_520, tw_521, tw_522, tw_43, tw_523⟩, ⟨by decide +kernel, by decide +kernel, by decide +kernel⟩⟩
theorem jc_RL_64 : jm_LV RL 64 m_X9_mean 1 := ⟨⟨tw_847, tw_848, tw_849, tw_52, tw_850⟩, ⟨by decide +kernel, by decide +kernel, by decide +kernel⟩⟩
theorem jc_RL_65 : jm_LV RL 65 m_X8_ifHeat 2 := ⟨⟨tw_532, tw_533, tw_534, tw_43, tw_535⟩, ⟨by decide +kernel, by decide +kernel, by decide +kernel⟩⟩
theorem jc_RL_68 : jm_LV RL 68 m_X9_ifHeat 2 := ⟨⟨tw_851, tw_852, tw_853, tw_52, tw_854⟩, ⟨by decide +kernel, by decide +kernel, by decide +kernel⟩⟩
theorem jc_RL_69 : jm_LV RL 69 m_X8_bestHeat 0 := ⟨⟨tw_540, tw_541, tw_542, tw_43, tw_543⟩, ⟨by decide +kernel, by decide +kernel, by decide +kernel⟩⟩
theorem jc_RL_72 : jm_LV RL 72 m_X9_bestHeat 0 := ⟨⟨tw_855, tw_856, tw_857, tw_52, tw_858⟩, ⟨by decide +kernel, by decide +kernel, by decide +kernel⟩⟩
theorem jc_RL_73 : jm_LV RL 73 m_X8_ifForgot 1 := ⟨⟨tw_544, tw_545, tw_546, tw_43, tw_547⟩, ⟨by decide +kernel, by decide +kernel, by decide +kernel⟩⟩
theorem jc_RL_76 : jm_LV RL 76 m_X9_ifForgot 1 := ⟨⟨tw_859, tw_860, tw_861, tw_52, tw_862⟩, ⟨by decide +kernel, by decide +kernel, by decide +kernel⟩⟩
theorem jc_RL_79 : jm_LV RL 79 m_X8_put 1 := ⟨⟨tw_548, tw_549, tw_550, tw_43, tw_551⟩, ⟨by decide +kernel, by decide +kernel, by decide +kernel⟩⟩
theorem jc_RL_83 : jm_LV RL 83 m_X9_put 1 := ⟨⟨tw_863, tw_864, tw_865, tw_52, tw_866⟩, ⟨by decide +kernel, by decide +kernel, by decide +kernel⟩⟩
theorem jc_RL_84 : jm_LV RL 84 m_X8_wipe 0 := ⟨⟨tw_559, tw_560, tw_561, tw_43, tw_562⟩, ⟨by decide +kernel, by decide +kernel, by decide +kernel⟩⟩
theorem jc_RL_87 : jm_LV RL 87 m_X9_wipe 0 := ⟨⟨tw_868, tw_869, tw_870, tw_52, tw_871⟩, ⟨by decide +kernel, by decide +kernel, by decide +kernel⟩⟩
theorem jc_RL_88 : jm_LV RL 88 m_X8_fault 0 := ⟨⟨tw_563, tw_564, tw_565, tw_43, tw_566⟩, ⟨by decide +kernel, by decide +kernel, by decide +kernel⟩⟩
theorem jc_RL_91 : jm_LV RL 91 m_X9_fault 0 := ⟨⟨tw_872, tw_873, tw_874, tw_52, tw_875⟩, ⟨by decide +kernel, by decide +kernel, by decide +kernel⟩⟩
theorem jc_RL_92 : jm_LV RL 92 m_X8_undo 0 := ⟨⟨tw_567, tw_568, tw_569, tw_43, tw_570⟩, ⟨by decide +kernel, by decide +kernel, by decide +kernel⟩⟩
theorem jc_RL_95 : jm_LV RL 95 m_X9_undo 0 := ⟨⟨tw_904, tw_905, tw_906, tw_52, tw_907⟩, ⟨by decide +kernel, by decide +kernel, by decide +kernel⟩⟩
theorem jc_RL_96 : jm_LV RL 96 m_X8_save 1 := ⟨⟨tw_575, tw_576, tw_577, tw_43, tw_578⟩, ⟨by decide +kernel, by decide +kernel, by decide +kernel⟩⟩
theorem jc_RL_99 : jm_LV RL 99 m_X9_save 1 := ⟨⟨tw_908, tw_909, tw_910, tw_52, tw_911⟩, ⟨by decide +kernel, by decide +kernel, by decide +kernel⟩⟩
theorem jc_RL_100 : jm_LV RL 100 m_X8_restore 1 := ⟨⟨tw_580, tw_581, tw_582, tw_43, tw_583⟩, ⟨by decide +kernel, by decide +kernel, by decide +kernel⟩⟩
theorem jc_RL_103 : jm_LV RL 103 m_X9_restore 1 := ⟨⟨tw_912, tw_913, tw_914, tw_52, tw_915⟩, ⟨by decide +kernel, by decide +kernel, by decide +kernel⟩⟩
theorem jc_RX9_1 : jm_LO RX9 1 := ⟨tw_589, tw_61, tw_62⟩
theorem jc_RX9_58 : jm_LS RX9 58 m_X9_root 1 := ⟨⟨tw_590, tw_591, tw_52, tw_592⟩, ⟨by decide +kernel, by decide +kernel, by decide +kernel⟩⟩
theorem jc_RX9_66 : jm_LS RX9 66 m_X9_moves 4 := ⟨⟨tw_689, tw_690, tw_52, tw_691⟩, ⟨by decide +kernel, by decide +kernel, by decide +kernel⟩⟩
theorem jc_RX9_70 : jm_LS RX9 70 m_X9_within 3 := ⟨⟨tw_682, tw_683, tw_52, tw_684⟩, ⟨by decide +kernel, by decide +kernel, by decide +kernel⟩⟩
theorem jc_RX9_74 : jm_LS RX9 74 m_X9_size 1 := ⟨⟨tw_739, tw_740, tw_52, tw_741⟩, ⟨by decide +kernel, by decide +kernel, by decide +kernel⟩⟩
theorem jc_RX9_77 : jm_LV RX9 77 m_X9_distance 4 := ⟨⟨tw_735, tw_737, tw_16, tw_52, tw_738⟩, ⟨by decide +kernel, by decide +kernel, by decide +kernel⟩⟩
theorem jc_RX9_84 : jm_LV RX9 84 m_X9_takesBy 4 := ⟨⟨tw_731, tw_733, tw_15, tw_52, tw_734⟩, ⟨by decide +kernel, by decide +kernel, by decide +kernel⟩⟩
theorem jc_RX9_87 : jm_LV RX9 87 m_X9_earOf 1 := ⟨⟨tw_708, tw_710, tw_12, tw_52, tw_711⟩, ⟨by decide +kernel, by decide +kernel, by decide +kernel⟩⟩
theorem jc_RX9_90 : jm_LV RX9 90 m_X9_timeOf 1 := ⟨⟨tw_712, tw_714, tw_13, tw_52, tw_715⟩, ⟨by decide +kernel, by decide +kernel, by decide +kernel⟩⟩
theorem jc_RX9_98 : jm_LV RX9 98 m_X9_spreadAt 1 := ⟨⟨tw_798, tw_800, tw_27, tw_52, tw_801⟩, ⟨by decide +kernel, by decide +kernel, by decide +kernel⟩⟩
theorem jc_RX9_107 : jm_LV RX9 107 m_X9_takeRow 1 := ⟨⟨tw_786, tw_788, tw_24, tw_52, tw_789⟩, ⟨by decide +kernel, by decide +kernel, by decide +kernel⟩⟩
theorem jc_RX9_111 : jm_LV RX9 111 m_X9_isRow 0 := ⟨⟨tw_790, tw_792, tw_25, tw_52, tw_793⟩, ⟨by decide +kernel, by decide +kernel, by decide +kernel⟩⟩
theorem jc_RX9_115 : jm_LV RX9 115 m_X9_findPlace 0 := ⟨⟨tw_794, tw_796, tw_26, tw_52, tw_797⟩, ⟨by decide +kernel, by decide +kernel, by decide +kernel⟩⟩
theorem jc_RX9_124 : jm_LV RX9 124 m_X9_momentAt 1 := ⟨⟨tw_807, tw_809, tw_29, tw_52, tw_810⟩, ⟨by decide +kernel, by decide +kernel, by decide +kernel⟩⟩
theorem jc_RX9_127 : jm_LS RX9 127 m_X9_speedBy 1 := ⟨⟨tw_728, tw_729, tw_52, tw_730⟩, ⟨by decide +kernel, by decide +kernel, by decide +kernel⟩⟩
theorem jc_RX9_130 : jm_LV RX9 130 m_X9_reckon 1 := ⟨⟨tw_774, tw_776, tw_21, tw_52, tw_777⟩, ⟨by decide +kernel, by decide +kernel, by decide +kernel⟩⟩
theorem jc_RX9_133 : jm_LV RX9 133 m_X9_findCandidates 1 := ⟨⟨tw_778, tw_780, tw_22, tw_52, tw_781⟩, ⟨by decide +kernel, by decide +kernel, by decide +kernel⟩⟩
theorem jc_RX9_137 : jm_LV RX9 137 m_X9_findBest 0 := ⟨⟨tw_782, tw_784, tw_23, tw_52, tw_785⟩, ⟨by decide +kernel, by decide +kernel, by decide +kernel⟩⟩
theorem jc_RX9_140 : jm_LV RX9 140 m_X9_becomesShot 0 := ⟨⟨tw_803, tw_805, tw_28, tw_52, tw_806⟩, ⟨by decide +kernel, by decide +kernel, by decide +kernel⟩⟩
theorem jc_RX9_143 : jm_LV RX9 143 m_X9_findShots 1 := ⟨⟨tw_770, tw_772, tw_20, tw_52, tw_773⟩, ⟨by decide +kernel, by decide +kernel, by decide +kernel⟩⟩
theorem jc_RX9_146 : jm_LV RX9 146 m_X9_ringOf 1 := ⟨⟨tw_819, tw_821, tw_31, tw_52, tw_822⟩, ⟨by decide +kernel, by decide +kernel, by decide +kernel⟩⟩
theorem jc_RX9_149 : jm_LS RX9 149 m_X9_isValue 2 := ⟨⟨tw_679, tw_680, tw_52, tw_681⟩, ⟨by decide +kernel, by decide +kernel, by decide +kernel⟩⟩
theorem jc_RX9_153 : jm_LV RX9 153 m_X9_record 0 := ⟨⟨tw_685, tw_687, tw_9, tw_52, tw_688⟩, ⟨by decide +kernel, by decide +kernel, by decide +kernel⟩⟩
theorem jc_RX9_156 : jm_LS RX9 156 m_X9_isEar 1 := ⟨⟨tw_700, tw_701, tw_52, tw_702⟩, ⟨by decide +kernel, by decide +kernel, by decide +kernel⟩⟩
theorem jc_RX9_159 : jm_LV RX9 159 m_X9_isThere 2 := ⟨⟨tw_704, tw_706, tw_11, tw_52, tw_707⟩, ⟨by decide +kernel, by decide +kernel, by decide +kernel⟩⟩
theorem jc_RX9_162 : jm_LV RX9 162 m_X9_whyNotHeard 2 := ⟨⟨tw_696, tw_698, tw_10, tw_52, tw_699⟩, ⟨by decide +kernel, by decide +kernel, by decide +kernel⟩⟩
theorem jc_RX9_166 : jm_LV RX9 166 m_X9_comes 2 := ⟨⟨tw_716, tw_718, tw_14, tw_52, tw_719⟩, ⟨by decide +kernel, by decide +kernel, by decide +kernel⟩⟩
theorem jc_RX9_169 : jm_LS RX9 169 m_X9_isPoint 2 := ⟨⟨tw_724, tw_725, tw_52, tw_726⟩, ⟨by decide +kernel, by decide +kernel, by decide +kernel⟩⟩
theorem jc_RX9_173 : jm_LV RX9 173 m_X9_isPulse 1 := ⟨⟨tw_746, tw_748, tw_17, tw_52, tw_749⟩, ⟨by decide +kernel, by decide +kernel, by decide +kernel⟩⟩
theorem jc_RX9_176 : jm_LV RX9 176 m_X9_goes 1 := ⟨⟨tw_750, tw_752, tw_18, tw_52, tw_753⟩, ⟨by decide +kernel, by decide +kernel, by decide +kernel⟩⟩
theorem jc_RX9_179 : jm_LV RX9 179 m_X9_find 0 := ⟨⟨tw_766, tw_768, tw_19, tw_52, tw_769⟩, ⟨by decide +kernel, by decide +kernel, by decide +kernel⟩⟩
theorem jc_RX9_182 : jm_LV RX9 182 m_X9_isShot 1 := ⟨⟨tw_815, tw_817, tw_30, tw_52, tw_818⟩, ⟨by decide +kernel, by decide +kernel, by decide +kernel⟩⟩
theorem jc_RX9_185 : jm_LV RX9 185 m_X9_sumOfRings 0 := ⟨⟨tw_827, tw_829, tw_32, tw_52, tw_830⟩, ⟨by decide +kernel, by decide +kernel, by decide +kernel⟩⟩
theorem jc_RX9_189 : jm_LV RX9 189 m_X9_bestShot 0 := ⟨⟨tw_831, tw_833, tw_33, tw_52, tw_834⟩, ⟨by decide +kernel, by decide +kernel, by decide +kernel⟩⟩
theorem jc_RX9_192 : jm_LV RX9 192 m_X9_sumOfSpreads 0 := ⟨⟨tw_835, tw_837, tw_34, tw_52, tw_838⟩, ⟨by decide +kernel, by decide +kernel, by decide +kernel⟩⟩
theorem jc_RX9_195 : jm_LV RX9 195 m_X9_widest 0 := ⟨⟨tw_839, tw_841, tw_35, tw_52, tw_842⟩, ⟨by decide +kernel, by decide +kernel, by decide +kernel⟩⟩
theorem jc_RX9_206 : jm_LV RX9 206 m_X9_character 1 := ⟨⟨tw_888, tw_890, tw_39, tw_52, tw_891⟩, ⟨by decide +kernel, by decide +kernel, by decide +kernel⟩⟩
theorem jc_RX9_209 : jm_LV RX9 209 m_X9_takeDigit 1 := ⟨⟨tw_884, tw_886, tw_38, tw_52, tw_887⟩, ⟨by decide +kernel, by decide +kernel, by decide +kernel⟩⟩
theorem jc_RX9_215 : jm_LV RX9 215 m_X9_isNext 1 := ⟨⟨tw_892, tw_894, tw_40, tw_52, tw_895⟩, ⟨by decide +kernel, by decide +kernel, by decide +kernel⟩⟩
theorem jc_RX9_218 : jm_LV RX9 218 m_X9_takeNumber 0 := ⟨⟨tw_896, tw_898, tw_41, tw_52, tw_899⟩, ⟨by decide +kernel, by decide +kernel, by decide +kernel⟩⟩
theorem jc_RX9_224 : jm_LV RX9 224 m_X9_readsPulse 0 := ⟨⟨tw_880, tw_882, tw_37, tw_52, tw_883⟩, ⟨by decide +kernel, by decide +kernel, by decide +kernel⟩⟩
theorem jc_RX9_227 : jm_LV RX9 227 m_X9_findFault 0 := ⟨⟨tw_876, tw_878, tw_36, tw_52, tw_879⟩, ⟨by decide +kernel, by decide +kernel, by decide +kernel⟩⟩
theorem jn_RL_7 : jm_LN RL 7 8 [some none, some none, some none, some none, some none, some none, some none, some none, some none, none] 10 := ⟨(RX8, TX8, 10), tyX8, jl_cls8, rfl, tw_55, tw_56, tw_43, fun ad j hj => by
  rw [jm_fs_eq (ad := fun x => x) (fun r hr => absurd hr (by simp))]
  exact (by decide +kernel : ∀ j, j < 10 → defaultValue (tyX8 j) = vp_V (jm_fs (fun x => x) [some none, some none, some none, some none, some none, some none, some none, some none, some none, none] (fun _ => 0)) j) j hj, by simp⟩
theorem jn_RX8_9 : jm_LN RX8 9 3 [some none, some none, none] 3 := ⟨(RX3, TX3, 3), tyX3, jl_cls3, rfl, tw_63, tw_64, tw_44, fun ad j hj => by
  rw [jm_fs_eq (ad := fun x => x) (fun r hr => absurd hr (by simp))]
  exact (by decide +kernel : ∀ j, j < 3 → defaultValue (tyX3 j) = vp_V (jm_fs (fun x => x) [some none, some none, none] (fun _ => 0)) j) j hj, by simp⟩
theorem jq_RX8_9 : Cond.classLink RX8 9 RX3 ∈ jm_TB := tw_63
theorem jn_RX8_16 : jm_LN RX8 16 4 [some none, none, none] 3 := ⟨(RX4, TX4, 3), tyX4, jl_cls4, rfl, tw_84, tw_85, tw_45, fun ad j hj => by
  rw [jm_fs_eq (ad := fun x => x) (fun r hr => absurd hr (by simp))]
  exact (by decide +kernel : ∀ j, j < 3 → defaultValue (tyX4 j) = vp_V (jm_fs (fun x => x) [some none, none, none] (fun _ => 0)) j) j hj, by simp⟩
theorem jn_RX4_9 : jm_LN RX4 9 3 [some none, some none, none] 3 := ⟨(RX3, TX3, 3), tyX3, jl_cls3, rfl, tw_90, tw_64, tw_44, fun ad j hj => by
  rw [jm_fs_eq (ad := fun x => x) (fun r hr => absurd hr (by simp))]
  exact (by decide +kernel : ∀ j, j < 3 → defaultValue (tyX3 j) = vp_V (jm_fs (fun x => x) [some none, some none, none] (fun _ => 0)) j) j hj, by simp⟩
theorem jq_RX4_9 : Cond.classLink RX4 9 RX3 ∈ jm_TB := tw_90
theorem jn_RX8_31 : jm_LN RX8 31 5 [some none, some none, none, none, none, none] 6 := ⟨(RX5, TX5, 6), tyX5, jl_cls5, rfl, tw_104, tw_105, tw_46, fun ad j hj => by
  rw [jm_fs_eq (ad := fun x => x) (fun r hr => absurd hr (by simp))]
  exact (by decide +kernel : ∀ j, j < 6 → defaultValue (tyX5 j) = vp_V (jm_fs (fun x => x) [some none, some none, none, none, none, none] (fun _ => 0)) j) j hj, by simp⟩
theorem jn_RX8_38 : jm_LN RX8 38 2 [some none, some none, none] 3 := ⟨(RX2, TX2, 3), tyX2, jl_cls2, rfl, tw_134, tw_135, tw_47, fun ad j hj => by
  rw [jm_fs_eq (ad := fun x => x) (fun r hr => absurd hr (by simp))]
  exact (by decide +kernel : ∀ j, j < 3 → defaultValue (tyX2 j) = vp_V (jm_fs (fun x => x) [some none, some none, none] (fun _ => 0)) j) j hj, by simp⟩
theorem jn_RX8_45 : jm_LN RX8 45 0 [some none, some none, some none, some none] 4 := ⟨(RX0, TX0, 4), tyX0, jl_cls0, rfl, tw_153, tw_154, tw_48, fun ad j hj => by
  rw [jm_fs_eq (ad := fun x => x) (fun r hr => absurd hr (by simp))]
  exact (by decide +kernel : ∀ j, j < 4 → defaultValue (tyX0 j) = vp_V (jm_fs (fun x => x) [some none, some none, some none, some none] (fun _ => 0)) j) j hj, by simp⟩
theorem jn_RX0_9 : jm_LN RX0 9 1 [some none, none, none, none] 4 := ⟨(RX1, TX1, 4), tyX1, jl_cls1, rfl, tw_159, tw_160, tw_49, fun ad j hj => by
  rw [jm_fs_eq (ad := fun x => x) (fun r hr => absurd hr (by simp))]
  exact (by decide +kernel : ∀ j, j < 4 → defaultValue (tyX1 j) = vp_V (jm_fs (fun x => x) [some none, none, none, none] (fun _ => 0)) j) j hj, by simp⟩
theorem jn_RX8_52 : jm_LN RX8 52 7 [some none, some none, none] 3 := ⟨(RX7, TX7, 3), tyX7, jl_cls7, rfl, tw_196, tw_197, tw_50, fun ad j hj => by
  rw [jm_fs_eq (ad := fun x => x) (fun r hr => absurd hr (by simp))]
  exact (by decide +kernel : ∀ j, j < 3 → defaultValue (tyX7 j) = vp_V (jm_fs (fun x => x) [some none, some none, none] (fun _ => 0)) j) j hj, by simp⟩
theorem jn_RX7_9 : jm_LN RX7 9 6 [some none, none, none, none, none, none] 6 := ⟨(RX6, TX6, 6), tyX6, jl_cls6, rfl, tw_202, tw_204, tw_51, fun ad j hj => by
  rw [jm_fs_eq (ad := fun x => x) (fun r hr => absurd hr (by simp))]
  exact (by decide +kernel : ∀ j, j < 6 → defaultValue (tyX6 j) = vp_V (jm_fs (fun x => x) [some none, none, none, none, none, none] (fun _ => 0)) j) j hj, by simp⟩
theorem jq_RX7_9 : Cond.classLink RX7 9 RX6 ∈ jm_TB := tw_202
theorem jn_RL_10 : jm_LN RL 10 9 [some none, some none, some none, none, some none, some none, some none, none, some none, some none, none, none, some none, some none, some none, some none, some none, some none, some none, some none, none, none, none, none, none, none, none] 27 := ⟨(RX9, TX9, 27), tyX9, jl_cls9, rfl, tw_584, tw_585, tw_52, fun ad j hj => by
  rw [jm_fs_eq (ad := fun x => x) (fun r hr => absurd hr (by simp))]
  exact (by decide +kernel : ∀ j, j < 27 → defaultValue (tyX9 j) = vp_V (jm_fs (fun x => x) [some none, some none, some none, none, some none, some none, some none, none, some none, some none, none, none, some none, some none, some none, some none, some none, some none, some none, some none, none, none, none, none, none, none, none] (fun _ => 0)) j) j hj, by simp⟩
end JMM
