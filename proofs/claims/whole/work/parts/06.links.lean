abbrev mX0_clear : zM := (yX0_clear, cX0_clear, 2, none, { frames := 0, cells := 0, slots := 0, locals := 0 })
abbrev mX0_noteUp : zM := (yX0_noteUp, cX0_noteUp, 3, none, { frames := 0, cells := 0, slots := 0, locals := 0 })
abbrev mX0_noteBother : zM := (yX0_noteBother, cX0_noteBother, 3, none, { frames := 0, cells := 0, slots := 0, locals := 0 })
abbrev mX0_noteOff : zM := (yX0_noteOff, cX0_noteOff, 3, none, { frames := 1, cells := 0, slots := 0, locals := 21 })
abbrev mX0_told : zM := (yX0_told, cX0_told, 2, (some .int), { frames := 2, cells := 0, slots := 0, locals := 42 })
abbrev mX0_toldOf : zM := (yX0_toldOf, cX0_toldOf, 3, (some .int), { frames := 0, cells := 0, slots := 0, locals := 0 })
abbrev mX0_allCost : zM := (yX0_allCost, cX0_allCost, 1, (some .int), { frames := 1, cells := 0, slots := 0, locals := 22 })
abbrev mX0_allUps : zM := (yX0_allUps, cX0_allUps, 1, (some .int), { frames := 1, cells := 0, slots := 0, locals := 22 })
abbrev mX0_sum : zM := (yX0_sum, cX0_sum, 3, (some .int), { frames := 0, cells := 0, slots := 0, locals := 0 })
abbrev mX1_become : zM := (yX1_become, cX1_become, 2, none, { frames := 0, cells := 0, slots := 0, locals := 0 })
abbrev mX1_amountIn : zM := (yX1_amountIn, cX1_amountIn, 2, (some .int), { frames := 1, cells := 0, slots := 0, locals := 21 })
abbrev mX1_swinging : zM := (yX1_swinging, cX1_swinging, 2, (some .int), { frames := 0, cells := 0, slots := 0, locals := 0 })
abbrev mX1_cooled : zM := (yX1_cooled, cX1_cooled, 2, (some .int), { frames := 0, cells := 0, slots := 0, locals := 0 })
abbrev mX2_become : zM := (yX2_become, cX2_become, 3, none, { frames := 1, cells := 0, slots := 0, locals := 21 })
abbrev mX2_has : zM := (yX2_has, cX2_has, 2, (some .boolean), { frames := 0, cells := 0, slots := 0, locals := 0 })
abbrev mX2_told : zM := (yX2_told, cX2_told, 2, (some .int), { frames := 0, cells := 0, slots := 0, locals := 0 })
abbrev mX2_change : zM := (yX2_change, cX2_change, 4, (some .int), { frames := 1, cells := 0, slots := 0, locals := 21 })
abbrev mX2_allMinds : zM := (yX2_allMinds, cX2_allMinds, 3, (some .int), { frames := 0, cells := 0, slots := 0, locals := 0 })
abbrev mX2_refineHands : zM := (yX2_refineHands, cX2_refineHands, 4, none, { frames := 0, cells := 0, slots := 0, locals := 0 })
abbrev mX2_passMinutes : zM := (yX2_passMinutes, cX2_passMinutes, 6, none, { frames := 3, cells := 0, slots := 0, locals := 69 })
abbrev mX2_driftOnce : zM := (yX2_driftOnce, cX2_driftOnce, 2, (some .int), { frames := 2, cells := 0, slots := 0, locals := 43 })
abbrev mX2_isOffEither : zM := (yX2_isOffEither, cX2_isOffEither, 1, (some .boolean), { frames := 2, cells := 0, slots := 0, locals := 41 })
abbrev mX2_letOneGetUp : zM := (yX2_letOneGetUp, cX2_letOneGetUp, 5, none, { frames := 2, cells := 0, slots := 0, locals := 45 })
abbrev mX2_botherAll : zM := (yX2_botherAll, cX2_botherAll, 6, none, { frames := 2, cells := 0, slots := 0, locals := 43 })
abbrev mX2_off : zM := (yX2_off, cX2_off, 2, (some .int), { frames := 1, cells := 0, slots := 0, locals := 20 })
abbrev mX3_become : zM := (yX3_become, cX3_become, 2, none, { frames := 0, cells := 0, slots := 0, locals := 0 })
abbrev mX3_detail : zM := (yX3_detail, cX3_detail, 2, (some .int), { frames := 0, cells := 0, slots := 0, locals := 0 })
abbrev mX3_botheredBy : zM := (yX3_botheredBy, cX3_botheredBy, 2, (some .int), { frames := 1, cells := 0, slots := 0, locals := 22 })
abbrev mX3_deafTo : zM := (yX3_deafTo, cX3_deafTo, 3, (some .int), { frames := 0, cells := 0, slots := 0, locals := 0 })
abbrev mX3_turned : zM := (yX3_turned, cX3_turned, 5, (some .int), { frames := 1, cells := 0, slots := 0, locals := 20 })
abbrev mX4_become : zM := (yX4_become, cX4_become, 2, none, { frames := 0, cells := 0, slots := 0, locals := 0 })
abbrev mX4_rouses : zM := (yX4_rouses, cX4_rouses, 3, (some .boolean), { frames := 0, cells := 0, slots := 0, locals := 0 })
abbrev mX4_aim : zM := (yX4_aim, cX4_aim, 4, (some .int), { frames := 1, cells := 0, slots := 0, locals := 22 })
abbrev mX4_against : zM := (yX4_against, cX4_against, 3, (some .int), { frames := 0, cells := 0, slots := 0, locals := 0 })
abbrev mX5_add : zM := (yX5_add, cX5_add, 2, none, { frames := 0, cells := 0, slots := 0, locals := 0 })
abbrev mX5_shapeAt : zM := (yX5_shapeAt, cX5_shapeAt, 2, (some (.object "java/lang/String")), { frames := 1, cells := 0, slots := 0, locals := 21 })
abbrev mX5_firstUnfit : zM := (yX5_firstUnfit, cX5_firstUnfit, 4, (some .int), { frames := 5, cells := 0, slots := 0, locals := 112 })
abbrev mX5_tellTo : zM := (yX5_tellTo, cX5_tellTo, 4, (some .boolean), { frames := 6, cells := 0, slots := 0, locals := 139 })
abbrev mX5_tellPerson : zM := (yX5_tellPerson, cX5_tellPerson, 7, (some .boolean), { frames := 5, cells := 0, slots := 0, locals := 113 })
abbrev mX5_tellStation : zM := (yX5_tellStation, cX5_tellStation, 5, (some .boolean), { frames := 3, cells := 0, slots := 0, locals := 63 })
abbrev mX5_tellRule : zM := (yX5_tellRule, cX5_tellRule, 4, (some .boolean), { frames := 5, cells := 0, slots := 0, locals := 113 })
abbrev mX5_tellMinutes : zM := (yX5_tellMinutes, cX5_tellMinutes, 5, (some .boolean), { frames := 4, cells := 0, slots := 0, locals := 94 })
abbrev mX5_fits : zM := (yX5_fits, cX5_fits, 2, (some .boolean), { frames := 4, cells := 0, slots := 0, locals := 91 })
abbrev mX5_signAt : zM := (yX5_signAt, cX5_signAt, 2, (some .char), { frames := 0, cells := 0, slots := 0, locals := 0 })
abbrev mX5_digitAt : zM := (yX5_digitAt, cX5_digitAt, 2, (some .int), { frames := 1, cells := 0, slots := 0, locals := 21 })
abbrev mX5_numberAt : zM := (yX5_numberAt, cX5_numberAt, 2, (some .int), { frames := 2, cells := 0, slots := 0, locals := 42 })
abbrev mX5_signedAt : zM := (yX5_signedAt, cX5_signedAt, 3, (some .int), { frames := 1, cells := 0, slots := 0, locals := 21 })
abbrev mX5_kindAt : zM := (yX5_kindAt, cX5_kindAt, 3, (some .int), { frames := 4, cells := 0, slots := 0, locals := 91 })
abbrev mX6_letter : zM := (yX6_letter, cX6_letter, 3, (some .int), { frames := 1, cells := 0, slots := 0, locals := 22 })
abbrev mX6_parlour : zM := (yX6_parlour, cX6_parlour, 3, (some .int), { frames := 8, cells := 0, slots := 0, locals := 184 })
abbrev mX6_person : zM := (yX6_person, cX6_person, 3, (some .int), { frames := 1, cells := 0, slots := 0, locals := 22 })
abbrev mX6_bothers : zM := (yX6_bothers, cX6_bothers, 4, (some .int), { frames := 2, cells := 0, slots := 0, locals := 43 })
abbrev mX6_place : zM := (yX6_place, cX6_place, 2, (some .int), { frames := 2, cells := 0, slots := 0, locals := 43 })
abbrev mX6_set : zM := (yX6_set, cX6_set, 4, (some .int), { frames := 2, cells := 0, slots := 0, locals := 44 })
abbrev mX6_kind : zM := (yX6_kind, cX6_kind, 3, (some .int), { frames := 2, cells := 0, slots := 0, locals := 44 })
abbrev mX6_turn : zM := (yX6_turn, cX6_turn, 2, (some .int), { frames := 2, cells := 0, slots := 0, locals := 44 })
abbrev mX6_drifts : zM := (yX6_drifts, cX6_drifts, 3, (some .int), { frames := 2, cells := 0, slots := 0, locals := 43 })
abbrev mX6_go : zM := (yX6_go, cX6_go, 3, (some .int), { frames := 4, cells := 0, slots := 0, locals := 94 })
abbrev mX6_cost : zM := (yX6_cost, cX6_cost, 4, (some .int), { frames := 5, cells := 0, slots := 0, locals := 116 })
abbrev mX6_at : zM := (yX6_at, cX6_at, 3, (some .int), { frames := 5, cells := 0, slots := 0, locals := 116 })
abbrev mX6_of : zM := (yX6_of, cX6_of, 5, (some .int), { frames := 5, cells := 0, slots := 0, locals := 116 })
abbrev mX6_best : zM := (yX6_best, cX6_best, 4, (some .int), { frames := 6, cells := 0, slots := 0, locals := 144 })
abbrev mX6_finer : zM := (yX6_finer, cX6_finer, 4, (some .int), { frames := 6, cells := 0, slots := 0, locals := 140 })
abbrev mX6_mark : zM := (yX6_mark, cX6_mark, 3, (some .int), { frames := 6, cells := 0, slots := 0, locals := 140 })
abbrev mX6_most : zM := (yX6_most, cX6_most, 7, (some .int), { frames := 5, cells := 0, slots := 0, locals := 116 })
abbrev mX6_between : zM := (yX6_between, cX6_between, 3, (some .int), { frames := 6, cells := 0, slots := 0, locals := 144 })
abbrev mX6_leave : zM := (yX6_leave, cX6_leave, 4, (some .int), { frames := 5, cells := 0, slots := 0, locals := 116 })
abbrev mX6_holds : zM := (yX6_holds, cX6_holds, 4, (some .int), { frames := 4, cells := 0, slots := 0, locals := 86 })
abbrev mX6_setAt : zM := (yX6_setAt, cX6_setAt, 5, (some .int), { frames := 4, cells := 0, slots := 0, locals := 86 })
abbrev mX6_steadyFrom : zM := (yX6_steadyFrom, cX6_steadyFrom, 3, (some .int), { frames := 2, cells := 0, slots := 0, locals := 42 })
abbrev mX6_whoLast : zM := (yX6_whoLast, cX6_whoLast, 3, (some .int), { frames := 5, cells := 0, slots := 0, locals := 116 })
abbrev mX6_when : zM := (yX6_when, cX6_when, 3, (some .int), { frames := 4, cells := 0, slots := 0, locals := 94 })
abbrev mX6_row : zM := (yX6_row, cX6_row, 3, (some .int), { frames := 1, cells := 0, slots := 0, locals := 22 })
abbrev mX6_kept : zM := (yX6_kept, cX6_kept, 2, (some .int), { frames := 6, cells := 0, slots := 0, locals := 137 })
abbrev mX6_judge : zM := (yX6_judge, cX6_judge, 2, (some .int), { frames := 5, cells := 0, slots := 0, locals := 115 })
abbrev mX6_lots : zM := (yX6_lots, cX6_lots, 7, (some .int), { frames := 5, cells := 0, slots := 0, locals := 116 })
abbrev mX6_image : zM := (yX6_image, cX6_image, 1, (some .int), { frames := 2, cells := 0, slots := 0, locals := 43 })
abbrev mX6_on : zM := (yX6_on, cX6_on, 1, (some .int), { frames := 2, cells := 0, slots := 0, locals := 43 })
abbrev mX6_count : zM := (yX6_count, cX6_count, 2, (some .int), { frames := 1, cells := 0, slots := 0, locals := 22 })
abbrev mX6_outside : zM := (yX6_outside, cX6_outside, 3, (some .int), { frames := 0, cells := 0, slots := 0, locals := 0 })
abbrev mX6_refuse : zM := (yX6_refuse, cX6_refuse, 3, (some .int), { frames := 0, cells := 0, slots := 0, locals := 0 })
abbrev mX6_refuseTold : zM := (yX6_refuseTold, cX6_refuseTold, 2, (some .int), { frames := 1, cells := 0, slots := 0, locals := 22 })
abbrev mX6_tellAll : zM := (yX6_tellAll, cX6_tellAll, 3, (some .int), { frames := 7, cells := 0, slots := 0, locals := 162 })
abbrev mX6_think : zM := (yX6_think, cX6_think, 1, none, { frames := 2, cells := 0, slots := 0, locals := 43 })
abbrev mX6_playInMind : zM := (yX6_playInMind, cX6_playInMind, 3, (some .int), { frames := 4, cells := 0, slots := 0, locals := 94 })
abbrev mX6_leastCostly : zM := (yX6_leastCostly, cX6_leastCostly, 9, (some .int), { frames := 5, cells := 0, slots := 0, locals := 116 })
abbrev mX6_savedByFineHands : zM := (yX6_savedByFineHands, cX6_savedByFineHands, 5, (some .int), { frames := 5, cells := 0, slots := 0, locals := 116 })
abbrev mX6_minutesHeld : zM := (yX6_minutesHeld, cX6_minutesHeld, 3, (some .int), { frames := 3, cells := 0, slots := 0, locals := 64 })
abbrev mX6_firstUnlike : zM := (yX6_firstUnlike, cX6_firstUnlike, 2, (some .int), { frames := 4, cells := 0, slots := 0, locals := 94 })
abbrev mX6_rulesKept : zM := (yX6_rulesKept, cX6_rulesKept, 3, (some .int), { frames := 5, cells := 0, slots := 0, locals := 115 })
abbrev mX6_limitsKept : zM := (yX6_limitsKept, cX6_limitsKept, 3, (some .int), { frames := 5, cells := 0, slots := 0, locals := 115 })
abbrev mX6_held : zM := (yX6_held, cX6_held, 3, (some .int), { frames := 1, cells := 0, slots := 0, locals := 21 })
abbrev mX7_no : zM := (yX7_no, cX7_no, 2, (some .int), { frames := 0, cells := 0, slots := 0, locals := 0 })
abbrev mX7_lower : zM := (yX7_lower, cX7_lower, 2, (some .int), { frames := 0, cells := 0, slots := 0, locals := 0 })
abbrev mX7_isIn : zM := (yX7_isIn, cX7_isIn, 3, (some .boolean), { frames := 0, cells := 0, slots := 0, locals := 0 })
abbrev mX7_bound : zM := (yX7_bound, cX7_bound, 3, (some .int), { frames := 0, cells := 0, slots := 0, locals := 0 })
abbrev mX7_size : zM := (yX7_size, cX7_size, 1, (some .int), { frames := 0, cells := 0, slots := 0, locals := 0 })
abbrev mX7_isPerson : zM := (yX7_isPerson, cX7_isPerson, 2, (some .boolean), { frames := 0, cells := 0, slots := 0, locals := 0 })
abbrev mX7_leastOf : zM := (yX7_leastOf, cX7_leastOf, 1, (some .int), { frames := 0, cells := 0, slots := 0, locals := 0 })
abbrev mX7_mostOf : zM := (yX7_mostOf, cX7_mostOf, 1, (some .int), { frames := 0, cells := 0, slots := 0, locals := 0 })
abbrev mX7_letter : zM := (yX7_letter, cX7_letter, 3, (some .int), { frames := 1, cells := 0, slots := 0, locals := 22 })
abbrev mX7_next : zM := (yX7_next, cX7_next, 1, (some .int), { frames := 0, cells := 0, slots := 0, locals := 0 })
abbrev mX7_readsDigits : zM := (yX7_readsDigits, cX7_readsDigits, 5, (some .boolean), { frames := 1, cells := 0, slots := 0, locals := 22 })
abbrev mX7_readsSigned : zM := (yX7_readsSigned, cX7_readsSigned, 4, (some .boolean), { frames := 2, cells := 0, slots := 0, locals := 46 })
abbrev mX7_personOf : zM := (yX7_personOf, cX7_personOf, 1, (some .int), { frames := 0, cells := 0, slots := 0, locals := 0 })
abbrev mX7_driftOf : zM := (yX7_driftOf, cX7_driftOf, 1, (some .int), { frames := 0, cells := 0, slots := 0, locals := 0 })
abbrev mX7_ruleOf : zM := (yX7_ruleOf, cX7_ruleOf, 1, (some .int), { frames := 0, cells := 0, slots := 0, locals := 0 })
abbrev mX7_readsKind : zM := (yX7_readsKind, cX7_readsKind, 3, (some .boolean), { frames := 0, cells := 0, slots := 0, locals := 0 })
abbrev mX7_readsPerson : zM := (yX7_readsPerson, cX7_readsPerson, 3, (some .boolean), { frames := 2, cells := 0, slots := 0, locals := 46 })
abbrev mX7_readsAll : zM := (yX7_readsAll, cX7_readsAll, 3, (some .boolean), { frames := 3, cells := 0, slots := 0, locals := 69 })
abbrev mX7_statement : zM := (yX7_statement, cX7_statement, 2, (some .boolean), { frames := 4, cells := 0, slots := 0, locals := 91 })
abbrev mX7_comesPerson : zM := (yX7_comesPerson, cX7_comesPerson, 2, (some .boolean), { frames := 1, cells := 0, slots := 0, locals := 22 })
abbrev mX7_comesSet : zM := (yX7_comesSet, cX7_comesSet, 3, (some .boolean), { frames := 1, cells := 0, slots := 0, locals := 22 })
abbrev mX7_comes : zM := (yX7_comes, cX7_comes, 4, (some .boolean), { frames := 7, cells := 0, slots := 0, locals := 150 })
abbrev mX7_parlour : zM := (yX7_parlour, cX7_parlour, 3, (some .int), { frames := 8, cells := 0, slots := 0, locals := 173 })
abbrev mX7_passes : zM := (yX7_passes, cX7_passes, 3, none, { frames := 0, cells := 0, slots := 0, locals := 0 })
abbrev mX7_passOne : zM := (yX7_passOne, cX7_passOne, 3, (some .int), { frames := 0, cells := 0, slots := 0, locals := 0 })
abbrev mX7_passesAll : zM := (yX7_passesAll, cX7_passesAll, 3, none, { frames := 1, cells := 0, slots := 0, locals := 22 })
abbrev mX7_image : zM := (yX7_image, cX7_image, 1, (some .int), { frames := 2, cells := 0, slots := 0, locals := 44 })
abbrev mX7_on : zM := (yX7_on, cX7_on, 1, (some .int), { frames := 2, cells := 0, slots := 0, locals := 44 })
abbrev mX7_swinging : zM := (yX7_swinging, cX7_swinging, 2, (some .int), { frames := 0, cells := 0, slots := 0, locals := 0 })
abbrev mX7_cooling : zM := (yX7_cooling, cX7_cooling, 3, (some .int), { frames := 1, cells := 0, slots := 0, locals := 20 })
abbrev mX7_driftIn : zM := (yX7_driftIn, cX7_driftIn, 2, (some .int), { frames := 2, cells := 0, slots := 0, locals := 42 })
abbrev mX7_botherOf : zM := (yX7_botherOf, cX7_botherOf, 4, (some .int), { frames := 0, cells := 0, slots := 0, locals := 0 })
abbrev mX7_placeOf : zM := (yX7_placeOf, cX7_placeOf, 2, (some .int), { frames := 0, cells := 0, slots := 0, locals := 0 })
abbrev mX7_isUp : zM := (yX7_isUp, cX7_isUp, 2, (some .boolean), { frames := 1, cells := 0, slots := 0, locals := 21 })
abbrev mX7_shouldBe : zM := (yX7_shouldBe, cX7_shouldBe, 3, (some .int), { frames := 3, cells := 0, slots := 0, locals := 63 })
abbrev mX7_turnsTo : zM := (yX7_turnsTo, cX7_turnsTo, 5, none, { frames := 1, cells := 0, slots := 0, locals := 20 })
abbrev mX7_begins : zM := (yX7_begins, cX7_begins, 2, none, { frames := 0, cells := 0, slots := 0, locals := 0 })
abbrev mX7_getsUp : zM := (yX7_getsUp, cX7_getsUp, 1, none, { frames := 4, cells := 0, slots := 0, locals := 85 })
abbrev mX7_goesOne : zM := (yX7_goesOne, cX7_goesOne, 4, none, { frames := 5, cells := 0, slots := 0, locals := 105 })
abbrev mX7_goes : zM := (yX7_goes, cX7_goes, 3, none, { frames := 6, cells := 0, slots := 0, locals := 128 })
abbrev mX7_costOf : zM := (yX7_costOf, cX7_costOf, 3, (some .int), { frames := 0, cells := 0, slots := 0, locals := 0 })
abbrev mX7_thinks : zM := (yX7_thinks, cX7_thinks, 5, (some .int), { frames := 7, cells := 0, slots := 0, locals := 150 })
abbrev mX7_thinksWith : zM := (yX7_thinksWith, cX7_thinksWith, 6, (some .int), { frames := 8, cells := 0, slots := 0, locals := 174 })
abbrev mX7_thinksByRule : zM := (yX7_thinksByRule, cX7_thinksByRule, 5, (some .int), { frames := 8, cells := 0, slots := 0, locals := 174 })
abbrev mX7_thinksFirst : zM := (yX7_thinksFirst, cX7_thinksFirst, 5, (some .int), { frames := 8, cells := 0, slots := 0, locals := 174 })
abbrev mX7_person : zM := (yX7_person, cX7_person, 3, (some .int), { frames := 1, cells := 0, slots := 0, locals := 21 })
abbrev mX7_bothers : zM := (yX7_bothers, cX7_bothers, 4, (some .int), { frames := 1, cells := 0, slots := 0, locals := 23 })
abbrev mX7_place : zM := (yX7_place, cX7_place, 2, (some .int), { frames := 1, cells := 0, slots := 0, locals := 22 })
abbrev mX7_set : zM := (yX7_set, cX7_set, 5, (some .int), { frames := 1, cells := 0, slots := 0, locals := 22 })
abbrev mX7_kind : zM := (yX7_kind, cX7_kind, 4, (some .int), { frames := 1, cells := 0, slots := 0, locals := 22 })
abbrev mX7_turn : zM := (yX7_turn, cX7_turn, 3, (some .int), { frames := 1, cells := 0, slots := 0, locals := 21 })
abbrev mX7_drifts : zM := (yX7_drifts, cX7_drifts, 3, (some .int), { frames := 3, cells := 0, slots := 0, locals := 63 })
abbrev mX7_go : zM := (yX7_go, cX7_go, 3, (some .int), { frames := 7, cells := 0, slots := 0, locals := 150 })
abbrev mX7_cost : zM := (yX7_cost, cX7_cost, 5, (some .int), { frames := 8, cells := 0, slots := 0, locals := 174 })
abbrev mX7_at : zM := (yX7_at, cX7_at, 3, (some .int), { frames := 8, cells := 0, slots := 0, locals := 174 })
abbrev mX7_bothOf : zM := (yX7_bothOf, cX7_bothOf, 2, (some .int), { frames := 0, cells := 0, slots := 0, locals := 0 })
abbrev mX7_of : zM := (yX7_of, cX7_of, 5, (some .int), { frames := 8, cells := 0, slots := 0, locals := 174 })
abbrev mX7_bestSet : zM := (yX7_bestSet, cX7_bestSet, 7, (some .int), { frames := 9, cells := 0, slots := 0, locals := 199 })
abbrev mX7_bestRule : zM := (yX7_bestRule, cX7_bestRule, 4, (some .int), { frames := 9, cells := 0, slots := 0, locals := 198 })
abbrev mX7_bestFirst : zM := (yX7_bestFirst, cX7_bestFirst, 4, (some .int), { frames := 9, cells := 0, slots := 0, locals := 198 })
abbrev mX7_best : zM := (yX7_best, cX7_best, 4, (some .int), { frames := 10, cells := 0, slots := 0, locals := 225 })
abbrev mX7_finer : zM := (yX7_finer, cX7_finer, 7, (some .int), { frames := 8, cells := 0, slots := 0, locals := 174 })
abbrev mX7_mark : zM := (yX7_mark, cX7_mark, 5, (some .int), { frames := 8, cells := 0, slots := 0, locals := 174 })
abbrev mX7_most : zM := (yX7_most, cX7_most, 5, (some .int), { frames := 8, cells := 0, slots := 0, locals := 174 })
abbrev mX7_between : zM := (yX7_between, cX7_between, 3, (some .int), { frames := 10, cells := 0, slots := 0, locals := 225 })
abbrev mX7_leave : zM := (yX7_leave, cX7_leave, 4, (some .int), { frames := 9, cells := 0, slots := 0, locals := 198 })
abbrev mX7_isOff : zM := (yX7_isOff, cX7_isOff, 2, (some .boolean), { frames := 1, cells := 0, slots := 0, locals := 20 })
abbrev mX7_holdsFrom : zM := (yX7_holdsFrom, cX7_holdsFrom, 4, (some .int), { frames := 9, cells := 0, slots := 0, locals := 199 })
abbrev mX7_holds : zM := (yX7_holds, cX7_holds, 3, (some .int), { frames := 10, cells := 0, slots := 0, locals := 222 })
abbrev mX7_setAt : zM := (yX7_setAt, cX7_setAt, 5, (some .int), { frames := 10, cells := 0, slots := 0, locals := 222 })
abbrev mX7_isStill : zM := (yX7_isStill, cX7_isStill, 3, (some .boolean), { frames := 3, cells := 0, slots := 0, locals := 63 })
abbrev mX7_steadyFrom : zM := (yX7_steadyFrom, cX7_steadyFrom, 2, (some .int), { frames := 4, cells := 0, slots := 0, locals := 85 })
abbrev mX7_whoLast : zM := (yX7_whoLast, cX7_whoLast, 3, (some .int), { frames := 8, cells := 0, slots := 0, locals := 174 })
abbrev mX7_when : zM := (yX7_when, cX7_when, 2, (some .int), { frames := 8, cells := 0, slots := 0, locals := 174 })
abbrev mX7_row : zM := (yX7_row, cX7_row, 3, (some .int), { frames := 1, cells := 0, slots := 0, locals := 22 })
abbrev mX7_firstOther : zM := (yX7_firstOther, cX7_firstOther, 3, (some .int), { frames := 0, cells := 0, slots := 0, locals := 0 })
abbrev mX7_kept : zM := (yX7_kept, cX7_kept, 5, (some .int), { frames := 9, cells := 0, slots := 0, locals := 199 })
abbrev mX7_judge : zM := (yX7_judge, cX7_judge, 2, (some .int), { frames := 8, cells := 0, slots := 0, locals := 174 })
abbrev mX7_lots : zM := (yX7_lots, cX7_lots, 7, (some .int), { frames := 9, cells := 0, slots := 0, locals := 199 })
abbrev mX7_count : zM := (yX7_count, cX7_count, 4, (some .int), { frames := 1, cells := 0, slots := 0, locals := 22 })
abbrev mJ0_length_8abf5 : zM := (yJ0_length_8abf5, cJ0_length_8abf5, 1, (some .int), { frames := 1, cells := 0, slots := 0, locals := 20 })
abbrev mJ0_isEmpty_aae02 : zM := (yJ0_isEmpty_aae02, cJ0_isEmpty_aae02, 1, (some .boolean), { frames := 0, cells := 0, slots := 0, locals := 0 })
abbrev mJ0_charAt_5068e : zM := (yJ0_charAt_5068e, cJ0_charAt_5068e, 2, (some .char), { frames := 3, cells := 0, slots := 0, locals := 64 })
abbrev mJ0_indexOf_0f7a4 : zM := (yJ0_indexOf_0f7a4, cJ0_indexOf_0f7a4, 2, (some .int), { frames := 3, cells := 0, slots := 0, locals := 70 })
abbrev mJ0_indexOf_7cf53 : zM := (yJ0_indexOf_7cf53, cJ0_indexOf_7cf53, 3, (some .int), { frames := 2, cells := 0, slots := 0, locals := 48 })
abbrev mJ0_coder_7d493 : zM := (yJ0_coder_7d493, cJ0_coder_7d493, 1, (some .byte), { frames := 0, cells := 0, slots := 0, locals := 0 })
abbrev mJ0_isLatin1_aae02 : zM := (yJ0_isLatin1_aae02, cJ0_isLatin1_aae02, 1, (some .boolean), { frames := 0, cells := 0, slots := 0, locals := 0 })
abbrev mJ0_checkIndex_df160 : zM := (yJ0_checkIndex_df160, cJ0_checkIndex_df160, 2, none, { frames := 1, cells := 0, slots := 0, locals := 22 })
abbrev mJ1_charAt_3b067 : zM := (yJ1_charAt_3b067, cJ1_charAt_3b067, 2, (some .char), { frames := 2, cells := 0, slots := 0, locals := 43 })
abbrev mJ1_canEncode_9a6ad : zM := (yJ1_canEncode_9a6ad, cJ1_canEncode_9a6ad, 1, (some .boolean), { frames := 0, cells := 0, slots := 0, locals := 0 })
abbrev mJ1_indexOf_4cfef : zM := (yJ1_indexOf_4cfef, cJ1_indexOf_4cfef, 4, (some .int), { frames := 1, cells := 0, slots := 0, locals := 25 })
abbrev mJ1_indexOfChar_4cfef : zM := (yJ1_indexOfChar_4cfef, cJ1_indexOfChar_4cfef, 6, (some .int), { frames := 0, cells := 0, slots := 0, locals := 0 })
abbrev mJ3_checkIndex_8e157 : zM := (yJ3_checkIndex_8e157, cJ3_checkIndex_8e157, 3, (some .int), { frames := 0, cells := 0, slots := 0, locals := 0 })
abbrev mL_law : zM := (yL_law, code, 4, some .boolean, room_1)
theorem inX0 : ∀ w ∈ u_ws RX0 TX0 6, w ∈ zAL := by
  intro w hw
  obtain ⟨k, hk, rfl⟩ := List.mem_map.mp hw
  have hk := List.mem_range.mp hk
  match k, hk with
  | 0, _ => exact al_1 162 (by decide +kernel)
  | 1, _ => exact al_1 164 (by decide +kernel)
  | 2, _ => exact al_1 166 (by decide +kernel)
  | 3, _ => exact al_1 168 (by decide +kernel)
  | 4, _ => exact al_1 170 (by decide +kernel)
  | 5, _ => exact al_1 172 (by decide +kernel)
theorem inX1 : ∀ w ∈ u_ws RX1 TX1 2, w ∈ zAL := by
  intro w hw
  obtain ⟨k, hk, rfl⟩ := List.mem_map.mp hw
  have hk := List.mem_range.mp hk
  match k, hk with
  | 0, _ => exact al_1 42 (by decide +kernel)
  | 1, _ => exact al_1 44 (by decide +kernel)
theorem inX2 : ∀ w ∈ u_ws RX2 TX2 9, w ∈ zAL := by
  intro w hw
  obtain ⟨k, hk, rfl⟩ := List.mem_map.mp hw
  have hk := List.mem_range.mp hk
  match k, hk with
  | 0, _ => exact al_1 130 (by decide +kernel)
  | 1, _ => exact al_1 132 (by decide +kernel)
  | 2, _ => exact al_1 134 (by decide +kernel)
  | 3, _ => exact al_1 136 (by decide +kernel)
  | 4, _ => exact al_1 138 (by decide +kernel)
  | 5, _ => exact al_1 140 (by decide +kernel)
  | 6, _ => exact al_1 142 (by decide +kernel)
  | 7, _ => exact al_1 144 (by decide +kernel)
  | 8, _ => exact al_1 146 (by decide +kernel)
theorem inX3 : ∀ w ∈ u_ws RX3 TX3 6, w ∈ zAL := by
  intro w hw
  obtain ⟨k, hk, rfl⟩ := List.mem_map.mp hw
  have hk := List.mem_range.mp hk
  match k, hk with
  | 0, _ => exact al_1 95 (by decide +kernel)
  | 1, _ => exact al_1 97 (by decide +kernel)
  | 2, _ => exact al_1 99 (by decide +kernel)
  | 3, _ => exact al_1 101 (by decide +kernel)
  | 4, _ => exact al_1 103 (by decide +kernel)
  | 5, _ => exact al_1 105 (by decide +kernel)
theorem inX4 : ∀ w ∈ u_ws RX4 TX4 3, w ∈ zAL := by
  intro w hw
  obtain ⟨k, hk, rfl⟩ := List.mem_map.mp hw
  have hk := List.mem_range.mp hk
  match k, hk with
  | 0, _ => exact al_1 65 (by decide +kernel)
  | 1, _ => exact al_1 67 (by decide +kernel)
  | 2, _ => exact al_1 69 (by decide +kernel)
theorem inX5 : ∀ w ∈ u_ws RX5 TX5 2, w ∈ zAL := by
  intro w hw
  obtain ⟨k, hk, rfl⟩ := List.mem_map.mp hw
  have hk := List.mem_range.mp hk
  match k, hk with
  | 0, _ => exact al_1 185 (by decide +kernel)
  | 1, _ => exact al_1 187 (by decide +kernel)
theorem inX6 : ∀ w ∈ u_ws RX6 TX6 9, w ∈ zAL := by
  intro w hw
  obtain ⟨k, hk, rfl⟩ := List.mem_map.mp hw
  have hk := List.mem_range.mp hk
  match k, hk with
  | 0, _ => exact al_1 200 (by decide +kernel)
  | 1, _ => exact al_1 202 (by decide +kernel)
  | 2, _ => exact al_1 204 (by decide +kernel)
  | 3, _ => exact al_1 206 (by decide +kernel)
  | 4, _ => exact al_1 208 (by decide +kernel)
  | 5, _ => exact al_1 210 (by decide +kernel)
  | 6, _ => exact al_1 212 (by decide +kernel)
  | 7, _ => exact al_1 214 (by decide +kernel)
  | 8, _ => exact al_1 216 (by decide +kernel)
theorem inX7 : ∀ w ∈ u_ws RX7 TX7 36, w ∈ zAL := by
  intro w hw
  obtain ⟨k, hk, rfl⟩ := List.mem_map.mp hw
  have hk := List.mem_range.mp hk
  match k, hk with
  | 0, _ => exact al_4 57 (by decide +kernel)
  | 1, _ => exact al_4 59 (by decide +kernel)
  | 2, _ => exact al_4 61 (by decide +kernel)
  | 3, _ => exact al_4 63 (by decide +kernel)
  | 4, _ => exact al_4 65 (by decide +kernel)
  | 5, _ => exact al_4 67 (by decide +kernel)
  | 6, _ => exact al_4 69 (by decide +kernel)
  | 7, _ => exact al_4 71 (by decide +kernel)
  | 8, _ => exact al_4 73 (by decide +kernel)
  | 9, _ => exact al_4 75 (by decide +kernel)
  | 10, _ => exact al_4 77 (by decide +kernel)
  | 11, _ => exact al_4 79 (by decide +kernel)
  | 12, _ => exact al_4 81 (by decide +kernel)
  | 13, _ => exact al_4 83 (by decide +kernel)
  | 14, _ => exact al_4 85 (by decide +kernel)
  | 15, _ => exact al_4 87 (by decide +kernel)
  | 16, _ => exact al_4 89 (by decide +kernel)
  | 17, _ => exact al_4 91 (by decide +kernel)
  | 18, _ => exact al_4 93 (by decide +kernel)
  | 19, _ => exact al_4 95 (by decide +kernel)
  | 20, _ => exact al_4 97 (by decide +kernel)
  | 21, _ => exact al_4 99 (by decide +kernel)
  | 22, _ => exact al_4 101 (by decide +kernel)
  | 23, _ => exact al_4 103 (by decide +kernel)
  | 24, _ => exact al_4 105 (by decide +kernel)
  | 25, _ => exact al_4 107 (by decide +kernel)
  | 26, _ => exact al_4 109 (by decide +kernel)
  | 27, _ => exact al_4 111 (by decide +kernel)
  | 28, _ => exact al_4 113 (by decide +kernel)
  | 29, _ => exact al_4 115 (by decide +kernel)
  | 30, _ => exact al_4 117 (by decide +kernel)
  | 31, _ => exact al_4 119 (by decide +kernel)
  | 32, _ => exact al_4 121 (by decide +kernel)
  | 33, _ => exact al_4 123 (by decide +kernel)
  | 34, _ => exact al_4 125 (by decide +kernel)
  | 35, _ => exact al_4 127 (by decide +kernel)
  | k + 36, hk => exact absurd hk (by omega)
theorem fX6_10 : zF RX6 10 6 0 := ⟨RX6, TX6, 9, tyX6, rfl, (by decide), inX6, al_1 191 (by decide +kernel), tyX6_ok, nmX6⟩
theorem fX6_16 : zF RX6 16 6 1 := ⟨RX6, TX6, 9, tyX6, rfl, (by decide), inX6, al_1 192 (by decide +kernel), tyX6_ok, nmX6⟩
theorem fX6_19 : zF RX6 19 6 2 := ⟨RX6, TX6, 9, tyX6, rfl, (by decide), inX6, al_1 193 (by decide +kernel), tyX6_ok, nmX6⟩
theorem fX6_25 : zF RX6 25 6 4 := ⟨RX6, TX6, 9, tyX6, rfl, (by decide), inX6, al_1 195 (by decide +kernel), tyX6_ok, nmX6⟩
theorem fX6_32 : zF RX6 32 6 5 := ⟨RX6, TX6, 9, tyX6, rfl, (by decide), inX6, al_1 196 (by decide +kernel), tyX6_ok, nmX6⟩
theorem fX6_36 : zF RX6 36 6 6 := ⟨RX6, TX6, 9, tyX6, rfl, (by decide), inX6, al_1 197 (by decide +kernel), tyX6_ok, nmX6⟩
theorem fX6_40 : zF RX6 40 6 8 := ⟨RX6, TX6, 9, tyX6, rfl, (by decide), inX6, al_1 199 (by decide +kernel), tyX6_ok, nmX6⟩
theorem fX6_47 : zF RX6 47 5 1 := ⟨RX5, TX5, 2, tyX5, rfl, (by decide), inX5, al_1 184 (by decide +kernel), tyX5_ok, nmX5⟩
theorem wX6_47 : zFw RX6 47 5 1 .int := ⟨RX5, TX5, 2, tyX5, rfl, (by decide), inX5, al_1 184 (by decide +kernel), tyX5_ok, nmX5, rfl, (by decide +kernel)⟩
theorem fX6_70 : zF RX6 70 2 5 := ⟨RX2, TX2, 9, tyX2, rfl, (by decide), inX2, al_1 120 (by decide +kernel), tyX2_ok, nmX2⟩
theorem sX6_88 : Cond.fieldLink RX6 88 "AHairToTheLeft" "LEAST" "[I" ∈ zAL := al_3 84 (by decide +kernel)
theorem sX6_91 : Cond.fieldLink RX6 91 "AHairToTheLeft" "GREATEST" "[I" ∈ zAL := al_3 85 (by decide +kernel)
theorem fX6_98 : zF RX6 98 2 3 := ⟨RX2, TX2, 9, tyX2, rfl, (by decide), inX2, al_1 115 (by decide +kernel), tyX2_ok, nmX2⟩
theorem fX6_107 : zF RX6 107 2 8 := ⟨RX2, TX2, 9, tyX2, rfl, (by decide), inX2, al_1 129 (by decide +kernel), tyX2_ok, nmX2⟩
theorem wX6_107 : zFw RX6 107 2 8 .int := ⟨RX2, TX2, 9, tyX2, rfl, (by decide), inX2, al_1 129 (by decide +kernel), tyX2_ok, nmX2, rfl, (by decide +kernel)⟩
theorem fX6_128 : zF RX6 128 2 0 := ⟨RX2, TX2, 9, tyX2, rfl, (by decide), inX2, al_1 110 (by decide +kernel), tyX2_ok, nmX2⟩
theorem wX6_128 : zFw RX6 128 2 0 .int := ⟨RX2, TX2, 9, tyX2, rfl, (by decide), inX2, al_1 110 (by decide +kernel), tyX2_ok, nmX2, rfl, (by decide +kernel)⟩
theorem fX6_138 : zF RX6 138 2 6 := ⟨RX2, TX2, 9, tyX2, rfl, (by decide), inX2, al_1 124 (by decide +kernel), tyX2_ok, nmX2⟩
theorem wX6_138 : zFw RX6 138 2 6 .int := ⟨RX2, TX2, 9, tyX2, rfl, (by decide), inX2, al_1 124 (by decide +kernel), tyX2_ok, nmX2, rfl, (by decide +kernel)⟩
theorem fX6_147 : zF RX6 147 0 5 := ⟨RX0, TX0, 6, tyX0, rfl, (by decide), inX0, al_1 161 (by decide +kernel), tyX0_ok, nmX0⟩
theorem wX6_147 : zFw RX6 147 0 5 .int := ⟨RX0, TX0, 6, tyX0, rfl, (by decide), inX0, al_1 161 (by decide +kernel), tyX0_ok, nmX0, rfl, (by decide +kernel)⟩
theorem fX6_150 : zF RX6 150 6 7 := ⟨RX6, TX6, 9, tyX6, rfl, (by decide), inX6, al_1 198 (by decide +kernel), tyX6_ok, nmX6⟩
theorem wX6_150 : zFw RX6 150 6 7 .int := ⟨RX6, TX6, 9, tyX6, rfl, (by decide), inX6, al_1 198 (by decide +kernel), tyX6_ok, nmX6, rfl, (by decide +kernel)⟩
theorem fX6_169 : zF RX6 169 6 3 := ⟨RX6, TX6, 9, tyX6, rfl, (by decide), inX6, al_1 194 (by decide +kernel), tyX6_ok, nmX6⟩
theorem wX6_169 : zFw RX6 169 6 3 .boolean := ⟨RX6, TX6, 9, tyX6, rfl, (by decide), inX6, al_1 194 (by decide +kernel), tyX6_ok, nmX6, rfl, (by decide +kernel)⟩
theorem fX6_173 : zF RX6 173 1 0 := ⟨RX1, TX1, 2, tyX1, rfl, (by decide), inX1, al_1 38 (by decide +kernel), tyX1_ok, nmX1⟩
theorem wX6_173 : zFw RX6 173 1 0 .int := ⟨RX1, TX1, 2, tyX1, rfl, (by decide), inX1, al_1 38 (by decide +kernel), tyX1_ok, nmX1, rfl, (by decide +kernel)⟩
theorem fX6_176 : zF RX6 176 2 4 := ⟨RX2, TX2, 9, tyX2, rfl, (by decide), inX2, al_1 118 (by decide +kernel), tyX2_ok, nmX2⟩
theorem fX6_180 : zF RX6 180 4 0 := ⟨RX4, TX4, 3, tyX4, rfl, (by decide), inX4, al_1 56 (by decide +kernel), tyX4_ok, nmX4⟩
theorem wX6_180 : zFw RX6 180 4 0 .int := ⟨RX4, TX4, 3, tyX4, rfl, (by decide), inX4, al_1 56 (by decide +kernel), tyX4_ok, nmX4, rfl, (by decide +kernel)⟩
theorem fX6_183 : zF RX6 183 4 1 := ⟨RX4, TX4, 3, tyX4, rfl, (by decide), inX4, al_1 60 (by decide +kernel), tyX4_ok, nmX4⟩
theorem wX6_183 : zFw RX6 183 4 1 .int := ⟨RX4, TX4, 3, tyX4, rfl, (by decide), inX4, al_1 60 (by decide +kernel), tyX4_ok, nmX4, rfl, (by decide +kernel)⟩
theorem fX6_186 : zF RX6 186 4 2 := ⟨RX4, TX4, 3, tyX4, rfl, (by decide), inX4, al_1 64 (by decide +kernel), tyX4_ok, nmX4⟩
theorem wX6_186 : zFw RX6 186 4 2 .int := ⟨RX4, TX4, 3, tyX4, rfl, (by decide), inX4, al_1 64 (by decide +kernel), tyX4_ok, nmX4, rfl, (by decide +kernel)⟩
theorem fX6_189 : zF RX6 189 2 7 := ⟨RX2, TX2, 9, tyX2, rfl, (by decide), inX2, al_1 126 (by decide +kernel), tyX2_ok, nmX2⟩
theorem wX6_189 : zFw RX6 189 2 7 .int := ⟨RX2, TX2, 9, tyX2, rfl, (by decide), inX2, al_1 126 (by decide +kernel), tyX2_ok, nmX2, rfl, (by decide +kernel)⟩
theorem fX0_9 : zF RX0 9 0 0 := ⟨RX0, TX0, 6, tyX0, rfl, (by decide), inX0, al_1 155 (by decide +kernel), tyX0_ok, nmX0⟩
theorem fX0_15 : zF RX0 15 0 1 := ⟨RX0, TX0, 6, tyX0, rfl, (by decide), inX0, al_1 156 (by decide +kernel), tyX0_ok, nmX0⟩
theorem fX0_18 : zF RX0 18 0 2 := ⟨RX0, TX0, 6, tyX0, rfl, (by decide), inX0, al_1 157 (by decide +kernel), tyX0_ok, nmX0⟩
theorem fX0_21 : zF RX0 21 0 5 := ⟨RX0, TX0, 6, tyX0, rfl, (by decide), inX0, al_1 160 (by decide +kernel), tyX0_ok, nmX0⟩
theorem wX0_21 : zFw RX0 21 0 5 .int := ⟨RX0, TX0, 6, tyX0, rfl, (by decide), inX0, al_1 160 (by decide +kernel), tyX0_ok, nmX0, rfl, (by decide +kernel)⟩
theorem fX0_25 : zF RX0 25 0 3 := ⟨RX0, TX0, 6, tyX0, rfl, (by decide), inX0, al_1 158 (by decide +kernel), tyX0_ok, nmX0⟩
theorem wX0_25 : zFw RX0 25 0 3 .int := ⟨RX0, TX0, 6, tyX0, rfl, (by decide), inX0, al_1 158 (by decide +kernel), tyX0_ok, nmX0, rfl, (by decide +kernel)⟩
theorem fX0_28 : zF RX0 28 0 4 := ⟨RX0, TX0, 6, tyX0, rfl, (by decide), inX0, al_1 159 (by decide +kernel), tyX0_ok, nmX0⟩
theorem wX0_28 : zFw RX0 28 0 4 .int := ⟨RX0, TX0, 6, tyX0, rfl, (by decide), inX0, al_1 159 (by decide +kernel), tyX0_ok, nmX0, rfl, (by decide +kernel)⟩
theorem fX1_7 : zF RX1 7 1 0 := ⟨RX1, TX1, 2, tyX1, rfl, (by decide), inX1, al_1 35 (by decide +kernel), tyX1_ok, nmX1⟩
theorem wX1_7 : zFw RX1 7 1 0 .int := ⟨RX1, TX1, 2, tyX1, rfl, (by decide), inX1, al_1 35 (by decide +kernel), tyX1_ok, nmX1, rfl, (by decide +kernel)⟩
theorem fX1_13 : zF RX1 13 1 1 := ⟨RX1, TX1, 2, tyX1, rfl, (by decide), inX1, al_1 39 (by decide +kernel), tyX1_ok, nmX1⟩
theorem wX1_13 : zFw RX1 13 1 1 .int := ⟨RX1, TX1, 2, tyX1, rfl, (by decide), inX1, al_1 39 (by decide +kernel), tyX1_ok, nmX1, rfl, (by decide +kernel)⟩
theorem fX2_9 : zF RX2 9 2 2 := ⟨RX2, TX2, 9, tyX2, rfl, (by decide), inX2, al_1 112 (by decide +kernel), tyX2_ok, nmX2⟩
theorem wX2_9 : zFw RX2 9 2 2 .int := ⟨RX2, TX2, 9, tyX2, rfl, (by decide), inX2, al_1 112 (by decide +kernel), tyX2_ok, nmX2, rfl, (by decide +kernel)⟩
theorem fX2_18 : zF RX2 18 2 3 := ⟨RX2, TX2, 9, tyX2, rfl, (by decide), inX2, al_1 113 (by decide +kernel), tyX2_ok, nmX2⟩
theorem fX2_25 : zF RX2 25 2 4 := ⟨RX2, TX2, 9, tyX2, rfl, (by decide), inX2, al_1 116 (by decide +kernel), tyX2_ok, nmX2⟩
theorem fX2_31 : zF RX2 31 2 5 := ⟨RX2, TX2, 9, tyX2, rfl, (by decide), inX2, al_1 119 (by decide +kernel), tyX2_ok, nmX2⟩
theorem fX2_36 : zF RX2 36 2 0 := ⟨RX2, TX2, 9, tyX2, rfl, (by decide), inX2, al_1 108 (by decide +kernel), tyX2_ok, nmX2⟩
theorem wX2_36 : zFw RX2 36 2 0 .int := ⟨RX2, TX2, 9, tyX2, rfl, (by decide), inX2, al_1 108 (by decide +kernel), tyX2_ok, nmX2, rfl, (by decide +kernel)⟩
theorem fX2_39 : zF RX2 39 2 1 := ⟨RX2, TX2, 9, tyX2, rfl, (by decide), inX2, al_1 111 (by decide +kernel), tyX2_ok, nmX2⟩
theorem wX2_39 : zFw RX2 39 2 1 .int := ⟨RX2, TX2, 9, tyX2, rfl, (by decide), inX2, al_1 111 (by decide +kernel), tyX2_ok, nmX2, rfl, (by decide +kernel)⟩
theorem fX2_49 : zF RX2 49 2 6 := ⟨RX2, TX2, 9, tyX2, rfl, (by decide), inX2, al_1 122 (by decide +kernel), tyX2_ok, nmX2⟩
theorem wX2_49 : zFw RX2 49 2 6 .int := ⟨RX2, TX2, 9, tyX2, rfl, (by decide), inX2, al_1 122 (by decide +kernel), tyX2_ok, nmX2, rfl, (by decide +kernel)⟩
theorem fX2_55 : zF RX2 55 2 7 := ⟨RX2, TX2, 9, tyX2, rfl, (by decide), inX2, al_1 125 (by decide +kernel), tyX2_ok, nmX2⟩
theorem wX2_55 : zFw RX2 55 2 7 .int := ⟨RX2, TX2, 9, tyX2, rfl, (by decide), inX2, al_1 125 (by decide +kernel), tyX2_ok, nmX2, rfl, (by decide +kernel)⟩
theorem fX2_58 : zF RX2 58 2 8 := ⟨RX2, TX2, 9, tyX2, rfl, (by decide), inX2, al_1 127 (by decide +kernel), tyX2_ok, nmX2⟩
theorem wX2_58 : zFw RX2 58 2 8 .int := ⟨RX2, TX2, 9, tyX2, rfl, (by decide), inX2, al_1 127 (by decide +kernel), tyX2_ok, nmX2, rfl, (by decide +kernel)⟩
theorem fX2_61 : zF RX2 61 1 1 := ⟨RX1, TX1, 2, tyX1, rfl, (by decide), inX1, al_1 40 (by decide +kernel), tyX1_ok, nmX1⟩
theorem wX2_61 : zFw RX2 61 1 1 .int := ⟨RX1, TX1, 2, tyX1, rfl, (by decide), inX1, al_1 40 (by decide +kernel), tyX1_ok, nmX1, rfl, (by decide +kernel)⟩
theorem fX2_64 : zF RX2 64 4 1 := ⟨RX4, TX4, 3, tyX4, rfl, (by decide), inX4, al_1 58 (by decide +kernel), tyX4_ok, nmX4⟩
theorem wX2_64 : zFw RX2 64 4 1 .int := ⟨RX4, TX4, 3, tyX4, rfl, (by decide), inX4, al_1 58 (by decide +kernel), tyX4_ok, nmX4, rfl, (by decide +kernel)⟩
theorem fX2_67 : zF RX2 67 4 2 := ⟨RX4, TX4, 3, tyX4, rfl, (by decide), inX4, al_1 62 (by decide +kernel), tyX4_ok, nmX4⟩
theorem wX2_67 : zFw RX2 67 4 2 .int := ⟨RX4, TX4, 3, tyX4, rfl, (by decide), inX4, al_1 62 (by decide +kernel), tyX4_ok, nmX4, rfl, (by decide +kernel)⟩
theorem fX2_70 : zF RX2 70 1 0 := ⟨RX1, TX1, 2, tyX1, rfl, (by decide), inX1, al_1 36 (by decide +kernel), tyX1_ok, nmX1⟩
theorem wX2_70 : zFw RX2 70 1 0 .int := ⟨RX1, TX1, 2, tyX1, rfl, (by decide), inX1, al_1 36 (by decide +kernel), tyX1_ok, nmX1, rfl, (by decide +kernel)⟩
theorem fX2_73 : zF RX2 73 4 0 := ⟨RX4, TX4, 3, tyX4, rfl, (by decide), inX4, al_1 54 (by decide +kernel), tyX4_ok, nmX4⟩
theorem wX2_73 : zFw RX2 73 4 0 .int := ⟨RX4, TX4, 3, tyX4, rfl, (by decide), inX4, al_1 54 (by decide +kernel), tyX4_ok, nmX4, rfl, (by decide +kernel)⟩
theorem fX2_78 : zF RX2 78 3 1 := ⟨RX3, TX3, 6, tyX3, rfl, (by decide), inX3, al_1 82 (by decide +kernel), tyX3_ok, nmX3⟩
theorem wX2_78 : zFw RX2 78 3 1 .int := ⟨RX3, TX3, 6, tyX3, rfl, (by decide), inX3, al_1 82 (by decide +kernel), tyX3_ok, nmX3, rfl, (by decide +kernel)⟩
theorem fX2_81 : zF RX2 81 3 4 := ⟨RX3, TX3, 6, tyX3, rfl, (by decide), inX3, al_1 91 (by decide +kernel), tyX3_ok, nmX3⟩
theorem wX2_81 : zFw RX2 81 3 4 .int := ⟨RX3, TX3, 6, tyX3, rfl, (by decide), inX3, al_1 91 (by decide +kernel), tyX3_ok, nmX3, rfl, (by decide +kernel)⟩
theorem fX2_110 : zF RX2 110 3 3 := ⟨RX3, TX3, 6, tyX3, rfl, (by decide), inX3, al_1 88 (by decide +kernel), tyX3_ok, nmX3⟩
theorem wX2_110 : zFw RX2 110 3 3 .int := ⟨RX3, TX3, 6, tyX3, rfl, (by decide), inX3, al_1 88 (by decide +kernel), tyX3_ok, nmX3, rfl, (by decide +kernel)⟩
theorem fX2_124 : zF RX2 124 3 5 := ⟨RX3, TX3, 6, tyX3, rfl, (by decide), inX3, al_1 94 (by decide +kernel), tyX3_ok, nmX3⟩
theorem wX2_124 : zFw RX2 124 3 5 .int := ⟨RX3, TX3, 6, tyX3, rfl, (by decide), inX3, al_1 94 (by decide +kernel), tyX3_ok, nmX3, rfl, (by decide +kernel)⟩
theorem fX3_7 : zF RX3 7 3 4 := ⟨RX3, TX3, 6, tyX3, rfl, (by decide), inX3, al_1 89 (by decide +kernel), tyX3_ok, nmX3⟩
theorem wX3_7 : zFw RX3 7 3 4 .int := ⟨RX3, TX3, 6, tyX3, rfl, (by decide), inX3, al_1 89 (by decide +kernel), tyX3_ok, nmX3, rfl, (by decide +kernel)⟩
theorem fX3_13 : zF RX3 13 3 0 := ⟨RX3, TX3, 6, tyX3, rfl, (by decide), inX3, al_1 79 (by decide +kernel), tyX3_ok, nmX3⟩
theorem wX3_13 : zFw RX3 13 3 0 .int := ⟨RX3, TX3, 6, tyX3, rfl, (by decide), inX3, al_1 79 (by decide +kernel), tyX3_ok, nmX3, rfl, (by decide +kernel)⟩
theorem fX3_16 : zF RX3 16 3 1 := ⟨RX3, TX3, 6, tyX3, rfl, (by decide), inX3, al_1 81 (by decide +kernel), tyX3_ok, nmX3⟩
theorem wX3_16 : zFw RX3 16 3 1 .int := ⟨RX3, TX3, 6, tyX3, rfl, (by decide), inX3, al_1 81 (by decide +kernel), tyX3_ok, nmX3, rfl, (by decide +kernel)⟩
theorem fX3_19 : zF RX3 19 3 2 := ⟨RX3, TX3, 6, tyX3, rfl, (by decide), inX3, al_1 84 (by decide +kernel), tyX3_ok, nmX3⟩
theorem wX3_19 : zFw RX3 19 3 2 .int := ⟨RX3, TX3, 6, tyX3, rfl, (by decide), inX3, al_1 84 (by decide +kernel), tyX3_ok, nmX3, rfl, (by decide +kernel)⟩
theorem fX3_22 : zF RX3 22 3 3 := ⟨RX3, TX3, 6, tyX3, rfl, (by decide), inX3, al_1 86 (by decide +kernel), tyX3_ok, nmX3⟩
theorem wX3_22 : zFw RX3 22 3 3 .int := ⟨RX3, TX3, 6, tyX3, rfl, (by decide), inX3, al_1 86 (by decide +kernel), tyX3_ok, nmX3, rfl, (by decide +kernel)⟩
theorem fX3_25 : zF RX3 25 3 5 := ⟨RX3, TX3, 6, tyX3, rfl, (by decide), inX3, al_1 92 (by decide +kernel), tyX3_ok, nmX3⟩
theorem wX3_25 : zFw RX3 25 3 5 .int := ⟨RX3, TX3, 6, tyX3, rfl, (by decide), inX3, al_1 92 (by decide +kernel), tyX3_ok, nmX3, rfl, (by decide +kernel)⟩
theorem fX4_7 : zF RX4 7 4 0 := ⟨RX4, TX4, 3, tyX4, rfl, (by decide), inX4, al_1 53 (by decide +kernel), tyX4_ok, nmX4⟩
theorem wX4_7 : zFw RX4 7 4 0 .int := ⟨RX4, TX4, 3, tyX4, rfl, (by decide), inX4, al_1 53 (by decide +kernel), tyX4_ok, nmX4, rfl, (by decide +kernel)⟩
theorem fX4_13 : zF RX4 13 4 1 := ⟨RX4, TX4, 3, tyX4, rfl, (by decide), inX4, al_1 57 (by decide +kernel), tyX4_ok, nmX4⟩
theorem wX4_13 : zFw RX4 13 4 1 .int := ⟨RX4, TX4, 3, tyX4, rfl, (by decide), inX4, al_1 57 (by decide +kernel), tyX4_ok, nmX4, rfl, (by decide +kernel)⟩
theorem fX4_16 : zF RX4 16 4 2 := ⟨RX4, TX4, 3, tyX4, rfl, (by decide), inX4, al_1 61 (by decide +kernel), tyX4_ok, nmX4⟩
theorem wX4_16 : zFw RX4 16 4 2 .int := ⟨RX4, TX4, 3, tyX4, rfl, (by decide), inX4, al_1 61 (by decide +kernel), tyX4_ok, nmX4, rfl, (by decide +kernel)⟩
theorem fX5_9 : zF RX5 9 5 0 := ⟨RX5, TX5, 2, tyX5, rfl, (by decide), inX5, al_1 182 (by decide +kernel), tyX5_ok, nmX5⟩
theorem fX5_15 : zF RX5 15 5 1 := ⟨RX5, TX5, 2, tyX5, rfl, (by decide), inX5, al_1 183 (by decide +kernel), tyX5_ok, nmX5⟩
theorem wX5_15 : zFw RX5 15 5 1 .int := ⟨RX5, TX5, 2, tyX5, rfl, (by decide), inX5, al_1 183 (by decide +kernel), tyX5_ok, nmX5, rfl, (by decide +kernel)⟩
theorem fX5_70 : zF RX5 70 2 0 := ⟨RX2, TX2, 9, tyX2, rfl, (by decide), inX2, al_1 109 (by decide +kernel), tyX2_ok, nmX2⟩
theorem wX5_70 : zFw RX5 70 2 0 .int := ⟨RX2, TX2, 9, tyX2, rfl, (by decide), inX2, al_1 109 (by decide +kernel), tyX2_ok, nmX2, rfl, (by decide +kernel)⟩
theorem fX5_78 : zF RX5 78 2 3 := ⟨RX2, TX2, 9, tyX2, rfl, (by decide), inX2, al_1 114 (by decide +kernel), tyX2_ok, nmX2⟩
theorem fX5_88 : zF RX5 88 1 0 := ⟨RX1, TX1, 2, tyX1, rfl, (by decide), inX1, al_1 37 (by decide +kernel), tyX1_ok, nmX1⟩
theorem wX5_88 : zFw RX5 88 1 0 .int := ⟨RX1, TX1, 2, tyX1, rfl, (by decide), inX1, al_1 37 (by decide +kernel), tyX1_ok, nmX1, rfl, (by decide +kernel)⟩
theorem fX5_96 : zF RX5 96 1 1 := ⟨RX1, TX1, 2, tyX1, rfl, (by decide), inX1, al_1 41 (by decide +kernel), tyX1_ok, nmX1⟩
theorem wX5_96 : zFw RX5 96 1 1 .int := ⟨RX1, TX1, 2, tyX1, rfl, (by decide), inX1, al_1 41 (by decide +kernel), tyX1_ok, nmX1, rfl, (by decide +kernel)⟩
theorem fX5_106 : zF RX5 106 2 6 := ⟨RX2, TX2, 9, tyX2, rfl, (by decide), inX2, al_1 123 (by decide +kernel), tyX2_ok, nmX2⟩
theorem wX5_106 : zFw RX5 106 2 6 .int := ⟨RX2, TX2, 9, tyX2, rfl, (by decide), inX2, al_1 123 (by decide +kernel), tyX2_ok, nmX2, rfl, (by decide +kernel)⟩
theorem fX5_109 : zF RX5 109 2 5 := ⟨RX2, TX2, 9, tyX2, rfl, (by decide), inX2, al_1 121 (by decide +kernel), tyX2_ok, nmX2⟩
theorem fX5_115 : zF RX5 115 3 0 := ⟨RX3, TX3, 6, tyX3, rfl, (by decide), inX3, al_1 80 (by decide +kernel), tyX3_ok, nmX3⟩
theorem wX5_115 : zFw RX5 115 3 0 .int := ⟨RX3, TX3, 6, tyX3, rfl, (by decide), inX3, al_1 80 (by decide +kernel), tyX3_ok, nmX3, rfl, (by decide +kernel)⟩
theorem fX5_118 : zF RX5 118 3 1 := ⟨RX3, TX3, 6, tyX3, rfl, (by decide), inX3, al_1 83 (by decide +kernel), tyX3_ok, nmX3⟩
theorem wX5_118 : zFw RX5 118 3 1 .int := ⟨RX3, TX3, 6, tyX3, rfl, (by decide), inX3, al_1 83 (by decide +kernel), tyX3_ok, nmX3, rfl, (by decide +kernel)⟩
theorem fX5_121 : zF RX5 121 3 2 := ⟨RX3, TX3, 6, tyX3, rfl, (by decide), inX3, al_1 85 (by decide +kernel), tyX3_ok, nmX3⟩
theorem wX5_121 : zFw RX5 121 3 2 .int := ⟨RX3, TX3, 6, tyX3, rfl, (by decide), inX3, al_1 85 (by decide +kernel), tyX3_ok, nmX3, rfl, (by decide +kernel)⟩
theorem fX5_124 : zF RX5 124 3 3 := ⟨RX3, TX3, 6, tyX3, rfl, (by decide), inX3, al_1 87 (by decide +kernel), tyX3_ok, nmX3⟩
theorem wX5_124 : zFw RX5 124 3 3 .int := ⟨RX3, TX3, 6, tyX3, rfl, (by decide), inX3, al_1 87 (by decide +kernel), tyX3_ok, nmX3, rfl, (by decide +kernel)⟩
theorem fX5_127 : zF RX5 127 3 4 := ⟨RX3, TX3, 6, tyX3, rfl, (by decide), inX3, al_1 90 (by decide +kernel), tyX3_ok, nmX3⟩
theorem wX5_127 : zFw RX5 127 3 4 .int := ⟨RX3, TX3, 6, tyX3, rfl, (by decide), inX3, al_1 90 (by decide +kernel), tyX3_ok, nmX3, rfl, (by decide +kernel)⟩
theorem fX5_130 : zF RX5 130 3 5 := ⟨RX3, TX3, 6, tyX3, rfl, (by decide), inX3, al_1 93 (by decide +kernel), tyX3_ok, nmX3⟩
theorem wX5_130 : zFw RX5 130 3 5 .int := ⟨RX3, TX3, 6, tyX3, rfl, (by decide), inX3, al_1 93 (by decide +kernel), tyX3_ok, nmX3, rfl, (by decide +kernel)⟩
theorem fX5_147 : zF RX5 147 2 4 := ⟨RX2, TX2, 9, tyX2, rfl, (by decide), inX2, al_1 117 (by decide +kernel), tyX2_ok, nmX2⟩
theorem fX5_153 : zF RX5 153 4 0 := ⟨RX4, TX4, 3, tyX4, rfl, (by decide), inX4, al_1 55 (by decide +kernel), tyX4_ok, nmX4⟩
theorem wX5_153 : zFw RX5 153 4 0 .int := ⟨RX4, TX4, 3, tyX4, rfl, (by decide), inX4, al_1 55 (by decide +kernel), tyX4_ok, nmX4, rfl, (by decide +kernel)⟩
theorem fX5_156 : zF RX5 156 4 1 := ⟨RX4, TX4, 3, tyX4, rfl, (by decide), inX4, al_1 59 (by decide +kernel), tyX4_ok, nmX4⟩
theorem wX5_156 : zFw RX5 156 4 1 .int := ⟨RX4, TX4, 3, tyX4, rfl, (by decide), inX4, al_1 59 (by decide +kernel), tyX4_ok, nmX4, rfl, (by decide +kernel)⟩
theorem fX5_159 : zF RX5 159 4 2 := ⟨RX4, TX4, 3, tyX4, rfl, (by decide), inX4, al_1 63 (by decide +kernel), tyX4_ok, nmX4⟩
theorem wX5_159 : zFw RX5 159 4 2 .int := ⟨RX4, TX4, 3, tyX4, rfl, (by decide), inX4, al_1 63 (by decide +kernel), tyX4_ok, nmX4, rfl, (by decide +kernel)⟩
theorem fX5_162 : zF RX5 162 2 8 := ⟨RX2, TX2, 9, tyX2, rfl, (by decide), inX2, al_1 128 (by decide +kernel), tyX2_ok, nmX2⟩
theorem wX5_162 : zFw RX5 162 2 8 .int := ⟨RX2, TX2, 9, tyX2, rfl, (by decide), inX2, al_1 128 (by decide +kernel), tyX2_ok, nmX2, rfl, (by decide +kernel)⟩
theorem fX7_7 : zF RX7 7 7 0 := ⟨RX7, TX7, 36, tyX7, rfl, (by decide), inX7, al_4 21 (by decide +kernel), tyX7_ok, nmX7⟩
theorem fX7_13 : zF RX7 13 7 1 := ⟨RX7, TX7, 36, tyX7, rfl, (by decide), inX7, al_4 22 (by decide +kernel), tyX7_ok, nmX7⟩
theorem fX7_16 : zF RX7 16 7 2 := ⟨RX7, TX7, 36, tyX7, rfl, (by decide), inX7, al_4 23 (by decide +kernel), tyX7_ok, nmX7⟩
theorem fX7_19 : zF RX7 19 7 3 := ⟨RX7, TX7, 36, tyX7, rfl, (by decide), inX7, al_4 24 (by decide +kernel), tyX7_ok, nmX7⟩
theorem fX7_22 : zF RX7 22 7 4 := ⟨RX7, TX7, 36, tyX7, rfl, (by decide), inX7, al_4 25 (by decide +kernel), tyX7_ok, nmX7⟩
theorem fX7_25 : zF RX7 25 7 5 := ⟨RX7, TX7, 36, tyX7, rfl, (by decide), inX7, al_4 26 (by decide +kernel), tyX7_ok, nmX7⟩
theorem fX7_28 : zF RX7 28 7 6 := ⟨RX7, TX7, 36, tyX7, rfl, (by decide), inX7, al_4 27 (by decide +kernel), tyX7_ok, nmX7⟩
theorem fX7_31 : zF RX7 31 7 7 := ⟨RX7, TX7, 36, tyX7, rfl, (by decide), inX7, al_4 28 (by decide +kernel), tyX7_ok, nmX7⟩
theorem fX7_34 : zF RX7 34 7 13 := ⟨RX7, TX7, 36, tyX7, rfl, (by decide), inX7, al_4 34 (by decide +kernel), tyX7_ok, nmX7⟩
theorem fX7_37 : zF RX7 37 7 14 := ⟨RX7, TX7, 36, tyX7, rfl, (by decide), inX7, al_4 35 (by decide +kernel), tyX7_ok, nmX7⟩
theorem fX7_40 : zF RX7 40 7 15 := ⟨RX7, TX7, 36, tyX7, rfl, (by decide), inX7, al_4 36 (by decide +kernel), tyX7_ok, nmX7⟩
theorem fX7_43 : zF RX7 43 7 16 := ⟨RX7, TX7, 36, tyX7, rfl, (by decide), inX7, al_4 37 (by decide +kernel), tyX7_ok, nmX7⟩
theorem fX7_46 : zF RX7 46 7 20 := ⟨RX7, TX7, 36, tyX7, rfl, (by decide), inX7, al_4 41 (by decide +kernel), tyX7_ok, nmX7⟩
theorem fX7_49 : zF RX7 49 7 24 := ⟨RX7, TX7, 36, tyX7, rfl, (by decide), inX7, al_4 45 (by decide +kernel), tyX7_ok, nmX7⟩
theorem fX7_52 : zF RX7 52 7 25 := ⟨RX7, TX7, 36, tyX7, rfl, (by decide), inX7, al_4 46 (by decide +kernel), tyX7_ok, nmX7⟩
theorem fX7_55 : zF RX7 55 7 26 := ⟨RX7, TX7, 36, tyX7, rfl, (by decide), inX7, al_4 47 (by decide +kernel), tyX7_ok, nmX7⟩
theorem fX7_58 : zF RX7 58 7 27 := ⟨RX7, TX7, 36, tyX7, rfl, (by decide), inX7, al_4 48 (by decide +kernel), tyX7_ok, nmX7⟩
theorem fX7_61 : zF RX7 61 7 34 := ⟨RX7, TX7, 36, tyX7, rfl, (by decide), inX7, al_4 55 (by decide +kernel), tyX7_ok, nmX7⟩
theorem fX7_65 : zF RX7 65 7 8 := ⟨RX7, TX7, 36, tyX7, rfl, (by decide), inX7, al_4 29 (by decide +kernel), tyX7_ok, nmX7⟩
theorem wX7_65 : zFw RX7 65 7 8 .int := ⟨RX7, TX7, 36, tyX7, rfl, (by decide), inX7, al_4 29 (by decide +kernel), tyX7_ok, nmX7, rfl, (by decide +kernel)⟩
theorem fX7_73 : zF RX7 73 7 17 := ⟨RX7, TX7, 36, tyX7, rfl, (by decide), inX7, al_4 38 (by decide +kernel), tyX7_ok, nmX7⟩
theorem wX7_73 : zFw RX7 73 7 17 .int := ⟨RX7, TX7, 36, tyX7, rfl, (by decide), inX7, al_4 38 (by decide +kernel), tyX7_ok, nmX7, rfl, (by decide +kernel)⟩
theorem fX7_80 : zF RX7 80 7 18 := ⟨RX7, TX7, 36, tyX7, rfl, (by decide), inX7, al_4 39 (by decide +kernel), tyX7_ok, nmX7⟩
theorem wX7_80 : zFw RX7 80 7 18 .int := ⟨RX7, TX7, 36, tyX7, rfl, (by decide), inX7, al_4 39 (by decide +kernel), tyX7_ok, nmX7, rfl, (by decide +kernel)⟩
theorem fX7_114 : zF RX7 114 7 19 := ⟨RX7, TX7, 36, tyX7, rfl, (by decide), inX7, al_4 40 (by decide +kernel), tyX7_ok, nmX7⟩
theorem wX7_114 : zFw RX7 114 7 19 .int := ⟨RX7, TX7, 36, tyX7, rfl, (by decide), inX7, al_4 40 (by decide +kernel), tyX7_ok, nmX7, rfl, (by decide +kernel)⟩
theorem fX7_132 : zF RX7 132 7 9 := ⟨RX7, TX7, 36, tyX7, rfl, (by decide), inX7, al_4 30 (by decide +kernel), tyX7_ok, nmX7⟩
theorem wX7_132 : zFw RX7 132 7 9 .int := ⟨RX7, TX7, 36, tyX7, rfl, (by decide), inX7, al_4 30 (by decide +kernel), tyX7_ok, nmX7, rfl, (by decide +kernel)⟩
theorem fX7_135 : zF RX7 135 7 10 := ⟨RX7, TX7, 36, tyX7, rfl, (by decide), inX7, al_4 31 (by decide +kernel), tyX7_ok, nmX7⟩
theorem wX7_135 : zFw RX7 135 7 10 .int := ⟨RX7, TX7, 36, tyX7, rfl, (by decide), inX7, al_4 31 (by decide +kernel), tyX7_ok, nmX7, rfl, (by decide +kernel)⟩
theorem fX7_138 : zF RX7 138 7 12 := ⟨RX7, TX7, 36, tyX7, rfl, (by decide), inX7, al_4 33 (by decide +kernel), tyX7_ok, nmX7⟩
theorem wX7_138 : zFw RX7 138 7 12 .int := ⟨RX7, TX7, 36, tyX7, rfl, (by decide), inX7, al_4 33 (by decide +kernel), tyX7_ok, nmX7, rfl, (by decide +kernel)⟩
theorem fX7_156 : zF RX7 156 7 22 := ⟨RX7, TX7, 36, tyX7, rfl, (by decide), inX7, al_4 43 (by decide +kernel), tyX7_ok, nmX7⟩
theorem wX7_156 : zFw RX7 156 7 22 .boolean := ⟨RX7, TX7, 36, tyX7, rfl, (by decide), inX7, al_4 43 (by decide +kernel), tyX7_ok, nmX7, rfl, (by decide +kernel)⟩
theorem fX7_160 : zF RX7 160 7 23 := ⟨RX7, TX7, 36, tyX7, rfl, (by decide), inX7, al_4 44 (by decide +kernel), tyX7_ok, nmX7⟩
theorem wX7_160 : zFw RX7 160 7 23 .int := ⟨RX7, TX7, 36, tyX7, rfl, (by decide), inX7, al_4 44 (by decide +kernel), tyX7_ok, nmX7, rfl, (by decide +kernel)⟩
theorem fX7_170 : zF RX7 170 7 11 := ⟨RX7, TX7, 36, tyX7, rfl, (by decide), inX7, al_4 32 (by decide +kernel), tyX7_ok, nmX7⟩
theorem wX7_170 : zFw RX7 170 7 11 .int := ⟨RX7, TX7, 36, tyX7, rfl, (by decide), inX7, al_4 32 (by decide +kernel), tyX7_ok, nmX7, rfl, (by decide +kernel)⟩
theorem fX7_173 : zF RX7 173 7 21 := ⟨RX7, TX7, 36, tyX7, rfl, (by decide), inX7, al_4 42 (by decide +kernel), tyX7_ok, nmX7⟩
theorem wX7_173 : zFw RX7 173 7 21 .boolean := ⟨RX7, TX7, 36, tyX7, rfl, (by decide), inX7, al_4 42 (by decide +kernel), tyX7_ok, nmX7, rfl, (by decide +kernel)⟩
theorem fX7_191 : zF RX7 191 7 28 := ⟨RX7, TX7, 36, tyX7, rfl, (by decide), inX7, al_4 49 (by decide +kernel), tyX7_ok, nmX7⟩
theorem wX7_191 : zFw RX7 191 7 28 .int := ⟨RX7, TX7, 36, tyX7, rfl, (by decide), inX7, al_4 49 (by decide +kernel), tyX7_ok, nmX7, rfl, (by decide +kernel)⟩
theorem fX7_194 : zF RX7 194 7 29 := ⟨RX7, TX7, 36, tyX7, rfl, (by decide), inX7, al_4 50 (by decide +kernel), tyX7_ok, nmX7⟩
theorem wX7_194 : zFw RX7 194 7 29 .int := ⟨RX7, TX7, 36, tyX7, rfl, (by decide), inX7, al_4 50 (by decide +kernel), tyX7_ok, nmX7, rfl, (by decide +kernel)⟩
theorem fX7_197 : zF RX7 197 7 30 := ⟨RX7, TX7, 36, tyX7, rfl, (by decide), inX7, al_4 51 (by decide +kernel), tyX7_ok, nmX7⟩
theorem wX7_197 : zFw RX7 197 7 30 .int := ⟨RX7, TX7, 36, tyX7, rfl, (by decide), inX7, al_4 51 (by decide +kernel), tyX7_ok, nmX7, rfl, (by decide +kernel)⟩
theorem fX7_200 : zF RX7 200 7 31 := ⟨RX7, TX7, 36, tyX7, rfl, (by decide), inX7, al_4 52 (by decide +kernel), tyX7_ok, nmX7⟩
theorem wX7_200 : zFw RX7 200 7 31 .int := ⟨RX7, TX7, 36, tyX7, rfl, (by decide), inX7, al_4 52 (by decide +kernel), tyX7_ok, nmX7, rfl, (by decide +kernel)⟩
theorem fX7_203 : zF RX7 203 7 32 := ⟨RX7, TX7, 36, tyX7, rfl, (by decide), inX7, al_4 53 (by decide +kernel), tyX7_ok, nmX7⟩
theorem wX7_203 : zFw RX7 203 7 32 .int := ⟨RX7, TX7, 36, tyX7, rfl, (by decide), inX7, al_4 53 (by decide +kernel), tyX7_ok, nmX7, rfl, (by decide +kernel)⟩
theorem fX7_206 : zF RX7 206 7 33 := ⟨RX7, TX7, 36, tyX7, rfl, (by decide), inX7, al_4 54 (by decide +kernel), tyX7_ok, nmX7⟩
theorem wX7_206 : zFw RX7 206 7 33 .int := ⟨RX7, TX7, 36, tyX7, rfl, (by decide), inX7, al_4 54 (by decide +kernel), tyX7_ok, nmX7, rfl, (by decide +kernel)⟩
theorem fX7_274 : zF RX7 274 7 35 := ⟨RX7, TX7, 36, tyX7, rfl, (by decide), inX7, al_4 56 (by decide +kernel), tyX7_ok, nmX7⟩
theorem wX7_274 : zFw RX7 274 7 35 .int := ⟨RX7, TX7, 36, tyX7, rfl, (by decide), inX7, al_4 56 (by decide +kernel), tyX7_ok, nmX7, rfl, (by decide +kernel)⟩
theorem sJ0_9 : Cond.fieldLink RJ0 9 "java/lang/String" "value" "[B" ∈ zAL := al_5 206 (by decide +kernel)
theorem sJ0_15 : Cond.fieldLink RJ0 15 "java/lang/String" "coder" "B" ∈ zAL := al_5 207 (by decide +kernel)
theorem sJ0_38 : Cond.fieldLink RJ0 38 "java/lang/String" "COMPACT_STRINGS" "Z" ∈ zAL := al_2 11 (by decide +kernel)
theorem sJ0_1053 : Cond.fieldLink RJ0 1053 "jdk/internal/util/Preconditions" "SIOOBE_FORMATTER" "Ljava/util/function/BiFunction;" ∈ zAL := al_2 27 (by decide +kernel)
theorem lX6_43 : Cond.methodLink RX6 43 yX6_outside ∈ zAL := al_1 223 (by decide +kernel)
theorem lX6_51 : Cond.methodLink RX6 51 yX6_refuse ∈ zAL := al_1 226 (by decide +kernel)
theorem lX6_55 : Cond.methodLink RX6 55 yX5_add ∈ zAL := al_1 230 (by decide +kernel)
theorem lX6_59 : Cond.methodLink RX6 59 yX5_firstUnfit ∈ zAL := al_1 238 (by decide +kernel)
theorem lX6_63 : Cond.methodLink RX6 63 yX6_tellAll ∈ zAL := al_2 134 (by decide +kernel)
theorem lX6_66 : Cond.methodLink RX6 66 yX2_has ∈ zAL := al_3 60 (by decide +kernel)
theorem lX6_74 : Cond.methodLink RX6 74 yX3_detail ∈ zAL := al_3 61 (by decide +kernel)
theorem lX6_79 : Cond.methodLink RX6 79 yX3_botheredBy ∈ zAL := al_3 69 (by decide +kernel)
theorem lX6_82 : Cond.methodLink RX6 82 yX6_refuseTold ∈ zAL := al_3 74 (by decide +kernel)
theorem lX6_85 : Cond.methodLink RX6 85 yX2_told ∈ zAL := al_3 79 (by decide +kernel)
theorem lX6_94 : Cond.methodLink RX6 94 yX2_change ∈ zAL := al_3 86 (by decide +kernel)
theorem lX6_102 : Cond.methodLink RX6 102 yX1_amountIn ∈ zAL := al_3 99 (by decide +kernel)
theorem lX6_110 : Cond.methodLink RX6 110 yX0_clear ∈ zAL := al_2 158 (by decide +kernel)
theorem lX6_113 : Cond.methodLink RX6 113 yX2_passMinutes ∈ zAL := al_3 104 (by decide +kernel)
theorem lX6_117 : Cond.methodLink RX6 117 yX0_allUps ∈ zAL := al_3 105 (by decide +kernel)
theorem lX6_120 : Cond.methodLink RX6 120 yX6_think ∈ zAL := al_2 138 (by decide +kernel)
theorem lX6_123 : Cond.methodLink RX6 123 yX6_playInMind ∈ zAL := al_3 116 (by decide +kernel)
theorem lX6_127 : Cond.methodLink RX6 127 yX0_told ∈ zAL := al_3 124 (by decide +kernel)
theorem lX6_131 : Cond.methodLink RX6 131 yX0_toldOf ∈ zAL := al_3 138 (by decide +kernel)
theorem lX6_134 : Cond.methodLink RX6 134 yX6_leastCostly ∈ zAL := al_3 146 (by decide +kernel)
theorem lX6_141 : Cond.methodLink RX6 141 yX6_savedByFineHands ∈ zAL := al_3 154 (by decide +kernel)
theorem lX6_144 : Cond.methodLink RX6 144 yX6_minutesHeld ∈ zAL := al_3 182 (by decide +kernel)
theorem lX6_153 : Cond.methodLink RX6 153 yX6_rulesKept ∈ zAL := al_3 215 (by decide +kernel)
theorem lX6_156 : Cond.methodLink RX6 156 yX6_limitsKept ∈ zAL := al_3 224 (by decide +kernel)
theorem lX6_159 : Cond.methodLink RX6 159 yX6_firstUnlike ∈ zAL := al_3 219 (by decide +kernel)
theorem lX6_165 : Cond.methodLink RX6 165 yX2_become ∈ zAL := al_2 142 (by decide +kernel)
theorem lX6_192 : Cond.methodLink RX6 192 yX2_allMinds ∈ zAL := al_4 11 (by decide +kernel)
theorem lX6_196 : Cond.methodLink RX6 196 yX5_tellTo ∈ zAL := al_2 162 (by decide +kernel)
theorem lX6_200 : Cond.methodLink RX6 200 yX5_shapeAt ∈ zAL := al_3 53 (by decide +kernel)
theorem lX6_204 : Cond.methodLink RX6 204 yJ0_length_8abf5 ∈ zAL := al_3 54 (by decide +kernel)
theorem lX6_209 : Cond.methodLink RX6 209 yX0_allCost ∈ zAL := al_3 120 (by decide +kernel)
theorem lX6_212 : Cond.methodLink RX6 212 yX2_refineHands ∈ zAL := al_3 158 (by decide +kernel)
theorem lX6_216 : Cond.methodLink RX6 216 yX2_driftOnce ∈ zAL := al_3 186 (by decide +kernel)
theorem lX6_219 : Cond.methodLink RX6 219 yX2_isOffEither ∈ zAL := al_3 187 (by decide +kernel)
theorem lX6_223 : Cond.methodLink RX6 223 yX6_held ∈ zAL := al_3 223 (by decide +kernel)
theorem lX0_37 : Cond.methodLink RX0 37 yX0_allCost ∈ zAL := al_3 128 (by decide +kernel)
theorem lX0_41 : Cond.methodLink RX0 41 yX0_allUps ∈ zAL := al_3 129 (by decide +kernel)
theorem lX0_44 : Cond.methodLink RX0 44 yX0_sum ∈ zAL := al_3 109 (by decide +kernel)
theorem lX1_16 : Cond.methodLink RX1 16 yX1_swinging ∈ zAL := al_2 223 (by decide +kernel)
theorem lX1_20 : Cond.methodLink RX1 20 yX1_cooled ∈ zAL := al_2 227 (by decide +kernel)
theorem lX2_42 : Cond.methodLink RX2 42 yX1_become ∈ zAL := al_2 146 (by decide +kernel)
theorem lX2_46 : Cond.methodLink RX2 46 yX4_become ∈ zAL := al_2 150 (by decide +kernel)
theorem lX2_52 : Cond.methodLink RX2 52 yX3_become ∈ zAL := al_2 154 (by decide +kernel)
theorem lX2_74 : Cond.methodLink RX2 74 yX2_told ∈ zAL := al_2 194 (by decide +kernel)
theorem lX2_84 : Cond.methodLink RX2 84 yX2_driftOnce ∈ zAL := al_2 215 (by decide +kernel)
theorem lX2_88 : Cond.methodLink RX2 88 yX2_letOneGetUp ∈ zAL := al_2 236 (by decide +kernel)
theorem lX2_92 : Cond.methodLink RX2 92 yX2_botherAll ∈ zAL := al_3 32 (by decide +kernel)
theorem lX2_96 : Cond.methodLink RX2 96 yX1_amountIn ∈ zAL := al_2 219 (by decide +kernel)
theorem lX2_103 : Cond.methodLink RX2 103 yX2_off ∈ zAL := al_3 4 (by decide +kernel)
theorem lX2_106 : Cond.methodLink RX2 106 yX2_has ∈ zAL := al_3 0 (by decide +kernel)
theorem lX2_113 : Cond.methodLink RX2 113 yX4_rouses ∈ zAL := al_3 11 (by decide +kernel)
theorem lX2_117 : Cond.methodLink RX2 117 yX4_aim ∈ zAL := al_3 15 (by decide +kernel)
theorem lX2_120 : Cond.methodLink RX2 120 yX3_turned ∈ zAL := al_3 23 (by decide +kernel)
theorem lX2_127 : Cond.methodLink RX2 127 yX0_noteUp ∈ zAL := al_3 28 (by decide +kernel)
theorem lX2_133 : Cond.methodLink RX2 133 yX3_botheredBy ∈ zAL := al_3 36 (by decide +kernel)
theorem lX2_136 : Cond.methodLink RX2 136 yX0_noteBother ∈ zAL := al_3 44 (by decide +kernel)
theorem lX2_139 : Cond.methodLink RX2 139 yX0_noteOff ∈ zAL := al_3 48 (by decide +kernel)
theorem lX3_28 : Cond.methodLink RX3 28 yX3_deafTo ∈ zAL := al_3 40 (by decide +kernel)
theorem lX4_19 : Cond.methodLink RX4 19 yX4_against ∈ zAL := al_3 19 (by decide +kernel)
theorem lX5_19 : Cond.methodLink RX5 19 yX5_signAt ∈ zAL := al_2 51 (by decide +kernel)
theorem lX5_37 : Cond.methodLink RX5 37 yJ0_length_8abf5 ∈ zAL := al_2 3 (by decide +kernel)
theorem lX5_43 : Cond.methodLink RX5 43 yJ0_charAt_5068e ∈ zAL := al_2 13 (by decide +kernel)
theorem lX5_46 : Cond.methodLink RX5 46 yX5_fits ∈ zAL := al_2 55 (by decide +kernel)
theorem lX5_50 : Cond.methodLink RX5 50 yX5_shapeAt ∈ zAL := al_2 120 (by decide +kernel)
theorem lX5_54 : Cond.methodLink RX5 54 yJ0_isEmpty_aae02 ∈ zAL := al_2 130 (by decide +kernel)
theorem lX5_58 : Cond.methodLink RX5 58 yX5_tellPerson ∈ zAL := al_2 166 (by decide +kernel)
theorem lX5_62 : Cond.methodLink RX5 62 yX5_numberAt ∈ zAL := al_2 178 (by decide +kernel)
theorem lX5_66 : Cond.methodLink RX5 66 yX5_signedAt ∈ zAL := al_2 182 (by decide +kernel)
theorem lX5_75 : Cond.methodLink RX5 75 yX5_tellStation ∈ zAL := al_2 186 (by decide +kernel)
theorem lX5_84 : Cond.methodLink RX5 84 yX5_kindAt ∈ zAL := al_2 174 (by decide +kernel)
theorem lX5_93 : Cond.methodLink RX5 93 yX5_digitAt ∈ zAL := al_2 170 (by decide +kernel)
theorem lX5_99 : Cond.methodLink RX5 99 yX5_tellRule ∈ zAL := al_2 198 (by decide +kernel)
theorem lX5_102 : Cond.methodLink RX5 102 yX5_tellMinutes ∈ zAL := al_2 207 (by decide +kernel)
theorem lX5_133 : Cond.methodLink RX5 133 yX2_change ∈ zAL := al_2 190 (by decide +kernel)
theorem lX5_165 : Cond.methodLink RX5 165 yX2_passMinutes ∈ zAL := al_2 211 (by decide +kernel)
theorem lX5_169 : Cond.methodLink RX5 169 yJ0_indexOf_0f7a4 ∈ zAL := al_2 59 (by decide +kernel)
theorem lL_13 : Cond.methodLink RL 13 yX6_letter ∈ zAL := al_1 219 (by decide +kernel)
theorem lL_17 : Cond.methodLink RL 17 yX7_letter ∈ zAL := al_4 130 (by decide +kernel)
theorem lL_18 : Cond.methodLink RL 18 yX6_parlour ∈ zAL := al_1 234 (by decide +kernel)
theorem lL_22 : Cond.methodLink RL 22 yX7_parlour ∈ zAL := al_4 141 (by decide +kernel)
theorem lL_23 : Cond.methodLink RL 23 yX6_person ∈ zAL := al_3 56 (by decide +kernel)
theorem lL_27 : Cond.methodLink RL 27 yX7_person ∈ zAL := al_5 34 (by decide +kernel)
theorem lL_28 : Cond.methodLink RL 28 yX6_bothers ∈ zAL := al_3 65 (by decide +kernel)
theorem lL_31 : Cond.methodLink RL 31 yX7_bothers ∈ zAL := al_5 42 (by decide +kernel)
theorem lL_32 : Cond.methodLink RL 32 yX6_place ∈ zAL := al_3 70 (by decide +kernel)
theorem lL_35 : Cond.methodLink RL 35 yX7_place ∈ zAL := al_5 46 (by decide +kernel)
theorem lL_36 : Cond.methodLink RL 36 yX6_set ∈ zAL := al_3 80 (by decide +kernel)
theorem lL_39 : Cond.methodLink RL 39 yX7_set ∈ zAL := al_5 55 (by decide +kernel)
theorem lL_40 : Cond.methodLink RL 40 yX6_kind ∈ zAL := al_3 87 (by decide +kernel)
theorem lL_43 : Cond.methodLink RL 43 yX7_kind ∈ zAL := al_5 59 (by decide +kernel)
theorem lL_44 : Cond.methodLink RL 44 yX6_turn ∈ zAL := al_3 91 (by decide +kernel)
theorem lL_47 : Cond.methodLink RL 47 yX7_turn ∈ zAL := al_5 63 (by decide +kernel)
theorem lL_48 : Cond.methodLink RL 48 yX6_drifts ∈ zAL := al_3 95 (by decide +kernel)
theorem lL_51 : Cond.methodLink RL 51 yX7_drifts ∈ zAL := al_5 67 (by decide +kernel)
theorem lL_52 : Cond.methodLink RL 52 yX6_go ∈ zAL := al_3 100 (by decide +kernel)
theorem lL_55 : Cond.methodLink RL 55 yX7_go ∈ zAL := al_5 71 (by decide +kernel)
theorem lL_56 : Cond.methodLink RL 56 yX6_cost ∈ zAL := al_3 112 (by decide +kernel)
theorem lL_59 : Cond.methodLink RL 59 yX7_cost ∈ zAL := al_5 75 (by decide +kernel)
theorem lL_60 : Cond.methodLink RL 60 yX6_at ∈ zAL := al_3 130 (by decide +kernel)
theorem lL_63 : Cond.methodLink RL 63 yX7_at ∈ zAL := al_5 87 (by decide +kernel)
theorem lL_64 : Cond.methodLink RL 64 yX6_of ∈ zAL := al_3 134 (by decide +kernel)
theorem lL_68 : Cond.methodLink RL 68 yX7_of ∈ zAL := al_5 91 (by decide +kernel)
theorem lL_69 : Cond.methodLink RL 69 yX6_best ∈ zAL := al_3 142 (by decide +kernel)
theorem lL_72 : Cond.methodLink RL 72 yX7_best ∈ zAL := al_5 99 (by decide +kernel)
theorem lL_73 : Cond.methodLink RL 73 yX6_finer ∈ zAL := al_3 150 (by decide +kernel)
theorem lL_76 : Cond.methodLink RL 76 yX7_finer ∈ zAL := al_5 127 (by decide +kernel)
theorem lL_77 : Cond.methodLink RL 77 yX6_mark ∈ zAL := al_3 162 (by decide +kernel)
theorem lL_80 : Cond.methodLink RL 80 yX7_mark ∈ zAL := al_5 131 (by decide +kernel)
theorem lL_81 : Cond.methodLink RL 81 yX6_most ∈ zAL := al_3 166 (by decide +kernel)
theorem lL_84 : Cond.methodLink RL 84 yX7_most ∈ zAL := al_5 135 (by decide +kernel)
theorem lL_85 : Cond.methodLink RL 85 yX6_between ∈ zAL := al_3 170 (by decide +kernel)
theorem lL_88 : Cond.methodLink RL 88 yX7_between ∈ zAL := al_5 139 (by decide +kernel)
theorem lL_89 : Cond.methodLink RL 89 yX6_leave ∈ zAL := al_3 174 (by decide +kernel)
theorem lL_92 : Cond.methodLink RL 92 yX7_leave ∈ zAL := al_5 143 (by decide +kernel)
theorem lL_93 : Cond.methodLink RL 93 yX6_holds ∈ zAL := al_3 178 (by decide +kernel)
theorem lL_96 : Cond.methodLink RL 96 yX7_holds ∈ zAL := al_5 147 (by decide +kernel)
theorem lL_97 : Cond.methodLink RL 97 yX6_setAt ∈ zAL := al_3 191 (by decide +kernel)
theorem lL_100 : Cond.methodLink RL 100 yX7_setAt ∈ zAL := al_5 159 (by decide +kernel)
theorem lL_101 : Cond.methodLink RL 101 yX6_steadyFrom ∈ zAL := al_3 195 (by decide +kernel)
theorem lL_104 : Cond.methodLink RL 104 yX7_steadyFrom ∈ zAL := al_5 163 (by decide +kernel)
theorem lL_105 : Cond.methodLink RL 105 yX6_whoLast ∈ zAL := al_3 199 (by decide +kernel)
theorem lL_108 : Cond.methodLink RL 108 yX7_whoLast ∈ zAL := al_5 171 (by decide +kernel)
theorem lL_109 : Cond.methodLink RL 109 yX6_when ∈ zAL := al_3 203 (by decide +kernel)
theorem lL_112 : Cond.methodLink RL 112 yX7_when ∈ zAL := al_5 175 (by decide +kernel)
theorem lL_113 : Cond.methodLink RL 113 yX6_row ∈ zAL := al_3 207 (by decide +kernel)
theorem lL_116 : Cond.methodLink RL 116 yX7_row ∈ zAL := al_5 179 (by decide +kernel)
theorem lL_117 : Cond.methodLink RL 117 yX6_kept ∈ zAL := al_3 211 (by decide +kernel)
theorem lL_120 : Cond.methodLink RL 120 yX7_kept ∈ zAL := al_5 183 (by decide +kernel)
theorem lL_121 : Cond.methodLink RL 121 yX6_judge ∈ zAL := al_3 228 (by decide +kernel)
theorem lL_124 : Cond.methodLink RL 124 yX7_judge ∈ zAL := al_5 191 (by decide +kernel)
theorem lL_125 : Cond.methodLink RL 125 yX6_lots ∈ zAL := al_3 232 (by decide +kernel)
theorem lL_128 : Cond.methodLink RL 128 yX7_lots ∈ zAL := al_5 195 (by decide +kernel)
theorem lL_129 : Cond.methodLink RL 129 yX6_image ∈ zAL := al_3 239 (by decide +kernel)
theorem lL_132 : Cond.methodLink RL 132 yX7_image ∈ zAL := al_5 26 (by decide +kernel)
theorem lL_133 : Cond.methodLink RL 133 yX6_on ∈ zAL := al_4 3 (by decide +kernel)
theorem lL_136 : Cond.methodLink RL 136 yX7_on ∈ zAL := al_5 30 (by decide +kernel)
theorem lL_137 : Cond.methodLink RL 137 yX6_count ∈ zAL := al_4 7 (by decide +kernel)
theorem lL_140 : Cond.methodLink RL 140 yX7_count ∈ zAL := al_5 202 (by decide +kernel)
theorem lX7_69 : Cond.methodLink RX7 69 yX7_bound ∈ zAL := al_4 134 (by decide +kernel)
theorem lX7_76 : Cond.methodLink RX7 76 yX7_no ∈ zAL := al_4 137 (by decide +kernel)
theorem lX7_83 : Cond.methodLink RX7 83 yX7_next ∈ zAL := al_4 149 (by decide +kernel)
theorem lX7_87 : Cond.methodLink RX7 87 yX7_isIn ∈ zAL := al_4 172 (by decide +kernel)
theorem lX7_91 : Cond.methodLink RX7 91 yX7_readsDigits ∈ zAL := al_4 168 (by decide +kernel)
theorem lX7_95 : Cond.methodLink RX7 95 yX7_personOf ∈ zAL := al_4 161 (by decide +kernel)
theorem lX7_98 : Cond.methodLink RX7 98 yX7_readsKind ∈ zAL := al_4 164 (by decide +kernel)
theorem lX7_101 : Cond.methodLink RX7 101 yX7_readsPerson ∈ zAL := al_4 157 (by decide +kernel)
theorem lX7_105 : Cond.methodLink RX7 105 yX7_readsSigned ∈ zAL := al_4 175 (by decide +kernel)
theorem lX7_108 : Cond.methodLink RX7 108 yX7_driftOf ∈ zAL := al_4 179 (by decide +kernel)
theorem lX7_111 : Cond.methodLink RX7 111 yX7_ruleOf ∈ zAL := al_4 182 (by decide +kernel)
theorem lX7_117 : Cond.methodLink RX7 117 yX7_readsAll ∈ zAL := al_4 153 (by decide +kernel)
theorem lX7_120 : Cond.methodLink RX7 120 yX7_leastOf ∈ zAL := al_4 209 (by decide +kernel)
theorem lX7_123 : Cond.methodLink RX7 123 yX7_mostOf ∈ zAL := al_4 212 (by decide +kernel)
theorem lX7_126 : Cond.methodLink RX7 126 yX7_comesPerson ∈ zAL := al_4 201 (by decide +kernel)
theorem lX7_129 : Cond.methodLink RX7 129 yX7_comesSet ∈ zAL := al_4 205 (by decide +kernel)
theorem lX7_141 : Cond.methodLink RX7 141 yX7_goes ∈ zAL := al_4 215 (by decide +kernel)
theorem lX7_145 : Cond.methodLink RX7 145 yX7_statement ∈ zAL := al_4 145 (by decide +kernel)
theorem lX7_149 : Cond.methodLink RX7 149 yX7_passesAll ∈ zAL := al_4 185 (by decide +kernel)
theorem lX7_153 : Cond.methodLink RX7 153 yX7_comes ∈ zAL := al_4 197 (by decide +kernel)
theorem lX7_163 : Cond.methodLink RX7 163 yX7_passes ∈ zAL := al_4 189 (by decide +kernel)
theorem lX7_167 : Cond.methodLink RX7 167 yX7_passOne ∈ zAL := al_4 193 (by decide +kernel)
theorem lX7_176 : Cond.methodLink RX7 176 yX7_size ∈ zAL := al_4 239 (by decide +kernel)
theorem lX7_179 : Cond.methodLink RX7 179 yX7_swinging ∈ zAL := al_4 231 (by decide +kernel)
theorem lX7_182 : Cond.methodLink RX7 182 yX7_cooling ∈ zAL := al_4 235 (by decide +kernel)
theorem lX7_185 : Cond.methodLink RX7 185 yX7_placeOf ∈ zAL := al_5 6 (by decide +kernel)
theorem lX7_188 : Cond.methodLink RX7 188 yX7_driftIn ∈ zAL := al_4 227 (by decide +kernel)
theorem lX7_209 : Cond.methodLink RX7 209 yX7_shouldBe ∈ zAL := al_5 14 (by decide +kernel)
theorem lX7_212 : Cond.methodLink RX7 212 yX7_turnsTo ∈ zAL := al_5 18 (by decide +kernel)
theorem lX7_216 : Cond.methodLink RX7 216 yX7_isUp ∈ zAL := al_5 2 (by decide +kernel)
theorem lX7_219 : Cond.methodLink RX7 219 yX7_getsUp ∈ zAL := al_5 10 (by decide +kernel)
theorem lX7_222 : Cond.methodLink RX7 222 yX7_botherOf ∈ zAL := al_5 22 (by decide +kernel)
theorem lX7_226 : Cond.methodLink RX7 226 yX7_begins ∈ zAL := al_4 219 (by decide +kernel)
theorem lX7_229 : Cond.methodLink RX7 229 yX7_goesOne ∈ zAL := al_4 223 (by decide +kernel)
theorem lX7_232 : Cond.methodLink RX7 232 yX7_costOf ∈ zAL := al_5 83 (by decide +kernel)
theorem lX7_235 : Cond.methodLink RX7 235 yX7_thinks ∈ zAL := al_5 79 (by decide +kernel)
theorem lX7_238 : Cond.methodLink RX7 238 yX7_isPerson ∈ zAL := al_5 38 (by decide +kernel)
theorem lX7_241 : Cond.methodLink RX7 241 yX7_lower ∈ zAL := al_5 50 (by decide +kernel)
theorem lX7_244 : Cond.methodLink RX7 244 yX7_bothOf ∈ zAL := al_5 95 (by decide +kernel)
theorem lX7_247 : Cond.methodLink RX7 247 yX7_thinksWith ∈ zAL := al_5 107 (by decide +kernel)
theorem lX7_250 : Cond.methodLink RX7 250 yX7_thinksByRule ∈ zAL := al_5 115 (by decide +kernel)
theorem lX7_253 : Cond.methodLink RX7 253 yX7_thinksFirst ∈ zAL := al_5 123 (by decide +kernel)
theorem lX7_256 : Cond.methodLink RX7 256 yX7_bestSet ∈ zAL := al_5 103 (by decide +kernel)
theorem lX7_259 : Cond.methodLink RX7 259 yX7_bestRule ∈ zAL := al_5 111 (by decide +kernel)
theorem lX7_262 : Cond.methodLink RX7 262 yX7_bestFirst ∈ zAL := al_5 119 (by decide +kernel)
theorem lX7_265 : Cond.methodLink RX7 265 yX7_isOff ∈ zAL := al_5 155 (by decide +kernel)
theorem lX7_268 : Cond.methodLink RX7 268 yX7_holdsFrom ∈ zAL := al_5 151 (by decide +kernel)
theorem lX7_271 : Cond.methodLink RX7 271 yX7_isStill ∈ zAL := al_5 167 (by decide +kernel)
theorem lX7_277 : Cond.methodLink RX7 277 yX7_firstOther ∈ zAL := al_5 187 (by decide +kernel)
theorem lJ0_335 : Cond.methodLink RJ0 335 yJ0_coder_7d493 ∈ zAL := al_2 7 (by decide +kernel)
theorem lJ0_492 : Cond.methodLink RJ0 492 yJ0_isLatin1_aae02 ∈ zAL := al_2 17 (by decide +kernel)
theorem lJ0_495 : Cond.methodLink RJ0 495 yJ1_charAt_3b067 ∈ zAL := al_2 21 (by decide +kernel)
theorem lJ0_505 : Cond.methodLink RJ0 505 yJ0_length_8abf5 ∈ zAL := al_2 67 (by decide +kernel)
theorem lJ0_633 : Cond.methodLink RJ0 633 yJ0_indexOf_7cf53 ∈ zAL := al_2 63 (by decide +kernel)
theorem lJ0_637 : Cond.methodLink RJ0 637 yJ1_indexOf_4cfef ∈ zAL := al_2 68 (by decide +kernel)
theorem lJ0_1059 : Cond.methodLink RJ0 1059 yJ3_checkIndex_8e157 ∈ zAL := al_2 29 (by decide +kernel)
theorem lJ1_9 : Cond.methodLink RJ1 9 yJ0_checkIndex_df160 ∈ zAL := al_2 24 (by decide +kernel)
theorem lJ1_88 : Cond.methodLink RJ1 88 yJ1_canEncode_9a6ad ∈ zAL := al_2 71 (by decide +kernel)
theorem lJ1_95 : Cond.methodLink RJ1 95 yJ1_indexOfChar_4cfef ∈ zAL := al_2 80 (by decide +kernel)
theorem qX6_162 : Cond.constant RX6 162 1664525 ∈ zAL := al_3 236 (by decide +kernel)
theorem qX6_163 : Cond.constant RX6 163 1013904223 ∈ zAL := al_3 237 (by decide +kernel)
theorem qX6_164 : Cond.constant RX6 164 2147483647 ∈ zAL := al_3 238 (by decide +kernel)
theorem qX6_195 : Cond.constant RX6 195 1000000000 ∈ zAL := al_3 78 (by decide +kernel)
theorem qX7_64 : Cond.constant RX7 64 1000000000 ∈ zAL := al_5 54 (by decide +kernel)
theorem qX7_280 : Cond.constant RX7 280 1664525 ∈ zAL := al_5 199 (by decide +kernel)
theorem qX7_281 : Cond.constant RX7 281 1013904223 ∈ zAL := al_5 200 (by decide +kernel)
theorem qX7_282 : Cond.constant RX7 282 2147483647 ∈ zAL := al_5 201 (by decide +kernel)
theorem kX0_clear : zYv mX0_clear 0 := ⟨al_2 159 (by decide +kernel), al_2 160 (by decide +kernel), al_1 6 (by decide +kernel), al_2 161 (by decide +kernel), ⟨⟨by decide +kernel, by decide +kernel, by decide +kernel⟩, rfl, rfl⟩⟩
theorem kX0_noteUp : zYv mX0_noteUp 2 := ⟨al_3 29 (by decide +kernel), al_3 30 (by decide +kernel), al_1 6 (by decide +kernel), al_3 31 (by decide +kernel), ⟨⟨by decide +kernel, by decide +kernel, by decide +kernel⟩, rfl, rfl⟩⟩
theorem kX0_noteBother : zYv mX0_noteBother 2 := ⟨al_3 45 (by decide +kernel), al_3 46 (by decide +kernel), al_1 6 (by decide +kernel), al_3 47 (by decide +kernel), ⟨⟨by decide +kernel, by decide +kernel, by decide +kernel⟩, rfl, rfl⟩⟩
theorem kX0_noteOff : zYv mX0_noteOff 2 := ⟨al_3 49 (by decide +kernel), al_3 50 (by decide +kernel), al_1 6 (by decide +kernel), al_3 51 (by decide +kernel), ⟨⟨by decide +kernel, by decide +kernel, by decide +kernel⟩, rfl, rfl⟩⟩
theorem kX0_told : zYv mX0_told 1 := ⟨al_3 125 (by decide +kernel), al_3 126 (by decide +kernel), al_1 6 (by decide +kernel), al_3 127 (by decide +kernel), ⟨⟨by decide +kernel, by decide +kernel, by decide +kernel⟩, rfl, rfl⟩⟩
theorem kX0_toldOf : zYv mX0_toldOf 2 := ⟨al_3 139 (by decide +kernel), al_3 140 (by decide +kernel), al_1 6 (by decide +kernel), al_3 141 (by decide +kernel), ⟨⟨by decide +kernel, by decide +kernel, by decide +kernel⟩, rfl, rfl⟩⟩
theorem kX0_allCost : zYv mX0_allCost 0 := ⟨al_3 121 (by decide +kernel), al_3 122 (by decide +kernel), al_1 6 (by decide +kernel), al_3 123 (by decide +kernel), ⟨⟨by decide +kernel, by decide +kernel, by decide +kernel⟩, rfl, rfl⟩⟩
theorem kX0_allUps : zYv mX0_allUps 0 := ⟨al_3 106 (by decide +kernel), al_3 107 (by decide +kernel), al_1 6 (by decide +kernel), al_3 108 (by decide +kernel), ⟨⟨by decide +kernel, by decide +kernel, by decide +kernel⟩, rfl, rfl⟩⟩
theorem kX0_sum : zYs mX0_sum 1 := ⟨al_3 110 (by decide +kernel), al_1 6 (by decide +kernel), al_3 111 (by decide +kernel), ⟨⟨by decide +kernel, by decide +kernel, by decide +kernel⟩, rfl, rfl⟩⟩
theorem kX1_become : zYv mX1_become 1 := ⟨al_2 147 (by decide +kernel), al_2 148 (by decide +kernel), al_1 3 (by decide +kernel), al_2 149 (by decide +kernel), ⟨⟨by decide +kernel, by decide +kernel, by decide +kernel⟩, rfl, rfl⟩⟩
theorem kX1_amountIn : zYv mX1_amountIn 1 := ⟨al_2 220 (by decide +kernel), al_2 221 (by decide +kernel), al_1 3 (by decide +kernel), al_2 222 (by decide +kernel), ⟨⟨by decide +kernel, by decide +kernel, by decide +kernel⟩, rfl, rfl⟩⟩
theorem kX1_swinging : zYv mX1_swinging 1 := ⟨al_2 225 (by decide +kernel), al_s (q := (yX1_swinging, 2)) 12 (by decide +kernel), al_1 3 (by decide +kernel), al_2 226 (by decide +kernel), ⟨⟨by decide +kernel, by decide +kernel, by decide +kernel⟩, rfl, rfl⟩⟩
theorem kX1_cooled : zYv mX1_cooled 1 := ⟨al_2 229 (by decide +kernel), al_s (q := (yX1_cooled, 2)) 13 (by decide +kernel), al_1 3 (by decide +kernel), al_2 230 (by decide +kernel), ⟨⟨by decide +kernel, by decide +kernel, by decide +kernel⟩, rfl, rfl⟩⟩
theorem kX2_become : zYv mX2_become 1 := ⟨al_2 143 (by decide +kernel), al_2 144 (by decide +kernel), al_1 2 (by decide +kernel), al_2 145 (by decide +kernel), ⟨⟨by decide +kernel, by decide +kernel, by decide +kernel⟩, rfl, rfl⟩⟩
theorem kX2_has : zYv mX2_has 1 := ⟨al_3 1 (by decide +kernel), al_3 2 (by decide +kernel), al_1 2 (by decide +kernel), al_3 3 (by decide +kernel), ⟨⟨by decide +kernel, by decide +kernel, by decide +kernel⟩, rfl, rfl⟩⟩
theorem kX2_told : zYv mX2_told 1 := ⟨al_2 195 (by decide +kernel), al_2 196 (by decide +kernel), al_1 2 (by decide +kernel), al_2 197 (by decide +kernel), ⟨⟨by decide +kernel, by decide +kernel, by decide +kernel⟩, rfl, rfl⟩⟩
theorem kX2_change : zYv mX2_change 2 := ⟨al_2 191 (by decide +kernel), al_2 192 (by decide +kernel), al_1 2 (by decide +kernel), al_2 193 (by decide +kernel), ⟨⟨by decide +kernel, by decide +kernel, by decide +kernel⟩, rfl, rfl⟩⟩
theorem kX2_allMinds : zYv mX2_allMinds 0 := ⟨al_4 12 (by decide +kernel), al_4 13 (by decide +kernel), al_1 2 (by decide +kernel), al_4 14 (by decide +kernel), ⟨⟨by decide +kernel, by decide +kernel, by decide +kernel⟩, rfl, rfl⟩⟩
theorem kX2_refineHands : zYv mX2_refineHands 2 := ⟨al_3 159 (by decide +kernel), al_3 160 (by decide +kernel), al_1 2 (by decide +kernel), al_3 161 (by decide +kernel), ⟨⟨by decide +kernel, by decide +kernel, by decide +kernel⟩, rfl, rfl⟩⟩
theorem kX2_passMinutes : zYv mX2_passMinutes 3 := ⟨al_2 212 (by decide +kernel), al_2 213 (by decide +kernel), al_1 2 (by decide +kernel), al_2 214 (by decide +kernel), ⟨⟨by decide +kernel, by decide +kernel, by decide +kernel⟩, rfl, rfl⟩⟩
theorem kX2_driftOnce : zYv mX2_driftOnce 0 := ⟨al_2 216 (by decide +kernel), al_2 217 (by decide +kernel), al_1 2 (by decide +kernel), al_2 218 (by decide +kernel), ⟨⟨by decide +kernel, by decide +kernel, by decide +kernel⟩, rfl, rfl⟩⟩
theorem kX2_isOffEither : zYv mX2_isOffEither 0 := ⟨al_3 188 (by decide +kernel), al_3 189 (by decide +kernel), al_1 2 (by decide +kernel), al_3 190 (by decide +kernel), ⟨⟨by decide +kernel, by decide +kernel, by decide +kernel⟩, rfl, rfl⟩⟩
theorem kX2_letOneGetUp : zYv mX2_letOneGetUp 2 := ⟨al_2 238 (by decide +kernel), al_s (q := (yX2_letOneGetUp, 9)) 14 (by decide +kernel), al_1 2 (by decide +kernel), al_2 239 (by decide +kernel), ⟨⟨by decide +kernel, by decide +kernel, by decide +kernel⟩, rfl, rfl⟩⟩
theorem kX2_botherAll : zYv mX2_botherAll 1 := ⟨al_3 34 (by decide +kernel), al_s (q := (yX2_botherAll, 9)) 17 (by decide +kernel), al_1 2 (by decide +kernel), al_3 35 (by decide +kernel), ⟨⟨by decide +kernel, by decide +kernel, by decide +kernel⟩, rfl, rfl⟩⟩
theorem kX2_off : zYv mX2_off 1 := ⟨al_3 6 (by decide +kernel), al_s (q := (yX2_off, 9)) 15 (by decide +kernel), al_1 2 (by decide +kernel), al_3 7 (by decide +kernel), ⟨⟨by decide +kernel, by decide +kernel, by decide +kernel⟩, rfl, rfl⟩⟩
theorem kX3_become : zYv mX3_become 1 := ⟨al_2 155 (by decide +kernel), al_2 156 (by decide +kernel), al_1 5 (by decide +kernel), al_2 157 (by decide +kernel), ⟨⟨by decide +kernel, by decide +kernel, by decide +kernel⟩, rfl, rfl⟩⟩
theorem kX3_detail : zYv mX3_detail 1 := ⟨al_3 62 (by decide +kernel), al_3 63 (by decide +kernel), al_1 5 (by decide +kernel), al_3 64 (by decide +kernel), ⟨⟨by decide +kernel, by decide +kernel, by decide +kernel⟩, rfl, rfl⟩⟩
theorem kX3_botheredBy : zYv mX3_botheredBy 1 := ⟨al_3 37 (by decide +kernel), al_3 38 (by decide +kernel), al_1 5 (by decide +kernel), al_3 39 (by decide +kernel), ⟨⟨by decide +kernel, by decide +kernel, by decide +kernel⟩, rfl, rfl⟩⟩
theorem kX3_deafTo : zYv mX3_deafTo 2 := ⟨al_3 42 (by decide +kernel), al_s (q := (yX3_deafTo, 6)) 18 (by decide +kernel), al_1 5 (by decide +kernel), al_3 43 (by decide +kernel), ⟨⟨by decide +kernel, by decide +kernel, by decide +kernel⟩, rfl, rfl⟩⟩
theorem kX3_turned : zYv mX3_turned 2 := ⟨al_3 24 (by decide +kernel), al_3 25 (by decide +kernel), al_1 5 (by decide +kernel), al_3 26 (by decide +kernel), ⟨⟨by decide +kernel, by decide +kernel, by decide +kernel⟩, rfl, rfl⟩⟩
theorem kX4_become : zYv mX4_become 1 := ⟨al_2 151 (by decide +kernel), al_2 152 (by decide +kernel), al_1 4 (by decide +kernel), al_2 153 (by decide +kernel), ⟨⟨by decide +kernel, by decide +kernel, by decide +kernel⟩, rfl, rfl⟩⟩
theorem kX4_rouses : zYv mX4_rouses 2 := ⟨al_3 12 (by decide +kernel), al_3 13 (by decide +kernel), al_1 4 (by decide +kernel), al_3 14 (by decide +kernel), ⟨⟨by decide +kernel, by decide +kernel, by decide +kernel⟩, rfl, rfl⟩⟩
theorem kX4_aim : zYv mX4_aim 3 := ⟨al_3 16 (by decide +kernel), al_3 17 (by decide +kernel), al_1 4 (by decide +kernel), al_3 18 (by decide +kernel), ⟨⟨by decide +kernel, by decide +kernel, by decide +kernel⟩, rfl, rfl⟩⟩
theorem kX4_against : zYv mX4_against 2 := ⟨al_3 21 (by decide +kernel), al_s (q := (yX4_against, 3)) 16 (by decide +kernel), al_1 4 (by decide +kernel), al_3 22 (by decide +kernel), ⟨⟨by decide +kernel, by decide +kernel, by decide +kernel⟩, rfl, rfl⟩⟩
theorem kX5_add : zYv mX5_add 1 := ⟨al_1 231 (by decide +kernel), al_1 232 (by decide +kernel), al_1 7 (by decide +kernel), al_1 233 (by decide +kernel), ⟨⟨by decide +kernel, by decide +kernel, by decide +kernel⟩, rfl, rfl⟩⟩
theorem kX5_shapeAt : zYv mX5_shapeAt 1 := ⟨al_2 121 (by decide +kernel), al_2 122 (by decide +kernel), al_1 7 (by decide +kernel), al_2 123 (by decide +kernel), ⟨⟨by decide +kernel, by decide +kernel, by decide +kernel⟩, rfl, rfl⟩⟩
theorem kX5_firstUnfit : zYv mX5_firstUnfit 0 := ⟨al_1 239 (by decide +kernel), al_2 0 (by decide +kernel), al_1 7 (by decide +kernel), al_2 1 (by decide +kernel), ⟨⟨by decide +kernel, by decide +kernel, by decide +kernel⟩, rfl, rfl⟩⟩
theorem kX5_tellTo : zYv mX5_tellTo 3 := ⟨al_2 163 (by decide +kernel), al_2 164 (by decide +kernel), al_1 7 (by decide +kernel), al_2 165 (by decide +kernel), ⟨⟨by decide +kernel, by decide +kernel, by decide +kernel⟩, rfl, rfl⟩⟩
theorem kX5_tellPerson : zYv mX5_tellPerson 2 := ⟨al_2 168 (by decide +kernel), al_s (q := (yX5_tellPerson, 2)) 4 (by decide +kernel), al_1 7 (by decide +kernel), al_2 169 (by decide +kernel), ⟨⟨by decide +kernel, by decide +kernel, by decide +kernel⟩, rfl, rfl⟩⟩
theorem kX5_tellStation : zYv mX5_tellStation 2 := ⟨al_2 188 (by decide +kernel), al_s (q := (yX5_tellStation, 2)) 9 (by decide +kernel), al_1 7 (by decide +kernel), al_2 189 (by decide +kernel), ⟨⟨by decide +kernel, by decide +kernel, by decide +kernel⟩, rfl, rfl⟩⟩
theorem kX5_tellRule : zYv mX5_tellRule 2 := ⟨al_2 200 (by decide +kernel), al_s (q := (yX5_tellRule, 2)) 10 (by decide +kernel), al_1 7 (by decide +kernel), al_2 201 (by decide +kernel), ⟨⟨by decide +kernel, by decide +kernel, by decide +kernel⟩, rfl, rfl⟩⟩
theorem kX5_tellMinutes : zYv mX5_tellMinutes 3 := ⟨al_2 209 (by decide +kernel), al_s (q := (yX5_tellMinutes, 2)) 11 (by decide +kernel), al_1 7 (by decide +kernel), al_2 210 (by decide +kernel), ⟨⟨by decide +kernel, by decide +kernel, by decide +kernel⟩, rfl, rfl⟩⟩
theorem kX5_fits : zYs mX5_fits 2 := ⟨al_2 56 (by decide +kernel), al_1 7 (by decide +kernel), al_2 57 (by decide +kernel), ⟨⟨by decide +kernel, by decide +kernel, by decide +kernel⟩, rfl, rfl⟩⟩
theorem kX5_signAt : zYv mX5_signAt 1 := ⟨al_2 53 (by decide +kernel), al_s (q := (yX5_signAt, 2)) 1 (by decide +kernel), al_1 7 (by decide +kernel), al_2 54 (by decide +kernel), ⟨⟨by decide +kernel, by decide +kernel, by decide +kernel⟩, rfl, rfl⟩⟩
theorem kX5_digitAt : zYv mX5_digitAt 1 := ⟨al_2 172 (by decide +kernel), al_s (q := (yX5_digitAt, 2)) 5 (by decide +kernel), al_1 7 (by decide +kernel), al_2 173 (by decide +kernel), ⟨⟨by decide +kernel, by decide +kernel, by decide +kernel⟩, rfl, rfl⟩⟩
theorem kX5_numberAt : zYv mX5_numberAt 1 := ⟨al_2 180 (by decide +kernel), al_s (q := (yX5_numberAt, 2)) 7 (by decide +kernel), al_1 7 (by decide +kernel), al_2 181 (by decide +kernel), ⟨⟨by decide +kernel, by decide +kernel, by decide +kernel⟩, rfl, rfl⟩⟩
theorem kX5_signedAt : zYv mX5_signedAt 2 := ⟨al_2 184 (by decide +kernel), al_s (q := (yX5_signedAt, 2)) 8 (by decide +kernel), al_1 7 (by decide +kernel), al_2 185 (by decide +kernel), ⟨⟨by decide +kernel, by decide +kernel, by decide +kernel⟩, rfl, rfl⟩⟩
theorem kX5_kindAt : zYv mX5_kindAt 2 := ⟨al_2 176 (by decide +kernel), al_s (q := (yX5_kindAt, 2)) 6 (by decide +kernel), al_1 7 (by decide +kernel), al_2 177 (by decide +kernel), ⟨⟨by decide +kernel, by decide +kernel, by decide +kernel⟩, rfl, rfl⟩⟩
theorem kX6_letter : zYv mX6_letter 1 := ⟨al_1 220 (by decide +kernel), al_1 221 (by decide +kernel), al_1 1 (by decide +kernel), al_1 222 (by decide +kernel), ⟨⟨by decide +kernel, by decide +kernel, by decide +kernel⟩, rfl, rfl⟩⟩
theorem kX6_parlour : zYv mX6_parlour 0 := ⟨al_1 235 (by decide +kernel), al_1 236 (by decide +kernel), al_1 1 (by decide +kernel), al_1 237 (by decide +kernel), ⟨⟨by decide +kernel, by decide +kernel, by decide +kernel⟩, rfl, rfl⟩⟩
theorem kX6_person : zYv mX6_person 2 := ⟨al_3 57 (by decide +kernel), al_3 58 (by decide +kernel), al_1 1 (by decide +kernel), al_3 59 (by decide +kernel), ⟨⟨by decide +kernel, by decide +kernel, by decide +kernel⟩, rfl, rfl⟩⟩
theorem kX6_bothers : zYv mX6_bothers 2 := ⟨al_3 66 (by decide +kernel), al_3 67 (by decide +kernel), al_1 1 (by decide +kernel), al_3 68 (by decide +kernel), ⟨⟨by decide +kernel, by decide +kernel, by decide +kernel⟩, rfl, rfl⟩⟩
theorem kX6_place : zYv mX6_place 1 := ⟨al_3 71 (by decide +kernel), al_3 72 (by decide +kernel), al_1 1 (by decide +kernel), al_3 73 (by decide +kernel), ⟨⟨by decide +kernel, by decide +kernel, by decide +kernel⟩, rfl, rfl⟩⟩
theorem kX6_set : zYv mX6_set 2 := ⟨al_3 81 (by decide +kernel), al_3 82 (by decide +kernel), al_1 1 (by decide +kernel), al_3 83 (by decide +kernel), ⟨⟨by decide +kernel, by decide +kernel, by decide +kernel⟩, rfl, rfl⟩⟩
theorem kX6_kind : zYv mX6_kind 2 := ⟨al_3 88 (by decide +kernel), al_3 89 (by decide +kernel), al_1 1 (by decide +kernel), al_3 90 (by decide +kernel), ⟨⟨by decide +kernel, by decide +kernel, by decide +kernel⟩, rfl, rfl⟩⟩
theorem kX6_turn : zYv mX6_turn 1 := ⟨al_3 92 (by decide +kernel), al_3 93 (by decide +kernel), al_1 1 (by decide +kernel), al_3 94 (by decide +kernel), ⟨⟨by decide +kernel, by decide +kernel, by decide +kernel⟩, rfl, rfl⟩⟩
theorem kX6_drifts : zYv mX6_drifts 1 := ⟨al_3 96 (by decide +kernel), al_3 97 (by decide +kernel), al_1 1 (by decide +kernel), al_3 98 (by decide +kernel), ⟨⟨by decide +kernel, by decide +kernel, by decide +kernel⟩, rfl, rfl⟩⟩
theorem kX6_go : zYv mX6_go 1 := ⟨al_3 101 (by decide +kernel), al_3 102 (by decide +kernel), al_1 1 (by decide +kernel), al_3 103 (by decide +kernel), ⟨⟨by decide +kernel, by decide +kernel, by decide +kernel⟩, rfl, rfl⟩⟩
theorem kX6_cost : zYv mX6_cost 2 := ⟨al_3 113 (by decide +kernel), al_3 114 (by decide +kernel), al_1 1 (by decide +kernel), al_3 115 (by decide +kernel), ⟨⟨by decide +kernel, by decide +kernel, by decide +kernel⟩, rfl, rfl⟩⟩
theorem kX6_at : zYv mX6_at 1 := ⟨al_3 131 (by decide +kernel), al_3 132 (by decide +kernel), al_1 1 (by decide +kernel), al_3 133 (by decide +kernel), ⟨⟨by decide +kernel, by decide +kernel, by decide +kernel⟩, rfl, rfl⟩⟩
theorem kX6_of : zYv mX6_of 3 := ⟨al_3 135 (by decide +kernel), al_3 136 (by decide +kernel), al_1 1 (by decide +kernel), al_3 137 (by decide +kernel), ⟨⟨by decide +kernel, by decide +kernel, by decide +kernel⟩, rfl, rfl⟩⟩
theorem kX6_best : zYv mX6_best 2 := ⟨al_3 143 (by decide +kernel), al_3 144 (by decide +kernel), al_1 1 (by decide +kernel), al_3 145 (by decide +kernel), ⟨⟨by decide +kernel, by decide +kernel, by decide +kernel⟩, rfl, rfl⟩⟩
theorem kX6_finer : zYv mX6_finer 2 := ⟨al_3 151 (by decide +kernel), al_3 152 (by decide +kernel), al_1 1 (by decide +kernel), al_3 153 (by decide +kernel), ⟨⟨by decide +kernel, by decide +kernel, by decide +kernel⟩, rfl, rfl⟩⟩
theorem kX6_mark : zYv mX6_mark 1 := ⟨al_3 163 (by decide +kernel), al_3 164 (by decide +kernel), al_1 1 (by decide +kernel), al_3 165 (by decide +kernel), ⟨⟨by decide +kernel, by decide +kernel, by decide +kernel⟩, rfl, rfl⟩⟩
theorem kX6_most : zYv mX6_most 1 := ⟨al_3 167 (by decide +kernel), al_3 168 (by decide +kernel), al_1 1 (by decide +kernel), al_3 169 (by decide +kernel), ⟨⟨by decide +kernel, by decide +kernel, by decide +kernel⟩, rfl, rfl⟩⟩
theorem kX6_between : zYv mX6_between 1 := ⟨al_3 171 (by decide +kernel), al_3 172 (by decide +kernel), al_1 1 (by decide +kernel), al_3 173 (by decide +kernel), ⟨⟨by decide +kernel, by decide +kernel, by decide +kernel⟩, rfl, rfl⟩⟩
theorem kX6_leave : zYv mX6_leave 1 := ⟨al_3 175 (by decide +kernel), al_3 176 (by decide +kernel), al_1 1 (by decide +kernel), al_3 177 (by decide +kernel), ⟨⟨by decide +kernel, by decide +kernel, by decide +kernel⟩, rfl, rfl⟩⟩
theorem kX6_holds : zYv mX6_holds 1 := ⟨al_3 179 (by decide +kernel), al_3 180 (by decide +kernel), al_1 1 (by decide +kernel), al_3 181 (by decide +kernel), ⟨⟨by decide +kernel, by decide +kernel, by decide +kernel⟩, rfl, rfl⟩⟩
theorem kX6_setAt : zYv mX6_setAt 0 := ⟨al_3 192 (by decide +kernel), al_3 193 (by decide +kernel), al_1 1 (by decide +kernel), al_3 194 (by decide +kernel), ⟨⟨by decide +kernel, by decide +kernel, by decide +kernel⟩, rfl, rfl⟩⟩
theorem kX6_steadyFrom : zYv mX6_steadyFrom 0 := ⟨al_3 196 (by decide +kernel), al_3 197 (by decide +kernel), al_1 1 (by decide +kernel), al_3 198 (by decide +kernel), ⟨⟨by decide +kernel, by decide +kernel, by decide +kernel⟩, rfl, rfl⟩⟩
theorem kX6_whoLast : zYv mX6_whoLast 1 := ⟨al_3 200 (by decide +kernel), al_3 201 (by decide +kernel), al_1 1 (by decide +kernel), al_3 202 (by decide +kernel), ⟨⟨by decide +kernel, by decide +kernel, by decide +kernel⟩, rfl, rfl⟩⟩
theorem kX6_when : zYv mX6_when 1 := ⟨al_3 204 (by decide +kernel), al_3 205 (by decide +kernel), al_1 1 (by decide +kernel), al_3 206 (by decide +kernel), ⟨⟨by decide +kernel, by decide +kernel, by decide +kernel⟩, rfl, rfl⟩⟩
theorem kX6_row : zYv mX6_row 1 := ⟨al_3 208 (by decide +kernel), al_3 209 (by decide +kernel), al_1 1 (by decide +kernel), al_3 210 (by decide +kernel), ⟨⟨by decide +kernel, by decide +kernel, by decide +kernel⟩, rfl, rfl⟩⟩
theorem kX6_kept : zYv mX6_kept 1 := ⟨al_3 212 (by decide +kernel), al_3 213 (by decide +kernel), al_1 1 (by decide +kernel), al_3 214 (by decide +kernel), ⟨⟨by decide +kernel, by decide +kernel, by decide +kernel⟩, rfl, rfl⟩⟩
theorem kX6_judge : zYv mX6_judge 0 := ⟨al_3 229 (by decide +kernel), al_3 230 (by decide +kernel), al_1 1 (by decide +kernel), al_3 231 (by decide +kernel), ⟨⟨by decide +kernel, by decide +kernel, by decide +kernel⟩, rfl, rfl⟩⟩
theorem kX6_lots : zYv mX6_lots 2 := ⟨al_3 233 (by decide +kernel), al_3 234 (by decide +kernel), al_1 1 (by decide +kernel), al_3 235 (by decide +kernel), ⟨⟨by decide +kernel, by decide +kernel, by decide +kernel⟩, rfl, rfl⟩⟩
theorem kX6_image : zYv mX6_image 0 := ⟨al_4 0 (by decide +kernel), al_4 1 (by decide +kernel), al_1 1 (by decide +kernel), al_4 2 (by decide +kernel), ⟨⟨by decide +kernel, by decide +kernel, by decide +kernel⟩, rfl, rfl⟩⟩
theorem kX6_on : zYv mX6_on 0 := ⟨al_4 4 (by decide +kernel), al_4 5 (by decide +kernel), al_1 1 (by decide +kernel), al_4 6 (by decide +kernel), ⟨⟨by decide +kernel, by decide +kernel, by decide +kernel⟩, rfl, rfl⟩⟩
theorem kX6_count : zYv mX6_count 1 := ⟨al_4 8 (by decide +kernel), al_4 9 (by decide +kernel), al_1 1 (by decide +kernel), al_4 10 (by decide +kernel), ⟨⟨by decide +kernel, by decide +kernel, by decide +kernel⟩, rfl, rfl⟩⟩
theorem kX6_outside : zYs mX6_outside 3 := ⟨al_1 224 (by decide +kernel), al_1 1 (by decide +kernel), al_1 225 (by decide +kernel), ⟨⟨by decide +kernel, by decide +kernel, by decide +kernel⟩, rfl, rfl⟩⟩
theorem kX6_refuse : zYv mX6_refuse 1 := ⟨al_1 228 (by decide +kernel), al_s (q := (yX6_refuse, 9)) 0 (by decide +kernel), al_1 1 (by decide +kernel), al_1 229 (by decide +kernel), ⟨⟨by decide +kernel, by decide +kernel, by decide +kernel⟩, rfl, rfl⟩⟩
theorem kX6_refuseTold : zYv mX6_refuseTold 1 := ⟨al_3 76 (by decide +kernel), al_s (q := (yX6_refuseTold, 9)) 19 (by decide +kernel), al_1 1 (by decide +kernel), al_3 77 (by decide +kernel), ⟨⟨by decide +kernel, by decide +kernel, by decide +kernel⟩, rfl, rfl⟩⟩
theorem kX6_tellAll : zYv mX6_tellAll 0 := ⟨al_2 136 (by decide +kernel), al_s (q := (yX6_tellAll, 9)) 2 (by decide +kernel), al_1 1 (by decide +kernel), al_2 137 (by decide +kernel), ⟨⟨by decide +kernel, by decide +kernel, by decide +kernel⟩, rfl, rfl⟩⟩
theorem kX6_think : zYv mX6_think 0 := ⟨al_2 140 (by decide +kernel), al_s (q := (yX6_think, 9)) 3 (by decide +kernel), al_1 1 (by decide +kernel), al_2 141 (by decide +kernel), ⟨⟨by decide +kernel, by decide +kernel, by decide +kernel⟩, rfl, rfl⟩⟩
theorem kX6_playInMind : zYv mX6_playInMind 2 := ⟨al_3 118 (by decide +kernel), al_s (q := (yX6_playInMind, 9)) 20 (by decide +kernel), al_1 1 (by decide +kernel), al_3 119 (by decide +kernel), ⟨⟨by decide +kernel, by decide +kernel, by decide +kernel⟩, rfl, rfl⟩⟩
theorem kX6_leastCostly : zYv mX6_leastCostly 4 := ⟨al_3 148 (by decide +kernel), al_s (q := (yX6_leastCostly, 9)) 21 (by decide +kernel), al_1 1 (by decide +kernel), al_3 149 (by decide +kernel), ⟨⟨by decide +kernel, by decide +kernel, by decide +kernel⟩, rfl, rfl⟩⟩
theorem kX6_savedByFineHands : zYv mX6_savedByFineHands 3 := ⟨al_3 156 (by decide +kernel), al_s (q := (yX6_savedByFineHands, 9)) 22 (by decide +kernel), al_1 1 (by decide +kernel), al_3 157 (by decide +kernel), ⟨⟨by decide +kernel, by decide +kernel, by decide +kernel⟩, rfl, rfl⟩⟩
theorem kX6_minutesHeld : zYv mX6_minutesHeld 1 := ⟨al_3 184 (by decide +kernel), al_s (q := (yX6_minutesHeld, 9)) 23 (by decide +kernel), al_1 1 (by decide +kernel), al_3 185 (by decide +kernel), ⟨⟨by decide +kernel, by decide +kernel, by decide +kernel⟩, rfl, rfl⟩⟩
theorem kX6_firstUnlike : zYv mX6_firstUnlike 0 := ⟨al_3 221 (by decide +kernel), al_s (q := (yX6_firstUnlike, 9)) 25 (by decide +kernel), al_1 1 (by decide +kernel), al_3 222 (by decide +kernel), ⟨⟨by decide +kernel, by decide +kernel, by decide +kernel⟩, rfl, rfl⟩⟩
theorem kX6_rulesKept : zYv mX6_rulesKept 0 := ⟨al_3 217 (by decide +kernel), al_s (q := (yX6_rulesKept, 9)) 24 (by decide +kernel), al_1 1 (by decide +kernel), al_3 218 (by decide +kernel), ⟨⟨by decide +kernel, by decide +kernel, by decide +kernel⟩, rfl, rfl⟩⟩
theorem kX6_limitsKept : zYv mX6_limitsKept 0 := ⟨al_3 226 (by decide +kernel), al_s (q := (yX6_limitsKept, 9)) 26 (by decide +kernel), al_1 1 (by decide +kernel), al_3 227 (by decide +kernel), ⟨⟨by decide +kernel, by decide +kernel, by decide +kernel⟩, rfl, rfl⟩⟩
theorem kX6_held : zYs mX6_held 3 := ⟨al_2 232 (by decide +kernel), al_1 1 (by decide +kernel), al_2 233 (by decide +kernel), ⟨⟨by decide +kernel, by decide +kernel, by decide +kernel⟩, rfl, rfl⟩⟩
theorem kX7_no : zYv mX7_no 1 := ⟨al_4 139 (by decide +kernel), al_s (q := (yX7_no, 36)) 27 (by decide +kernel), al_1 8 (by decide +kernel), al_4 140 (by decide +kernel), ⟨⟨by decide +kernel, by decide +kernel, by decide +kernel⟩, rfl, rfl⟩⟩
theorem kX7_lower : zYv mX7_lower 1 := ⟨al_5 52 (by decide +kernel), al_s (q := (yX7_lower, 36)) 54 (by decide +kernel), al_1 8 (by decide +kernel), al_5 53 (by decide +kernel), ⟨⟨by decide +kernel, by decide +kernel, by decide +kernel⟩, rfl, rfl⟩⟩
theorem kX7_isIn : zYs mX7_isIn 3 := ⟨al_4 173 (by decide +kernel), al_1 8 (by decide +kernel), al_4 174 (by decide +kernel), ⟨⟨by decide +kernel, by decide +kernel, by decide +kernel⟩, rfl, rfl⟩⟩
theorem kX7_bound : zYs mX7_bound 3 := ⟨al_4 135 (by decide +kernel), al_1 8 (by decide +kernel), al_4 136 (by decide +kernel), ⟨⟨by decide +kernel, by decide +kernel, by decide +kernel⟩, rfl, rfl⟩⟩
theorem kX7_size : zYs mX7_size 1 := ⟨al_5 0 (by decide +kernel), al_1 8 (by decide +kernel), al_5 1 (by decide +kernel), ⟨⟨by decide +kernel, by decide +kernel, by decide +kernel⟩, rfl, rfl⟩⟩
theorem kX7_isPerson : zYv mX7_isPerson 1 := ⟨al_5 40 (by decide +kernel), al_s (q := (yX7_isPerson, 36)) 53 (by decide +kernel), al_1 8 (by decide +kernel), al_5 41 (by decide +kernel), ⟨⟨by decide +kernel, by decide +kernel, by decide +kernel⟩, rfl, rfl⟩⟩
theorem kX7_leastOf : zYs mX7_leastOf 1 := ⟨al_4 210 (by decide +kernel), al_1 8 (by decide +kernel), al_4 211 (by decide +kernel), ⟨⟨by decide +kernel, by decide +kernel, by decide +kernel⟩, rfl, rfl⟩⟩
theorem kX7_mostOf : zYs mX7_mostOf 1 := ⟨al_4 213 (by decide +kernel), al_1 8 (by decide +kernel), al_4 214 (by decide +kernel), ⟨⟨by decide +kernel, by decide +kernel, by decide +kernel⟩, rfl, rfl⟩⟩
theorem kX7_letter : zYv mX7_letter 1 := ⟨al_4 131 (by decide +kernel), al_4 132 (by decide +kernel), al_1 8 (by decide +kernel), al_4 133 (by decide +kernel), ⟨⟨by decide +kernel, by decide +kernel, by decide +kernel⟩, rfl, rfl⟩⟩
theorem kX7_next : zYv mX7_next 0 := ⟨al_4 151 (by decide +kernel), al_s (q := (yX7_next, 36)) 29 (by decide +kernel), al_1 8 (by decide +kernel), al_4 152 (by decide +kernel), ⟨⟨by decide +kernel, by decide +kernel, by decide +kernel⟩, rfl, rfl⟩⟩
theorem kX7_readsDigits : zYv mX7_readsDigits 2 := ⟨al_4 170 (by decide +kernel), al_s (q := (yX7_readsDigits, 36)) 33 (by decide +kernel), al_1 8 (by decide +kernel), al_4 171 (by decide +kernel), ⟨⟨by decide +kernel, by decide +kernel, by decide +kernel⟩, rfl, rfl⟩⟩
theorem kX7_readsSigned : zYv mX7_readsSigned 2 := ⟨al_4 177 (by decide +kernel), al_s (q := (yX7_readsSigned, 36)) 34 (by decide +kernel), al_1 8 (by decide +kernel), al_4 178 (by decide +kernel), ⟨⟨by decide +kernel, by decide +kernel, by decide +kernel⟩, rfl, rfl⟩⟩
theorem kX7_personOf : zYs mX7_personOf 1 := ⟨al_4 162 (by decide +kernel), al_1 8 (by decide +kernel), al_4 163 (by decide +kernel), ⟨⟨by decide +kernel, by decide +kernel, by decide +kernel⟩, rfl, rfl⟩⟩
theorem kX7_driftOf : zYs mX7_driftOf 1 := ⟨al_4 180 (by decide +kernel), al_1 8 (by decide +kernel), al_4 181 (by decide +kernel), ⟨⟨by decide +kernel, by decide +kernel, by decide +kernel⟩, rfl, rfl⟩⟩
theorem kX7_ruleOf : zYs mX7_ruleOf 1 := ⟨al_4 183 (by decide +kernel), al_1 8 (by decide +kernel), al_4 184 (by decide +kernel), ⟨⟨by decide +kernel, by decide +kernel, by decide +kernel⟩, rfl, rfl⟩⟩
theorem kX7_readsKind : zYv mX7_readsKind 2 := ⟨al_4 166 (by decide +kernel), al_s (q := (yX7_readsKind, 36)) 32 (by decide +kernel), al_1 8 (by decide +kernel), al_4 167 (by decide +kernel), ⟨⟨by decide +kernel, by decide +kernel, by decide +kernel⟩, rfl, rfl⟩⟩
theorem kX7_readsPerson : zYv mX7_readsPerson 1 := ⟨al_4 159 (by decide +kernel), al_s (q := (yX7_readsPerson, 36)) 31 (by decide +kernel), al_1 8 (by decide +kernel), al_4 160 (by decide +kernel), ⟨⟨by decide +kernel, by decide +kernel, by decide +kernel⟩, rfl, rfl⟩⟩
theorem kX7_readsAll : zYv mX7_readsAll 2 := ⟨al_4 155 (by decide +kernel), al_s (q := (yX7_readsAll, 36)) 30 (by decide +kernel), al_1 8 (by decide +kernel), al_4 156 (by decide +kernel), ⟨⟨by decide +kernel, by decide +kernel, by decide +kernel⟩, rfl, rfl⟩⟩
theorem kX7_statement : zYv mX7_statement 0 := ⟨al_4 147 (by decide +kernel), al_s (q := (yX7_statement, 36)) 28 (by decide +kernel), al_1 8 (by decide +kernel), al_4 148 (by decide +kernel), ⟨⟨by decide +kernel, by decide +kernel, by decide +kernel⟩, rfl, rfl⟩⟩
theorem kX7_comesPerson : zYv mX7_comesPerson 1 := ⟨al_4 203 (by decide +kernel), al_s (q := (yX7_comesPerson, 36)) 39 (by decide +kernel), al_1 8 (by decide +kernel), al_4 204 (by decide +kernel), ⟨⟨by decide +kernel, by decide +kernel, by decide +kernel⟩, rfl, rfl⟩⟩
theorem kX7_comesSet : zYv mX7_comesSet 2 := ⟨al_4 207 (by decide +kernel), al_s (q := (yX7_comesSet, 36)) 40 (by decide +kernel), al_1 8 (by decide +kernel), al_4 208 (by decide +kernel), ⟨⟨by decide +kernel, by decide +kernel, by decide +kernel⟩, rfl, rfl⟩⟩
theorem kX7_comes : zYv mX7_comes 1 := ⟨al_4 199 (by decide +kernel), al_s (q := (yX7_comes, 36)) 38 (by decide +kernel), al_1 8 (by decide +kernel), al_4 200 (by decide +kernel), ⟨⟨by decide +kernel, by decide +kernel, by decide +kernel⟩, rfl, rfl⟩⟩
theorem kX7_parlour : zYv mX7_parlour 0 := ⟨al_4 142 (by decide +kernel), al_4 143 (by decide +kernel), al_1 8 (by decide +kernel), al_4 144 (by decide +kernel), ⟨⟨by decide +kernel, by decide +kernel, by decide +kernel⟩, rfl, rfl⟩⟩
theorem kX7_passes : zYv mX7_passes 1 := ⟨al_4 191 (by decide +kernel), al_s (q := (yX7_passes, 36)) 36 (by decide +kernel), al_1 8 (by decide +kernel), al_4 192 (by decide +kernel), ⟨⟨by decide +kernel, by decide +kernel, by decide +kernel⟩, rfl, rfl⟩⟩
theorem kX7_passOne : zYv mX7_passOne 1 := ⟨al_4 195 (by decide +kernel), al_s (q := (yX7_passOne, 36)) 37 (by decide +kernel), al_1 8 (by decide +kernel), al_4 196 (by decide +kernel), ⟨⟨by decide +kernel, by decide +kernel, by decide +kernel⟩, rfl, rfl⟩⟩
theorem kX7_passesAll : zYv mX7_passesAll 2 := ⟨al_4 187 (by decide +kernel), al_s (q := (yX7_passesAll, 36)) 35 (by decide +kernel), al_1 8 (by decide +kernel), al_4 188 (by decide +kernel), ⟨⟨by decide +kernel, by decide +kernel, by decide +kernel⟩, rfl, rfl⟩⟩
theorem kX7_image : zYv mX7_image 0 := ⟨al_5 27 (by decide +kernel), al_5 28 (by decide +kernel), al_1 8 (by decide +kernel), al_5 29 (by decide +kernel), ⟨⟨by decide +kernel, by decide +kernel, by decide +kernel⟩, rfl, rfl⟩⟩
theorem kX7_on : zYv mX7_on 0 := ⟨al_5 31 (by decide +kernel), al_5 32 (by decide +kernel), al_1 8 (by decide +kernel), al_5 33 (by decide +kernel), ⟨⟨by decide +kernel, by decide +kernel, by decide +kernel⟩, rfl, rfl⟩⟩
theorem kX7_swinging : zYv mX7_swinging 1 := ⟨al_4 233 (by decide +kernel), al_s (q := (yX7_swinging, 36)) 45 (by decide +kernel), al_1 8 (by decide +kernel), al_4 234 (by decide +kernel), ⟨⟨by decide +kernel, by decide +kernel, by decide +kernel⟩, rfl, rfl⟩⟩
theorem kX7_cooling : zYv mX7_cooling 1 := ⟨al_4 237 (by decide +kernel), al_s (q := (yX7_cooling, 36)) 46 (by decide +kernel), al_1 8 (by decide +kernel), al_4 238 (by decide +kernel), ⟨⟨by decide +kernel, by decide +kernel, by decide +kernel⟩, rfl, rfl⟩⟩
theorem kX7_driftIn : zYv mX7_driftIn 1 := ⟨al_4 229 (by decide +kernel), al_s (q := (yX7_driftIn, 36)) 44 (by decide +kernel), al_1 8 (by decide +kernel), al_4 230 (by decide +kernel), ⟨⟨by decide +kernel, by decide +kernel, by decide +kernel⟩, rfl, rfl⟩⟩
theorem kX7_botherOf : zYv mX7_botherOf 2 := ⟨al_5 24 (by decide +kernel), al_s (q := (yX7_botherOf, 36)) 52 (by decide +kernel), al_1 8 (by decide +kernel), al_5 25 (by decide +kernel), ⟨⟨by decide +kernel, by decide +kernel, by decide +kernel⟩, rfl, rfl⟩⟩
theorem kX7_placeOf : zYv mX7_placeOf 1 := ⟨al_5 8 (by decide +kernel), al_s (q := (yX7_placeOf, 36)) 48 (by decide +kernel), al_1 8 (by decide +kernel), al_5 9 (by decide +kernel), ⟨⟨by decide +kernel, by decide +kernel, by decide +kernel⟩, rfl, rfl⟩⟩
theorem kX7_isUp : zYv mX7_isUp 0 := ⟨al_5 4 (by decide +kernel), al_s (q := (yX7_isUp, 36)) 47 (by decide +kernel), al_1 8 (by decide +kernel), al_5 5 (by decide +kernel), ⟨⟨by decide +kernel, by decide +kernel, by decide +kernel⟩, rfl, rfl⟩⟩
theorem kX7_shouldBe : zYv mX7_shouldBe 0 := ⟨al_5 16 (by decide +kernel), al_s (q := (yX7_shouldBe, 36)) 50 (by decide +kernel), al_1 8 (by decide +kernel), al_5 17 (by decide +kernel), ⟨⟨by decide +kernel, by decide +kernel, by decide +kernel⟩, rfl, rfl⟩⟩
theorem kX7_turnsTo : zYv mX7_turnsTo 2 := ⟨al_5 20 (by decide +kernel), al_s (q := (yX7_turnsTo, 36)) 51 (by decide +kernel), al_1 8 (by decide +kernel), al_5 21 (by decide +kernel), ⟨⟨by decide +kernel, by decide +kernel, by decide +kernel⟩, rfl, rfl⟩⟩
theorem kX7_begins : zYv mX7_begins 0 := ⟨al_4 221 (by decide +kernel), al_s (q := (yX7_begins, 36)) 42 (by decide +kernel), al_1 8 (by decide +kernel), al_4 222 (by decide +kernel), ⟨⟨by decide +kernel, by decide +kernel, by decide +kernel⟩, rfl, rfl⟩⟩
theorem kX7_getsUp : zYv mX7_getsUp 0 := ⟨al_5 12 (by decide +kernel), al_s (q := (yX7_getsUp, 36)) 49 (by decide +kernel), al_1 8 (by decide +kernel), al_5 13 (by decide +kernel), ⟨⟨by decide +kernel, by decide +kernel, by decide +kernel⟩, rfl, rfl⟩⟩
theorem kX7_goesOne : zYv mX7_goesOne 0 := ⟨al_4 225 (by decide +kernel), al_s (q := (yX7_goesOne, 36)) 43 (by decide +kernel), al_1 8 (by decide +kernel), al_4 226 (by decide +kernel), ⟨⟨by decide +kernel, by decide +kernel, by decide +kernel⟩, rfl, rfl⟩⟩
theorem kX7_goes : zYv mX7_goes 1 := ⟨al_4 217 (by decide +kernel), al_s (q := (yX7_goes, 36)) 41 (by decide +kernel), al_1 8 (by decide +kernel), al_4 218 (by decide +kernel), ⟨⟨by decide +kernel, by decide +kernel, by decide +kernel⟩, rfl, rfl⟩⟩
theorem kX7_costOf : zYv mX7_costOf 0 := ⟨al_5 85 (by decide +kernel), al_s (q := (yX7_costOf, 36)) 56 (by decide +kernel), al_1 8 (by decide +kernel), al_5 86 (by decide +kernel), ⟨⟨by decide +kernel, by decide +kernel, by decide +kernel⟩, rfl, rfl⟩⟩
theorem kX7_thinks : zYv mX7_thinks 1 := ⟨al_5 81 (by decide +kernel), al_s (q := (yX7_thinks, 36)) 55 (by decide +kernel), al_1 8 (by decide +kernel), al_5 82 (by decide +kernel), ⟨⟨by decide +kernel, by decide +kernel, by decide +kernel⟩, rfl, rfl⟩⟩
theorem kX7_thinksWith : zYv mX7_thinksWith 3 := ⟨al_5 109 (by decide +kernel), al_s (q := (yX7_thinksWith, 36)) 59 (by decide +kernel), al_1 8 (by decide +kernel), al_5 110 (by decide +kernel), ⟨⟨by decide +kernel, by decide +kernel, by decide +kernel⟩, rfl, rfl⟩⟩
theorem kX7_thinksByRule : zYv mX7_thinksByRule 2 := ⟨al_5 117 (by decide +kernel), al_s (q := (yX7_thinksByRule, 36)) 61 (by decide +kernel), al_1 8 (by decide +kernel), al_5 118 (by decide +kernel), ⟨⟨by decide +kernel, by decide +kernel, by decide +kernel⟩, rfl, rfl⟩⟩
theorem kX7_thinksFirst : zYv mX7_thinksFirst 2 := ⟨al_5 125 (by decide +kernel), al_s (q := (yX7_thinksFirst, 36)) 63 (by decide +kernel), al_1 8 (by decide +kernel), al_5 126 (by decide +kernel), ⟨⟨by decide +kernel, by decide +kernel, by decide +kernel⟩, rfl, rfl⟩⟩
theorem kX7_person : zYv mX7_person 2 := ⟨al_5 35 (by decide +kernel), al_5 36 (by decide +kernel), al_1 8 (by decide +kernel), al_5 37 (by decide +kernel), ⟨⟨by decide +kernel, by decide +kernel, by decide +kernel⟩, rfl, rfl⟩⟩
theorem kX7_bothers : zYv mX7_bothers 2 := ⟨al_5 43 (by decide +kernel), al_5 44 (by decide +kernel), al_1 8 (by decide +kernel), al_5 45 (by decide +kernel), ⟨⟨by decide +kernel, by decide +kernel, by decide +kernel⟩, rfl, rfl⟩⟩
theorem kX7_place : zYv mX7_place 1 := ⟨al_5 47 (by decide +kernel), al_5 48 (by decide +kernel), al_1 8 (by decide +kernel), al_5 49 (by decide +kernel), ⟨⟨by decide +kernel, by decide +kernel, by decide +kernel⟩, rfl, rfl⟩⟩
theorem kX7_set : zYv mX7_set 2 := ⟨al_5 56 (by decide +kernel), al_5 57 (by decide +kernel), al_1 8 (by decide +kernel), al_5 58 (by decide +kernel), ⟨⟨by decide +kernel, by decide +kernel, by decide +kernel⟩, rfl, rfl⟩⟩
theorem kX7_kind : zYv mX7_kind 2 := ⟨al_5 60 (by decide +kernel), al_5 61 (by decide +kernel), al_1 8 (by decide +kernel), al_5 62 (by decide +kernel), ⟨⟨by decide +kernel, by decide +kernel, by decide +kernel⟩, rfl, rfl⟩⟩
theorem kX7_turn : zYv mX7_turn 1 := ⟨al_5 64 (by decide +kernel), al_5 65 (by decide +kernel), al_1 8 (by decide +kernel), al_5 66 (by decide +kernel), ⟨⟨by decide +kernel, by decide +kernel, by decide +kernel⟩, rfl, rfl⟩⟩
theorem kX7_drifts : zYv mX7_drifts 1 := ⟨al_5 68 (by decide +kernel), al_5 69 (by decide +kernel), al_1 8 (by decide +kernel), al_5 70 (by decide +kernel), ⟨⟨by decide +kernel, by decide +kernel, by decide +kernel⟩, rfl, rfl⟩⟩
theorem kX7_go : zYv mX7_go 1 := ⟨al_5 72 (by decide +kernel), al_5 73 (by decide +kernel), al_1 8 (by decide +kernel), al_5 74 (by decide +kernel), ⟨⟨by decide +kernel, by decide +kernel, by decide +kernel⟩, rfl, rfl⟩⟩
theorem kX7_cost : zYv mX7_cost 2 := ⟨al_5 76 (by decide +kernel), al_5 77 (by decide +kernel), al_1 8 (by decide +kernel), al_5 78 (by decide +kernel), ⟨⟨by decide +kernel, by decide +kernel, by decide +kernel⟩, rfl, rfl⟩⟩
theorem kX7_at : zYv mX7_at 1 := ⟨al_5 88 (by decide +kernel), al_5 89 (by decide +kernel), al_1 8 (by decide +kernel), al_5 90 (by decide +kernel), ⟨⟨by decide +kernel, by decide +kernel, by decide +kernel⟩, rfl, rfl⟩⟩
theorem kX7_bothOf : zYv mX7_bothOf 1 := ⟨al_5 97 (by decide +kernel), al_s (q := (yX7_bothOf, 36)) 57 (by decide +kernel), al_1 8 (by decide +kernel), al_5 98 (by decide +kernel), ⟨⟨by decide +kernel, by decide +kernel, by decide +kernel⟩, rfl, rfl⟩⟩
theorem kX7_of : zYv mX7_of 3 := ⟨al_5 92 (by decide +kernel), al_5 93 (by decide +kernel), al_1 8 (by decide +kernel), al_5 94 (by decide +kernel), ⟨⟨by decide +kernel, by decide +kernel, by decide +kernel⟩, rfl, rfl⟩⟩
theorem kX7_bestSet : zYv mX7_bestSet 2 := ⟨al_5 105 (by decide +kernel), al_s (q := (yX7_bestSet, 36)) 58 (by decide +kernel), al_1 8 (by decide +kernel), al_5 106 (by decide +kernel), ⟨⟨by decide +kernel, by decide +kernel, by decide +kernel⟩, rfl, rfl⟩⟩
theorem kX7_bestRule : zYv mX7_bestRule 1 := ⟨al_5 113 (by decide +kernel), al_s (q := (yX7_bestRule, 36)) 60 (by decide +kernel), al_1 8 (by decide +kernel), al_5 114 (by decide +kernel), ⟨⟨by decide +kernel, by decide +kernel, by decide +kernel⟩, rfl, rfl⟩⟩
theorem kX7_bestFirst : zYv mX7_bestFirst 1 := ⟨al_5 121 (by decide +kernel), al_s (q := (yX7_bestFirst, 36)) 62 (by decide +kernel), al_1 8 (by decide +kernel), al_5 122 (by decide +kernel), ⟨⟨by decide +kernel, by decide +kernel, by decide +kernel⟩, rfl, rfl⟩⟩
theorem kX7_best : zYv mX7_best 2 := ⟨al_5 100 (by decide +kernel), al_5 101 (by decide +kernel), al_1 8 (by decide +kernel), al_5 102 (by decide +kernel), ⟨⟨by decide +kernel, by decide +kernel, by decide +kernel⟩, rfl, rfl⟩⟩
theorem kX7_finer : zYv mX7_finer 2 := ⟨al_5 128 (by decide +kernel), al_5 129 (by decide +kernel), al_1 8 (by decide +kernel), al_5 130 (by decide +kernel), ⟨⟨by decide +kernel, by decide +kernel, by decide +kernel⟩, rfl, rfl⟩⟩
theorem kX7_mark : zYv mX7_mark 1 := ⟨al_5 132 (by decide +kernel), al_5 133 (by decide +kernel), al_1 8 (by decide +kernel), al_5 134 (by decide +kernel), ⟨⟨by decide +kernel, by decide +kernel, by decide +kernel⟩, rfl, rfl⟩⟩
theorem kX7_most : zYv mX7_most 1 := ⟨al_5 136 (by decide +kernel), al_5 137 (by decide +kernel), al_1 8 (by decide +kernel), al_5 138 (by decide +kernel), ⟨⟨by decide +kernel, by decide +kernel, by decide +kernel⟩, rfl, rfl⟩⟩
theorem kX7_between : zYv mX7_between 1 := ⟨al_5 140 (by decide +kernel), al_5 141 (by decide +kernel), al_1 8 (by decide +kernel), al_5 142 (by decide +kernel), ⟨⟨by decide +kernel, by decide +kernel, by decide +kernel⟩, rfl, rfl⟩⟩
theorem kX7_leave : zYv mX7_leave 1 := ⟨al_5 144 (by decide +kernel), al_5 145 (by decide +kernel), al_1 8 (by decide +kernel), al_5 146 (by decide +kernel), ⟨⟨by decide +kernel, by decide +kernel, by decide +kernel⟩, rfl, rfl⟩⟩
theorem kX7_isOff : zYv mX7_isOff 1 := ⟨al_5 157 (by decide +kernel), al_s (q := (yX7_isOff, 36)) 65 (by decide +kernel), al_1 8 (by decide +kernel), al_5 158 (by decide +kernel), ⟨⟨by decide +kernel, by decide +kernel, by decide +kernel⟩, rfl, rfl⟩⟩
theorem kX7_holdsFrom : zYv mX7_holdsFrom 1 := ⟨al_5 153 (by decide +kernel), al_s (q := (yX7_holdsFrom, 36)) 64 (by decide +kernel), al_1 8 (by decide +kernel), al_5 154 (by decide +kernel), ⟨⟨by decide +kernel, by decide +kernel, by decide +kernel⟩, rfl, rfl⟩⟩
theorem kX7_holds : zYv mX7_holds 1 := ⟨al_5 148 (by decide +kernel), al_5 149 (by decide +kernel), al_1 8 (by decide +kernel), al_5 150 (by decide +kernel), ⟨⟨by decide +kernel, by decide +kernel, by decide +kernel⟩, rfl, rfl⟩⟩
theorem kX7_setAt : zYv mX7_setAt 0 := ⟨al_5 160 (by decide +kernel), al_5 161 (by decide +kernel), al_1 8 (by decide +kernel), al_5 162 (by decide +kernel), ⟨⟨by decide +kernel, by decide +kernel, by decide +kernel⟩, rfl, rfl⟩⟩
theorem kX7_isStill : zYv mX7_isStill 1 := ⟨al_5 169 (by decide +kernel), al_s (q := (yX7_isStill, 36)) 66 (by decide +kernel), al_1 8 (by decide +kernel), al_5 170 (by decide +kernel), ⟨⟨by decide +kernel, by decide +kernel, by decide +kernel⟩, rfl, rfl⟩⟩
theorem kX7_steadyFrom : zYv mX7_steadyFrom 0 := ⟨al_5 164 (by decide +kernel), al_5 165 (by decide +kernel), al_1 8 (by decide +kernel), al_5 166 (by decide +kernel), ⟨⟨by decide +kernel, by decide +kernel, by decide +kernel⟩, rfl, rfl⟩⟩
theorem kX7_whoLast : zYv mX7_whoLast 1 := ⟨al_5 172 (by decide +kernel), al_5 173 (by decide +kernel), al_1 8 (by decide +kernel), al_5 174 (by decide +kernel), ⟨⟨by decide +kernel, by decide +kernel, by decide +kernel⟩, rfl, rfl⟩⟩
theorem kX7_when : zYv mX7_when 1 := ⟨al_5 176 (by decide +kernel), al_5 177 (by decide +kernel), al_1 8 (by decide +kernel), al_5 178 (by decide +kernel), ⟨⟨by decide +kernel, by decide +kernel, by decide +kernel⟩, rfl, rfl⟩⟩
theorem kX7_row : zYv mX7_row 1 := ⟨al_5 180 (by decide +kernel), al_5 181 (by decide +kernel), al_1 8 (by decide +kernel), al_5 182 (by decide +kernel), ⟨⟨by decide +kernel, by decide +kernel, by decide +kernel⟩, rfl, rfl⟩⟩
theorem kX7_firstOther : zYv mX7_firstOther 0 := ⟨al_5 189 (by decide +kernel), al_s (q := (yX7_firstOther, 36)) 67 (by decide +kernel), al_1 8 (by decide +kernel), al_5 190 (by decide +kernel), ⟨⟨by decide +kernel, by decide +kernel, by decide +kernel⟩, rfl, rfl⟩⟩
theorem kX7_kept : zYv mX7_kept 1 := ⟨al_5 184 (by decide +kernel), al_5 185 (by decide +kernel), al_1 8 (by decide +kernel), al_5 186 (by decide +kernel), ⟨⟨by decide +kernel, by decide +kernel, by decide +kernel⟩, rfl, rfl⟩⟩
theorem kX7_judge : zYv mX7_judge 0 := ⟨al_5 192 (by decide +kernel), al_5 193 (by decide +kernel), al_1 8 (by decide +kernel), al_5 194 (by decide +kernel), ⟨⟨by decide +kernel, by decide +kernel, by decide +kernel⟩, rfl, rfl⟩⟩
theorem kX7_lots : zYv mX7_lots 2 := ⟨al_5 196 (by decide +kernel), al_5 197 (by decide +kernel), al_1 8 (by decide +kernel), al_5 198 (by decide +kernel), ⟨⟨by decide +kernel, by decide +kernel, by decide +kernel⟩, rfl, rfl⟩⟩
theorem kX7_count : zYv mX7_count 1 := ⟨al_5 203 (by decide +kernel), al_5 204 (by decide +kernel), al_1 8 (by decide +kernel), al_5 205 (by decide +kernel), ⟨⟨by decide +kernel, by decide +kernel, by decide +kernel⟩, rfl, rfl⟩⟩
theorem kJ0_length_8abf5 : zYv mJ0_length_8abf5 0 := ⟨al_2 4 (by decide +kernel), al_2 5 (by decide +kernel), al_1 9 (by decide +kernel), al_2 6 (by decide +kernel), ⟨⟨by decide +kernel, by decide +kernel, by decide +kernel⟩, rfl, rfl⟩⟩
theorem kJ0_isEmpty_aae02 : zYv mJ0_isEmpty_aae02 0 := ⟨al_2 131 (by decide +kernel), al_2 132 (by decide +kernel), al_1 9 (by decide +kernel), al_2 133 (by decide +kernel), ⟨⟨by decide +kernel, by decide +kernel, by decide +kernel⟩, rfl, rfl⟩⟩
theorem kJ0_charAt_5068e : zYv mJ0_charAt_5068e 1 := ⟨al_2 14 (by decide +kernel), al_2 15 (by decide +kernel), al_1 9 (by decide +kernel), al_2 16 (by decide +kernel), ⟨⟨by decide +kernel, by decide +kernel, by decide +kernel⟩, rfl, rfl⟩⟩
theorem kJ0_indexOf_0f7a4 : zYv mJ0_indexOf_0f7a4 1 := ⟨al_2 60 (by decide +kernel), al_2 61 (by decide +kernel), al_1 9 (by decide +kernel), al_2 62 (by decide +kernel), ⟨⟨by decide +kernel, by decide +kernel, by decide +kernel⟩, rfl, rfl⟩⟩
theorem kJ0_indexOf_7cf53 : zYv mJ0_indexOf_7cf53 2 := ⟨al_2 64 (by decide +kernel), al_2 65 (by decide +kernel), al_1 9 (by decide +kernel), al_2 66 (by decide +kernel), ⟨⟨by decide +kernel, by decide +kernel, by decide +kernel⟩, rfl, rfl⟩⟩
theorem kJ0_coder_7d493 : zYv mJ0_coder_7d493 0 := ⟨al_2 8 (by decide +kernel), al_2 9 (by decide +kernel), al_1 9 (by decide +kernel), al_2 10 (by decide +kernel), ⟨⟨by decide +kernel, by decide +kernel, by decide +kernel⟩, rfl, rfl⟩⟩
theorem kJ0_isLatin1_aae02 : zYv mJ0_isLatin1_aae02 0 := ⟨al_2 18 (by decide +kernel), al_2 19 (by decide +kernel), al_1 9 (by decide +kernel), al_2 20 (by decide +kernel), ⟨⟨by decide +kernel, by decide +kernel, by decide +kernel⟩, rfl, rfl⟩⟩
theorem kJ0_checkIndex_df160 : zYs mJ0_checkIndex_df160 2 := ⟨al_2 25 (by decide +kernel), al_1 9 (by decide +kernel), al_2 26 (by decide +kernel), ⟨⟨by decide +kernel, by decide +kernel, by decide +kernel⟩, rfl, rfl⟩⟩
theorem kJ1_charAt_3b067 : zYs mJ1_charAt_3b067 2 := ⟨al_2 22 (by decide +kernel), al_1 10 (by decide +kernel), al_2 23 (by decide +kernel), ⟨⟨by decide +kernel, by decide +kernel, by decide +kernel⟩, rfl, rfl⟩⟩
theorem kJ1_canEncode_9a6ad : zYs mJ1_canEncode_9a6ad 1 := ⟨al_2 72 (by decide +kernel), al_1 10 (by decide +kernel), al_2 73 (by decide +kernel), ⟨⟨by decide +kernel, by decide +kernel, by decide +kernel⟩, rfl, rfl⟩⟩
theorem kJ1_indexOf_4cfef : zYs mJ1_indexOf_4cfef 4 := ⟨al_2 69 (by decide +kernel), al_1 10 (by decide +kernel), al_2 70 (by decide +kernel), ⟨⟨by decide +kernel, by decide +kernel, by decide +kernel⟩, rfl, rfl⟩⟩
theorem kJ1_indexOfChar_4cfef : zYs mJ1_indexOfChar_4cfef 4 := ⟨al_2 81 (by decide +kernel), al_1 10 (by decide +kernel), al_2 82 (by decide +kernel), ⟨⟨by decide +kernel, by decide +kernel, by decide +kernel⟩, rfl, rfl⟩⟩
theorem kJ3_checkIndex_8e157 : zYs mJ3_checkIndex_8e157 3 := ⟨al_2 30 (by decide +kernel), al_1 11 (by decide +kernel), al_2 31 (by decide +kernel), ⟨⟨by decide +kernel, by decide +kernel, by decide +kernel⟩, rfl, rfl⟩⟩
theorem mw_max : Cond.static Lib.Math.max.name ∈ zAL ∧ Cond.initialized "java/lang/Math" ∈ zAL ∧ Cond.code Lib.Math.max.name Lib.Math.max.code 2 (some .int) ∈ zAL := ⟨al_2 75 (by decide +kernel), al_1 13 (by decide +kernel), al_2 76 (by decide +kernel)⟩
theorem mw_min : Cond.static Lib.Math.min.name ∈ zAL ∧ Cond.initialized "java/lang/Math" ∈ zAL ∧ Cond.code Lib.Math.min.name Lib.Math.min.code 2 (some .int) ∈ zAL := ⟨al_2 78 (by decide +kernel), al_1 13 (by decide +kernel), al_2 79 (by decide +kernel)⟩
theorem mw_abs : Cond.static Lib.Math.abs.name ∈ zAL ∧ Cond.initialized "java/lang/Math" ∈ zAL ∧ Cond.code Lib.Math.abs.name Lib.Math.abs.code 1 (some .int) ∈ zAL := ⟨al_3 9 (by decide +kernel), al_1 13 (by decide +kernel), al_3 10 (by decide +kernel)⟩
theorem lmX6_226 : Cond.methodLink RX6 226 Lib.Math.min.name ∈ zAL := al_2 234 (by decide +kernel)
theorem lmX6_231 : Cond.methodLink RX6 231 Lib.Math.max.name ∈ zAL := al_2 235 (by decide +kernel)
theorem lmX0_31 : Cond.methodLink RX0 31 Lib.Math.max.name ∈ zAL := al_3 52 (by decide +kernel)
theorem lmX2_142 : Cond.methodLink RX2 142 Lib.Math.abs.name ∈ zAL := al_3 8 (by decide +kernel)
theorem lmX3_32 : Cond.methodLink RX3 32 Lib.Math.abs.name ∈ zAL := al_3 27 (by decide +kernel)
theorem lmJ1_38 : Cond.methodLink RJ1 38 Lib.Math.min.name ∈ zAL := al_2 77 (by decide +kernel)
theorem lmJ1_92 : Cond.methodLink RJ1 92 Lib.Math.max.name ∈ zAL := al_2 74 (by decide +kernel)
