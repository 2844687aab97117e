/-! TABLES of the abstract machine: a method is (class number, name, code, locals, answer); fields, calls, constants by class number and pool index. Written by wip/gen/gen_tabs.py. -/
abbrev nzM : Type := Nat × MethodName × ByteArray × Nat × Option FieldType × Nat
def nX0_init : nzM := (0, yX0_init, cX0_init, 1, none, 2)
def nX0_clear : nzM := (0, yX0_clear, cX0_clear, 1, none, 1)
def nX0_rows : nzM := (0, yX0_rows, cX0_rows, 2, (some .int), 1)
def nX0_has : nzM := (0, yX0_has, cX0_has, 3, (some .boolean), 1)
def nX0_allHouses : nzM := (0, yX0_allHouses, cX0_allHouses, 1, (some .int), 1)
def nX0_hasHouses : nzM := (0, yX0_hasHouses, cX0_hasHouses, 2, (some .boolean), 1)
def nX0_addRow : nzM := (0, yX0_addRow, cX0_addRow, 2, (some .boolean), 1)
def nX0_putInLatest : nzM := (0, yX0_putInLatest, cX0_putInLatest, 5, none, 1)
def nX0_get : nzM := (0, yX0_get, cX0_get, 5, (some .int), 1)
def nX0_cellOf : nzM := (0, yX0_cellOf, cX0_cellOf, 4, (some .int), 1)
def nX0_wayBetween : nzM := (0, yX0_wayBetween, cX0_wayBetween, 8, (some .int), 1)
def nX0_startPlace : nzM := (0, yX0_startPlace, cX0_startPlace, 2, (some .int), 1)
def nX0_stayWithoutTea : nzM := (0, yX0_stayWithoutTea, cX0_stayWithoutTea, 4, (some .int), 1)
def nX0_boxHeat : nzM := (0, yX0_boxHeat, cX0_boxHeat, 5, (some .int), 1)
def nX0_isBadAt : nzM := (0, yX0_isBadAt, cX0_isBadAt, 3, (some .boolean), 1)
def nX0_dietOf : nzM := (0, yX0_dietOf, cX0_dietOf, 2, (some .int), 1)
def nX0_barredLetters : nzM := (0, yX0_barredLetters, cX0_barredLetters, 3, (some .int), 1)
def nX0_isFitForAll : nzM := (0, yX0_isFitForAll, cX0_isFitForAll, 4, (some .boolean), 1)
def nX1_init : nzM := (1, yX1_init, cX1_init, 1, none, 2)
def nX1_exchange : nzM := (1, yX1_exchange, cX1_exchange, 3, (some (.object "NoonMeals$Day")), 1)
def nX1_read : nzM := (1, yX1_read, cX1_read, 3, (some .boolean), 1)
def nX1_beginLine : nzM := (1, yX1_beginLine, cX1_beginLine, 1, (some .boolean), 1)
def nX1_sortOfLine : nzM := (1, yX1_sortOfLine, cX1_sortOfLine, 1, (some .int), 1)
def nX1_readRest : nzM := (1, yX1_readRest, cX1_readRest, 1, (some .boolean), 1)
def nX1_word : nzM := (1, yX1_word, cX1_word, 2, (some .boolean), 1)
def nX1_perhaps : nzM := (1, yX1_perhaps, cX1_perhaps, 3, (some .boolean), 1)
def nX1_letters : nzM := (1, yX1_letters, cX1_letters, 2, (some .boolean), 1)
def nX1_whole : nzM := (1, yX1_whole, cX1_whole, 4, (some .boolean), 1)
def nX1_unlikeDays : nzM := (1, yX1_unlikeDays, cX1_unlikeDays, 3, (some .boolean), 1)
def nX1_newName : nzM := (1, yX1_newName, cX1_newName, 1, (some .boolean), 1)
def nX1_toldName : nzM := (1, yX1_toldName, cX1_toldName, 4, (some .boolean), 1)
def nX1_take : nzM := (1, yX1_take, cX1_take, 3, (some .boolean), 1)
def nX1_findName : nzM := (1, yX1_findName, cX1_findName, 2, (some .int), 1)
def nX1_isName : nzM := (1, yX1_isName, cX1_isName, 1, (some .boolean), 1)
def nX1_lacksNothing : nzM := (1, yX1_lacksNothing, cX1_lacksNothing, 2, (some .boolean), 1)
def nX1_fail : nzM := (1, yX1_fail, cX1_fail, 2, (some .boolean), 1)
def nX2_init : nzM := (2, yX2_init, cX2_init, 1, none, 2)
def nX2_forget : nzM := (2, yX2_forget, cX2_forget, 1, none, 1)
def nX2_callOf : nzM := (2, yX2_callOf, cX2_callOf, 2, (some .int), 1)
def nX2_search : nzM := (2, yX2_search, cX2_search, 2, (some .long), 1)
def nX2_expectedAsTold : nzM := (2, yX2_expectedAsTold, cX2_expectedAsTold, 3, (some .long), 1)
def nX2_extend : nzM := (2, yX2_extend, cX2_extend, 5, none, 0)
def nX2_note : nzM := (2, yX2_note, cX2_note, 4, none, 1)
def nX2_expected : nzM := (2, yX2_expected, cX2_expected, 9, (some .long), 1)
def nX2_callCount : nzM := (2, yX2_callCount, cX2_callCount, 1, (some .int), 0)
def nX3_init : nzM := (3, yX3_init, cX3_init, 1, none, 2)
def nX3_forget : nzM := (3, yX3_forget, cX3_forget, 1, none, 1)
def nX3_dishOn : nzM := (3, yX3_dishOn, cX3_dishOn, 2, (some .int), 1)
def nX3_cheapest : nzM := (3, yX3_cheapest, cX3_cheapest, 7, (some .int), 1)
def nX3_coinFrom : nzM := (3, yX3_coinFrom, cX3_coinFrom, 6, (some .int), 1)
def nX3_leastBut : nzM := (3, yX3_leastBut, cX3_leastBut, 5, (some .int), 1)
def nX3_tell : nzM := (3, yX3_tell, cX3_tell, 4, none, 1)
def nX3_firstCheapest : nzM := (3, yX3_firstCheapest, cX3_firstCheapest, 5, (some .int), 1)
def nX3_priceHouses : nzM := (3, yX3_priceHouses, cX3_priceHouses, 4, (some .boolean), 1)
def nX3_dropFor : nzM := (3, yX3_dropFor, cX3_dropFor, 5, (some .int), 1)
def nX3_priceOfLeft : nzM := (3, yX3_priceOfLeft, cX3_priceOfLeft, 5, (some .int), 1)
def nX3_leastNeeding : nzM := (3, yX3_leastNeeding, cX3_leastNeeding, 7, (some .int), 1)
def nX4_init : nzM := (4, yX4_init, cX4_init, 1, none, 2)
def nX4_forget : nzM := (4, yX4_forget, cX4_forget, 1, none, 1)
def nX4_worth : nzM := (4, yX4_worth, cX4_worth, 3, (some .int), 1)
def nX4_houseAt : nzM := (4, yX4_houseAt, cX4_houseAt, 5, (some .int), 1)
def nX4_isInside : nzM := (4, yX4_isInside, cX4_isInside, 2, (some .boolean), 0)
def nX4_learn : nzM := (4, yX4_learn, cX4_learn, 4, none, 1)
def nX4_extend : nzM := (4, yX4_extend, cX4_extend, 13, none, 0)
def nX4_note : nzM := (4, yX4_note, cX4_note, 6, none, 1)
def nX5_init : nzM := (5, yX5_init, cX5_init, 1, none, 2)
def nX5_clear : nzM := (5, yX5_clear, cX5_clear, 1, none, 1)
def nX5_append : nzM := (5, yX5_append, cX5_append, 4, (some .int), 1)
def nX5_offByMore : nzM := (5, yX5_offByMore, cX5_offByMore, 6, (some .int), 1)
def nX5_earliestBelow : nzM := (5, yX5_earliestBelow, cX5_earliestBelow, 5, (some .int), 1)
def nX6_init : nzM := (6, yX6_init, cX6_init, 1, none, 2)
def nX6_clear : nzM := (6, yX6_clear, cX6_clear, 1, none, 1)
def nX6_count : nzM := (6, yX6_count, cX6_count, 2, (some .int), 1)
def nX6_houseAt : nzM := (6, yX6_houseAt, cX6_houseAt, 3, (some .int), 1)
def nX6_append : nzM := (6, yX6_append, cX6_append, 4, (some .int), 1)
def nX6_clearRound : nzM := (6, yX6_clearRound, cX6_clearRound, 3, (some .int), 1)
def nX6_carOf : nzM := (6, yX6_carOf, cX6_carOf, 4, (some .int), 1)
def nX6_housesOf : nzM := (6, yX6_housesOf, cX6_housesOf, 4, (some .int), 1)
def nX6_arrival : nzM := (6, yX6_arrival, cX6_arrival, 3, (some .int), 1)
def nX6_follow : nzM := (6, yX6_follow, cX6_follow, 10, (some .int), 1)
def nX6_oddsOf : nzM := (6, yX6_oddsOf, cX6_oddsOf, 12, (some .long), 1)
def nX7_init : nzM := (7, yX7_init, cX7_init, 1, none, 2)
def nX7_forget : nzM := (7, yX7_forget, cX7_forget, 1, none, 1)
def nX7_carOf : nzM := (7, yX7_carOf, cX7_carOf, 2, (some .int), 1)
def nX7_search : nzM := (7, yX7_search, cX7_search, 3, (some .int), 1)
def nX7_give : nzM := (7, yX7_give, cX7_give, 5, none, 0)
def nX7_note : nzM := (7, yX7_note, cX7_note, 4, none, 1)
def nX8_init : nzM := (8, yX8_init, cX8_init, 1, none, 2)
def nX8_clear : nzM := (8, yX8_clear, cX8_clear, 1, none, 1)
def nX8_count : nzM := (8, yX8_count, cX8_count, 2, (some .int), 1)
def nX8_append : nzM := (8, yX8_append, cX8_append, 4, (some .int), 1)
def nX8_choicesNoLess : nzM := (8, yX8_choicesNoLess, cX8_choicesNoLess, 9, (some .int), 1)
def nX9_init : nzM := (9, yX9_init, cX9_init, 1, none, 2)
def nX9_hasRoom : nzM := (9, yX9_hasRoom, cX9_hasRoom, 2, (some .boolean), 1)
def nX9_append : nzM := (9, yX9_append, cX9_append, 3, none, 1)
def nX9_empty : nzM := (9, yX9_empty, cX9_empty, 1, none, 1)
def nX9_open : nzM := (9, yX9_open, cX9_open, 2, none, 1)
def nX9_next : nzM := (9, yX9_next, cX9_next, 2, none, 1)
def nX9_isWord : nzM := (9, yX9_isWord, cX9_isWord, 3, (some .boolean), 1)
def nX9_takeWord : nzM := (9, yX9_takeWord, cX9_takeWord, 2, none, 1)
def nX9_takeWhole : nzM := (9, yX9_takeWhole, cX9_takeWhole, 1, none, 1)
def nX9_takeSign : nzM := (9, yX9_takeSign, cX9_takeSign, 2, none, 1)
def nX10_init : nzM := (10, yX10_init, cX10_init, 1, none, 2)
def nX10_forget : nzM := (10, yX10_forget, cX10_forget, 1, none, 1)
def nX10_helperOf : nzM := (10, yX10_helperOf, cX10_helperOf, 2, (some .int), 1)
def nX10_fillWeek : nzM := (10, yX10_fillWeek, cX10_fillWeek, 5, (some .int), 1)
def nX10_noteWishers : nzM := (10, yX10_noteWishers, cX10_noteWishers, 5, none, 1)
def nX10_capForFewest : nzM := (10, yX10_capForFewest, cX10_capForFewest, 4, (some .int), 1)
def nX10_capAt : nzM := (10, yX10_capAt, cX10_capAt, 4, none, 1)
def nX10_firstFor : nzM := (10, yX10_firstFor, cX10_firstFor, 4, (some .int), 1)
def nX10_mostFrom : nzM := (10, yX10_mostFrom, cX10_mostFrom, 6, (some .int), 1)
def nX11_init : nzM := (11, yX11_init, cX11_init, 1, none, 2)
def nX11_feed : nzM := (11, yX11_feed, cX11_feed, 6, (some .int), 1)
def nX11_day : nzM := (11, yX11_day, cX11_day, 3, (some .int), 1)
def nX11_fault : nzM := (11, yX11_fault, cX11_fault, 1, (some .int), 1)
def nX11_where : nzM := (11, yX11_where, cX11_where, 1, (some .int), 1)
def nX11_drive : nzM := (11, yX11_drive, cX11_drive, 3, (some .int), 1)
def nX11_unload : nzM := (11, yX11_unload, cX11_unload, 2, (some .int), 1)
def nX11_tea : nzM := (11, yX11_tea, cX11_tea, 2, (some .boolean), 1)
def nX11_comes : nzM := (11, yX11_comes, cX11_comes, 3, (some .int), 1)
def nX11_heat : nzM := (11, yX11_heat, cX11_heat, 3, (some .int), 1)
def nX11_bad : nzM := (11, yX11_bad, cX11_bad, 2, (some .int), 1)
def nX11_way : nzM := (11, yX11_way, cX11_way, 3, (some .int), 1)
def nX11_best : nzM := (11, yX11_best, cX11_best, 4, (some .int), 1)
def nX11_bestAt : nzM := (11, yX11_bestAt, cX11_bestAt, 5, (some .int), 1)
def nX11_share : nzM := (11, yX11_share, cX11_share, 2, (some .int), 1)
def nX11_shared : nzM := (11, yX11_shared, cX11_shared, 2, (some .int), 1)
def nX11_odds : nzM := (11, yX11_odds, cX11_odds, 2, (some .long), 1)
def nX11_costs : nzM := (11, yX11_costs, cX11_costs, 6, (some .int), 1)
def nX11_fits : nzM := (11, yX11_fits, cX11_fits, 3, (some .int), 1)
def nX11_breach : nzM := (11, yX11_breach, cX11_breach, 3, (some .int), 1)
def nX11_forAll : nzM := (11, yX11_forAll, cX11_forAll, 3, (some .int), 1)
def nX11_menu : nzM := (11, yX11_menu, cX11_menu, 4, (some .int), 1)
def nX11_menuAt : nzM := (11, yX11_menuAt, cX11_menuAt, 2, (some .int), 1)
def nX11_dropped : nzM := (11, yX11_dropped, cX11_dropped, 3, (some .int), 1)
def nX11_knock : nzM := (11, yX11_knock, cX11_knock, 2, (some .long), 1)
def nX11_callAt : nzM := (11, yX11_callAt, cX11_callAt, 2, (some .int), 1)
def nX11_asTold : nzM := (11, yX11_asTold, cX11_asTold, 2, (some .long), 1)
def nX11_fill : nzM := (11, yX11_fill, cX11_fill, 1, (some .int), 1)
def nX11_helper : nzM := (11, yX11_helper, cX11_helper, 2, (some .int), 1)
def nX11_sign : nzM := (11, yX11_sign, cX11_sign, 3, (some .int), 1)
def nX11_fading : nzM := (11, yX11_fading, cX11_fading, 2, (some .int), 1)
def nX11_probe : nzM := (11, yX11_probe, cX11_probe, 5, (some .int), 1)
def nX11_faulty : nzM := (11, yX11_faulty, cX11_faulty, 2, (some .int), 1)
def nX11_firstCold : nzM := (11, yX11_firstCold, cX11_firstCold, 1, (some .int), 1)
def nX11_recall : nzM := (11, yX11_recall, cX11_recall, 4, (some .int), 1)
def nX11_led : nzM := (11, yX11_led, cX11_led, 4, (some .int), 1)
def nX11_size : nzM := (11, yX11_size, cX11_size, 2, (some .int), 1)
def nX11_trouble : nzM := (11, yX11_trouble, cX11_trouble, 1, (some .int), 1)
def nX11_refuse : nzM := (11, yX11_refuse, cX11_refuse, 2, (some .int), 1)
def nX11_accept : nzM := (11, yX11_accept, cX11_accept, 2, (some .int), 1)
def nX11_noDay : nzM := (11, yX11_noDay, cX11_noDay, 1, (some .boolean), 1)
def nX11_forgetDoings : nzM := (11, yX11_forgetDoings, cX11_forgetDoings, 1, none, 1)
def nX11_drivenTrouble : nzM := (11, yX11_drivenTrouble, cX11_drivenTrouble, 2, (some .int), 1)
def nX11_bestTrouble : nzM := (11, yX11_bestTrouble, cX11_bestTrouble, 4, (some .int), 1)
def nX11_callTrouble : nzM := (11, yX11_callTrouble, cX11_callTrouble, 1, (some .int), 1)
def nX11_isWithin : nzM := (11, yX11_isWithin, cX11_isWithin, 3, (some .boolean), 0)
def nX12_init : nzM := (12, yX12_init, cX12_init, 1, none, 2)
def nX12_find : nzM := (12, yX12_find, cX12_find, 4, (some .int), 1)
def nX12_way : nzM := (12, yX12_way, cX12_way, 7, (some .int), 1)
def nX13_init : nzM := (13, yX13_init, cX13_init, 1, none, 2)
def nX13_thrown : nzM := (13, yX13_thrown, cX13_thrown, 1, (some .int), 1)
def nX13_refused : nzM := (13, yX13_refused, cX13_refused, 2, (some .int), 1)
def nX13_lost : nzM := (13, yX13_lost, cX13_lost, 2, (some .int), 1)
def nX13_done : nzM := (13, yX13_done, cX13_done, 2, (some .int), 1)
def nX13_in : nzM := (13, yX13_in, cX13_in, 3, (some .boolean), 0)
def nX13_byteAt : nzM := (13, yX13_byteAt, cX13_byteAt, 2, (some .int), 1)
def nX13_isLetter : nzM := (13, yX13_isLetter, cX13_isLetter, 1, (some .boolean), 0)
def nX13_isDigit : nzM := (13, yX13_isDigit, cX13_isDigit, 1, (some .boolean), 0)
def nX13_wordOf : nzM := (13, yX13_wordOf, cX13_wordOf, 4, (some .long), 0)
def nX13_goesOn : nzM := (13, yX13_goesOn, cX13_goesOn, 3, none, 1)
def nX13_wrong : nzM := (13, yX13_wrong, cX13_wrong, 2, none, 1)
def nX13_isWord : nzM := (13, yX13_isWord, cX13_isWord, 2, (some .boolean), 1)
def nX13_eatsWord : nzM := (13, yX13_eatsWord, cX13_eatsWord, 3, (some .boolean), 1)
def nX13_eatsSign : nzM := (13, yX13_eatsSign, cX13_eatsSign, 3, (some .boolean), 1)
def nX13_needs : nzM := (13, yX13_needs, cX13_needs, 2, none, 1)
def nX13_readWhole : nzM := (13, yX13_readWhole, cX13_readWhole, 4, (some .int), 1)
def nX13_readPart : nzM := (13, yX13_readPart, cX13_readPart, 4, (some .int), 1)
def nX13_readLetters : nzM := (13, yX13_readLetters, cX13_readLetters, 2, (some .int), 1)
def nX13_isName : nzM := (13, yX13_isName, cX13_isName, 1, (some .boolean), 1)
def nX13_readNamed : nzM := (13, yX13_readNamed, cX13_readNamed, 4, none, 1)
def nX13_readKnown : nzM := (13, yX13_readKnown, cX13_readKnown, 4, (some .int), 1)
def nX13_readDay : nzM := (13, yX13_readDay, cX13_readDay, 2, none, 1)
def nX13_readLine : nzM := (13, yX13_readLine, cX13_readLine, 1, none, 1)
def nX13_readLaw : nzM := (13, yX13_readLaw, cX13_readLaw, 3, none, 1)
def nX13_readKitchen : nzM := (13, yX13_readKitchen, cX13_readKitchen, 3, none, 1)
def nX13_readFlood : nzM := (13, yX13_readFlood, cX13_readFlood, 3, none, 1)
def nX13_readDish : nzM := (13, yX13_readDish, cX13_readDish, 3, none, 1)
def nX13_readDiet : nzM := (13, yX13_readDiet, cX13_readDiet, 2, none, 1)
def nX13_readHouse : nzM := (13, yX13_readHouse, cX13_readHouse, 9, none, 1)
def nX13_readCar : nzM := (13, yX13_readCar, cX13_readCar, 7, none, 1)
def nX13_readCall : nzM := (13, yX13_readCall, cX13_readCall, 3, none, 1)
def nX13_readHelper : nzM := (13, yX13_readHelper, cX13_readHelper, 4, none, 1)
def nX13_feed : nzM := (13, yX13_feed, cX13_feed, 8, (some .int), 1)
def nX13_day : nzM := (13, yX13_day, cX13_day, 3, (some .int), 1)
def nX13_fault : nzM := (13, yX13_fault, cX13_fault, 1, (some .int), 1)
def nX13_where : nzM := (13, yX13_where, cX13_where, 1, (some .int), 1)
def nX13_isCar : nzM := (13, yX13_isCar, cX13_isCar, 2, (some .boolean), 1)
def nX13_isHouse : nzM := (13, yX13_isHouse, cX13_isHouse, 2, (some .boolean), 1)
def nX13_has : nzM := (13, yX13_has, cX13_has, 2, (some .boolean), 0)
def nX13_carOf : nzM := (13, yX13_carOf, cX13_carOf, 4, (some .int), 1)
def nX13_drive : nzM := (13, yX13_drive, cX13_drive, 3, (some .int), 1)
def nX13_unload : nzM := (13, yX13_unload, cX13_unload, 3, (some .int), 1)
def nX13_tea : nzM := (13, yX13_tea, cX13_tea, 2, (some .boolean), 1)
def nX13_goes : nzM := (13, yX13_goes, cX13_goes, 7, none, 1)
def nX13_heatBy : nzM := (13, yX13_heatBy, cX13_heatBy, 3, (some .int), 1)
def nX13_goesAsDriven : nzM := (13, yX13_goesAsDriven, cX13_goesAsDriven, 4, none, 1)
def nX13_comesTo : nzM := (13, yX13_comesTo, cX13_comesTo, 3, (some .int), 1)
def nX13_comes : nzM := (13, yX13_comes, cX13_comes, 3, (some .int), 1)
def nX13_heat : nzM := (13, yX13_heat, cX13_heat, 3, (some .int), 1)
def nX13_bad : nzM := (13, yX13_bad, cX13_bad, 2, (some .int), 1)
def nX13_way : nzM := (13, yX13_way, cX13_way, 3, (some .int), 1)
def nX13_bits : nzM := (13, yX13_bits, cX13_bits, 3, (some .int), 0)
def nX13_orders : nzM := (13, yX13_orders, cX13_orders, 3, (some .int), 0)
def nX13_ordered : nzM := (13, yX13_ordered, cX13_ordered, 9, none, 1)
def nX13_bests : nzM := (13, yX13_bests, cX13_bests, 8, none, 1)
def nX13_refusesBest : nzM := (13, yX13_refusesBest, cX13_refusesBest, 3, (some .int), 1)
def nX13_best : nzM := (13, yX13_best, cX13_best, 4, (some .int), 1)
def nX13_bestAt : nzM := (13, yX13_bestAt, cX13_bestAt, 5, (some .int), 1)
def nX13_housesOf : nzM := (13, yX13_housesOf, cX13_housesOf, 6, (some .int), 1)
def nX13_shares : nzM := (13, yX13_shares, cX13_shares, 3, (some .int), 1)
def nX13_weighsCars : nzM := (13, yX13_weighsCars, cX13_weighsCars, 3, none, 1)
def nX13_share : nzM := (13, yX13_share, cX13_share, 10, (some .int), 1)
def nX13_shared : nzM := (13, yX13_shared, cX13_shared, 2, (some .int), 1)
def nX13_odds : nzM := (13, yX13_odds, cX13_odds, 10, (some .long), 1)
def nX13_costs : nzM := (13, yX13_costs, cX13_costs, 4, (some .int), 1)
def nX13_isDish : nzM := (13, yX13_isDish, cX13_isDish, 2, (some .boolean), 1)
def nX13_barred : nzM := (13, yX13_barred, cX13_barred, 3, (some .int), 1)
def nX13_fits : nzM := (13, yX13_fits, cX13_fits, 3, (some .int), 1)
def nX13_breach : nzM := (13, yX13_breach, cX13_breach, 3, (some .int), 1)
def nX13_forAll : nzM := (13, yX13_forAll, cX13_forAll, 5, (some .int), 1)
def nX13_cheapest : nzM := (13, yX13_cheapest, cX13_cheapest, 6, (some .int), 1)
def nX13_coinOf : nzM := (13, yX13_coinOf, cX13_coinOf, 6, (some .int), 1)
def nX13_menu : nzM := (13, yX13_menu, cX13_menu, 8, (some .int), 1)
def nX13_menuAt : nzM := (13, yX13_menuAt, cX13_menuAt, 2, (some .int), 1)
def nX13_dropped : nzM := (13, yX13_dropped, cX13_dropped, 7, (some .int), 1)
def nX13_expected : nzM := (13, yX13_expected, cX13_expected, 8, (some .long), 1)
def nX13_knock : nzM := (13, yX13_knock, cX13_knock, 7, (some .long), 1)
def nX13_callAt : nzM := (13, yX13_callAt, cX13_callAt, 2, (some .int), 1)
def nX13_asTold : nzM := (13, yX13_asTold, cX13_asTold, 2, (some .long), 1)
def nX13_whoOf : nzM := (13, yX13_whoOf, cX13_whoOf, 5, (some .int), 1)
def nX13_worthOf : nzM := (13, yX13_worthOf, cX13_worthOf, 6, (some .int), 1)
def nX13_fill : nzM := (13, yX13_fill, cX13_fill, 6, (some .int), 1)
def nX13_helper : nzM := (13, yX13_helper, cX13_helper, 2, (some .int), 1)
def nX13_sign : nzM := (13, yX13_sign, cX13_sign, 3, (some .int), 1)
def nX13_fading : nzM := (13, yX13_fading, cX13_fading, 9, (some .int), 1)
def nX13_probe : nzM := (13, yX13_probe, cX13_probe, 4, (some .int), 1)
def nX13_faulty : nzM := (13, yX13_faulty, cX13_faulty, 5, (some .int), 1)
def nX13_firstCold : nzM := (13, yX13_firstCold, cX13_firstCold, 3, (some .int), 1)
def nX13_recall : nzM := (13, yX13_recall, cX13_recall, 5, (some .int), 1)
def nX13_led : nzM := (13, yX13_led, cX13_led, 3, (some .int), 1)
def nX13_size : nzM := (13, yX13_size, cX13_size, 2, (some .int), 1)
def nX13_trouble : nzM := (13, yX13_trouble, cX13_trouble, 1, (some .int), 1)
def nJ6_bitCount_0f7a4 : nzM := (15, yJ6_bitCount_0f7a4, cJ6_bitCount_0f7a4, 1, (some .int), 0)
def nJ9_floorDiv_7cf53 : nzM := (16, yJ9_floorDiv_7cf53, cJ9_floorDiv_7cf53, 3, (some .int), 0)
def nJ9_abs_0f7a4 : nzM := (16, yJ9_abs_0f7a4, cJ9_abs_0f7a4, 1, (some .int), 0)
def nJ9_max_7cf53 : nzM := (16, yJ9_max_7cf53, cJ9_max_7cf53, 2, (some .int), 0)
def nJ9_min_7cf53 : nzM := (16, yJ9_min_7cf53, cJ9_min_7cf53, 2, (some .int), 0)
def nJ0_length_8abf5 : nzM := (18, yJ0_length_8abf5, cJ0_length_8abf5, 1, (some .int), 1)
def nJ0_charAt_5068e : nzM := (18, yJ0_charAt_5068e, cJ0_charAt_5068e, 2, (some .char), 1)
def nJ0_coder_7d493 : nzM := (18, yJ0_coder_7d493, cJ0_coder_7d493, 1, (some .byte), 1)
def nJ0_isLatin1_aae02 : nzM := (18, yJ0_isLatin1_aae02, cJ0_isLatin1_aae02, 1, (some .boolean), 1)
def nJ0_checkIndex_df160 : nzM := (18, yJ0_checkIndex_df160, cJ0_checkIndex_df160, 2, none, 0)
def nJ1_charAt_3b067 : nzM := (19, yJ1_charAt_3b067, cJ1_charAt_3b067, 2, (some .char), 0)
def nJ7_fill_53178 : nzM := (17, yJ7_fill_53178, cJ7_fill_53178, 4, none, 0)
def nJ3_checkIndex_8e157 : nzM := (20, yJ3_checkIndex_8e157, cJ3_checkIndex_8e157, 3, (some .int), 0)
def nL_law : nzM := (14, yL_law, cL_law, 7, (some .boolean), 0)
def nzTF : List (List (Nat × (Nat × Nat × Nat × Nat))) := [[(9, 0, 0, 0, 2), (15, 0, 0, 1, 2)],
  [(12, 0, 1, 0, 2), (18, 0, 1, 1, 2), (22, 0, 1, 2, 2), (26, 0, 1, 3, 2), (32, 0, 1, 4, 2), (39, 0, 1, 5, 0), (43, 0, 1, 7, 0), (46, 0, 1, 8, 0), (60, 1, 9, 3, 0), (77, 0, 1, 6, 0), (174, 1, 9, 7, 0), (176, 1, 9, 8, 0), (188, 1, 9, 6, 1), (200, 1, 9, 4, 0)],
  [(9, 0, 2, 0, 2), (15, 0, 2, 1, 2), (18, 0, 2, 3, 0), (24, 0, 2, 2, 1)],
  [(11, 0, 3, 0, 2), (16, 0, 3, 1, 2), (20, 0, 3, 2, 2), (23, 0, 3, 3, 0)],
  [(11, 0, 4, 0, 2), (16, 0, 4, 1, 2), (19, 0, 4, 2, 2), (23, 0, 4, 3, 0)],
  [(9, 0, 5, 0, 2), (15, 0, 5, 1, 2), (18, 0, 5, 2, 2), (21, 0, 5, 3, 0)],
  [(11, 0, 6, 0, 2), (16, 0, 6, 1, 2), (20, 0, 6, 2, 2), (29, 0, 6, 3, 0)],
  [(9, 0, 7, 0, 2), (15, 0, 7, 1, 2), (18, 0, 7, 2, 2), (21, 0, 7, 4, 0), (26, 0, 7, 3, 0)],
  [(11, 0, 8, 0, 2), (16, 0, 8, 1, 2)],
  [(9, 0, 9, 0, 2), (15, 0, 9, 1, 0), (28, 0, 9, 2, 0), (31, 0, 9, 5, 0), (37, 0, 9, 4, 0), (40, 0, 9, 3, 0), (62, 0, 9, 6, 1), (66, 0, 9, 7, 0), (71, 0, 9, 8, 0)],
  [(9, 0, 10, 0, 2), (15, 0, 10, 1, 2), (18, 0, 10, 2, 2), (21, 0, 10, 3, 0)],
  [(10, 0, 11, 0, 2), (19, 0, 11, 1, 2), (26, 0, 11, 2, 2), (33, 0, 11, 3, 2), (40, 0, 11, 4, 2), (47, 0, 11, 5, 2), (54, 0, 11, 6, 2), (61, 0, 11, 7, 2), (68, 0, 11, 8, 2), (75, 0, 11, 9, 2), (79, 0, 11, 10, 0), (83, 1, 1, 0, 2), (97, 1, 9, 1, 0), (123, 1, 1, 7, 0), (126, 1, 1, 8, 0), (156, 1, 6, 3, 0), (259, 1, 5, 3, 0)],
  [(9, 0, 12, 0, 0), (15, 0, 12, 11, 2), (19, 0, 12, 12, 2), (22, 0, 12, 13, 2), (25, 0, 12, 14, 2), (28, 0, 12, 15, 2), (31, 0, 12, 16, 2), (34, 0, 12, 17, 2), (37, 0, 12, 18, 2), (40, 0, 12, 19, 2), (43, 0, 12, 20, 2), (46, 0, 12, 21, 2), (49, 0, 12, 22, 2), (52, 0, 12, 23, 2), (55, 0, 12, 24, 2), (59, 0, 12, 25, 2), (62, 0, 12, 26, 2), (65, 0, 12, 27, 2), (68, 0, 12, 28, 2), (71, 0, 12, 29, 2), (74, 0, 12, 30, 2), (77, 0, 12, 31, 2), (80, 0, 12, 32, 2), (83, 0, 12, 33, 2), (86, 0, 12, 34, 2), (90, 0, 12, 35, 2), (93, 0, 12, 36, 2), (96, 0, 12, 10, 0), (99, 0, 12, 7, 0)],
  [(9, 0, 13, 2, 0), (13, 0, 13, 5, 2), (17, 0, 13, 17, 2), (21, 0, 13, 18, 2), (24, 0, 13, 22, 2), (27, 0, 13, 23, 2), (30, 0, 13, 26, 2), (33, 0, 13, 28, 2), (36, 0, 13, 29, 2), (39, 0, 13, 30, 2), (42, 0, 13, 31, 2), (45, 0, 13, 32, 2), (48, 0, 13, 35, 2), (51, 0, 13, 36, 2), (54, 0, 13, 38, 2), (57, 0, 13, 39, 2), (60, 0, 13, 40, 2), (63, 0, 13, 41, 2), (66, 0, 13, 43, 2), (69, 0, 13, 44, 2), (72, 0, 13, 45, 2), (75, 0, 13, 0, 0), (78, 0, 13, 1, 0), (85, 0, 13, 7, 0), (100, 0, 13, 9, 0), (103, 0, 13, 8, 0), (109, 0, 13, 10, 0), (112, 0, 13, 11, 0), (119, 0, 13, 16, 1), (123, 0, 13, 15, 0), (129, 0, 13, 12, 0), (132, 0, 13, 13, 0), (135, 0, 13, 14, 0), (191, 0, 13, 4, 2), (201, 1, 12, 34, 2), (205, 1, 12, 10, 0), (208, 1, 12, 35, 2), (211, 1, 12, 36, 2), (220, 1, 12, 0, 0), (223, 1, 12, 5, 0), (226, 1, 12, 6, 0), (263, 1, 12, 1, 0), (265, 1, 12, 2, 0), (273, 1, 12, 11, 2), (276, 1, 12, 12, 2), (279, 1, 12, 7, 0), (284, 1, 12, 16, 2), (287, 1, 12, 17, 2), (290, 1, 12, 3, 0), (300, 1, 12, 13, 2), (303, 1, 12, 14, 2), (306, 1, 12, 4, 0), (311, 1, 12, 15, 2), (329, 1, 12, 18, 2), (332, 1, 12, 19, 2), (334, 1, 12, 20, 2), (336, 1, 12, 21, 2), (338, 1, 12, 22, 2), (340, 1, 12, 23, 2), (342, 1, 12, 24, 2), (354, 1, 12, 26, 2), (356, 1, 12, 27, 2), (358, 1, 12, 28, 2), (360, 1, 12, 29, 2), (362, 1, 12, 25, 2), (365, 1, 12, 8, 0), (370, 1, 12, 30, 2), (372, 1, 12, 31, 2), (375, 1, 12, 9, 0), (382, 1, 12, 32, 2), (385, 1, 12, 33, 2), (387, 0, 13, 6, 0), (394, 0, 13, 3, 2), (397, 0, 13, 19, 0), (400, 0, 13, 42, 0), (403, 0, 13, 33, 0), (406, 0, 13, 34, 0), (409, 0, 13, 37, 0), (413, 0, 13, 27, 0), (428, 0, 13, 21, 0), (431, 0, 13, 20, 0), (463, 0, 13, 24, 0), (466, 0, 13, 25, 0)],
  [],
  [],
  [],
  [],
  [(9, 0, 18, 0, 2), (15, 0, 18, 1, 0)],
  [],
  []]
def nzTM : List (List (Nat × (Nat × Nat × nzM))) := [[(3, 6, 0, nX0_init), (18, 1, 2, nJ7_fill_53178), (24, 0, 1, nX0_rows), (28, 0, 0, nX0_allHouses), (35, 0, 3, nX0_cellOf), (39, 9, 2, nX0_init), (45, 10, 2, nX0_init), (48, 0, 3, nX0_get), (51, 1, 2, nJ9_floorDiv_7cf53), (54, 0, 2, nX0_boxHeat), (57, 0, 1, nX0_dietOf), (60, 0, 2, nX0_barredLetters)],
  [(3, 6, 0, nX0_init), (11, 5, 0, nX9_init), (31, 5, 0, nX0_init), (36, 0, 0, nX0_clear), (49, 0, 1, nX9_open), (53, 0, 0, nX1_beginLine), (57, 0, 0, nX1_readRest), (63, 0, 0, nX1_lacksNothing), (66, 0, 1, nX1_fail), (70, 0, 0, nX9_next), (73, 0, 0, nX1_sortOfLine), (80, 0, 1, nX0_addRow), (85, 0, 1, nX9_isWord), (107, 0, 1, nX1_word), (110, 0, 3, nX1_whole), (116, 0, 0, nX1_newName), (125, 0, 1, nX1_letters), (134, 0, 2, nX1_toldName), (148, 0, 2, nX1_perhaps), (166, 0, 0, nX1_unlikeDays), (171, 0, 2, nX1_take), (179, 4, 3, nX11_isWithin), (182, 0, 0, nX1_isName), (185, 0, 0, nX1_findName), (192, 0, 1, nX0_rows), (196, 0, 3, nX0_putInLatest)],
  [(3, 6, 0, nX0_init), (28, 1, 4, nX2_extend), (32, 1, 1, nX2_callCount), (36, 0, 1, nX2_expected), (40, 0, 1, nX2_note), (44, 7, 5, nX0_init), (52, 0, 3, nX0_get), (58, 0, 1, nX0_rows), (62, 9, 2, nX0_init)],
  [(3, 6, 0, nX0_init), (27, 9, 2, nX0_init), (33, 0, 4, nX3_coinFrom), (38, 0, 2, nX3_leastBut), (41, 0, 2, nX0_has), (47, 0, 2, nX0_barredLetters), (50, 0, 3, nX0_get), (54, 0, 2, nX3_firstCheapest), (57, 0, 1, nX0_rows), (61, 0, 1, nX0_dietOf), (64, 0, 3, nX3_cheapest), (68, 0, 2, nX3_priceOfLeft), (72, 0, 2, nX3_leastNeeding)],
  [(3, 6, 0, nX0_init), (27, 1, 2, nX4_isInside), (32, 1, 1, nJ6_bitCount_0f7a4), (38, 4, 3, nX11_isWithin), (42, 0, 3, nX0_get), (48, 1, 2, nJ7_fill_53178), (54, 1, 7, nX4_extend), (58, 9, 2, nX0_init), (64, 0, 1, nX0_startPlace), (67, 0, 1, nX0_rows), (70, 0, 2, nX0_wayBetween), (73, 0, 2, nX0_isBadAt), (76, 0, 2, nX0_stayWithoutTea), (79, 0, 3, nX4_note)],
  [(3, 6, 0, nX0_init), (25, 0, 2, nX0_boxHeat), (31, 11, 1, nX0_init)],
  [(3, 6, 0, nX0_init), (23, 1, 2, nJ7_fill_53178), (33, 0, 1, nX6_count), (37, 4, 3, nX11_isWithin), (41, 0, 1, nX6_carOf), (44, 0, 3, nX6_follow), (48, 0, 1, nX0_startPlace), (53, 0, 3, nX0_get), (57, 0, 2, nX0_wayBetween), (61, 0, 2, nX0_isBadAt), (65, 0, 2, nX0_stayWithoutTea)],
  [(3, 6, 0, nX0_init), (29, 1, 2, nJ7_fill_53178), (35, 1, 4, nX7_give), (39, 0, 1, nX0_rows), (45, 9, 2, nX0_init), (51, 0, 1, nX7_note), (55, 1, 1, nJ6_bitCount_0f7a4), (60, 0, 3, nX0_get), (64, 0, 2, nX4_worth), (69, 7, 5, nX0_init)],
  [(3, 6, 0, nX0_init), (20, 1, 2, nJ7_fill_53178), (26, 0, 1, nX8_count), (30, 4, 3, nX11_isWithin)],
  [(3, 6, 0, nX0_init), (19, 9, 2, nX0_init), (25, 10, 2, nX0_init), (34, 0, 0, nX9_next), (43, 0, 0, nX9_takeWord), (46, 0, 0, nX9_takeWhole), (49, 0, 1, nX9_takeSign), (53, 0, 0, nJ0_length_8abf5), (58, 0, 1, nJ0_charAt_5068e)],
  [(3, 6, 0, nX0_init), (25, 0, 1, nX10_noteWishers), (29, 0, 1, nX10_capForFewest), (33, 0, 2, nX10_firstFor), (37, 1, 2, nJ7_fill_53178), (43, 0, 1, nX0_rows), (49, 0, 3, nX0_get), (53, 0, 2, nX10_capAt), (57, 0, 1, nX10_mostFrom), (60, 9, 2, nX0_init), (65, 10, 2, nX0_init)],
  [(1, 6, 0, nX0_init), (9, 5, 0, nX1_init), (18, 5, 0, nX6_init), (25, 5, 0, nX4_init), (32, 5, 0, nX7_init), (39, 5, 0, nX3_init), (46, 5, 0, nX2_init), (53, 5, 0, nX10_init), (60, 5, 0, nX8_init), (67, 5, 0, nX5_init), (74, 5, 0, nX0_init), (87, 0, 1, nX9_hasRoom), (93, 0, 1, nX9_append), (100, 0, 1, nX11_refuse), (104, 0, 1, nX1_read), (107, 0, 0, nX9_empty), (110, 0, 1, nX1_exchange), (114, 0, 0, nX11_forgetDoings), (117, 0, 1, nX0_rows), (120, 0, 1, nX11_accept), (129, 0, 2, nX0_has), (133, 0, 1, nX6_carOf), (136, 0, 1, nX6_count), (139, 0, 3, nX0_get), (143, 0, 2, nX6_append), (146, 0, 1, nX6_clearRound), (149, 0, 0, nX11_noDay), (153, 0, 1, nX0_hasHouses), (159, 0, 1, nX11_drivenTrouble), (162, 0, 2, nX6_arrival), (166, 0, 2, nX0_boxHeat), (169, 0, 3, nX6_follow), (173, 1, 3, nX11_isWithin), (177, 0, 2, nX0_wayBetween), (180, 0, 2, nX11_bestTrouble), (183, 0, 2, nX4_learn), (187, 0, 2, nX4_worth), (190, 1, 1, nJ6_bitCount_0f7a4), (195, 0, 3, nX4_houseAt), (198, 0, 2, nX7_search), (203, 0, 1, nX7_carOf), (204, 0, 2, nX6_oddsOf), (208, 0, 1, nX0_dietOf), (211, 0, 2, nX0_barredLetters), (214, 0, 1, nX0_isFitForAll), (217, 0, 3, nX3_cheapest), (220, 0, 1, nX3_tell), (223, 0, 1, nX3_dishOn), (227, 0, 2, nX3_priceHouses), (231, 0, 2, nX3_dropFor), (234, 0, 0, nX11_callTrouble), (238, 0, 1, nX2_search), (241, 0, 1, nX2_callOf), (244, 0, 1, nX2_expectedAsTold), (247, 0, 1, nX10_fillWeek), (251, 0, 1, nX10_helperOf), (254, 0, 1, nX8_count), (255, 0, 2, nX8_append), (256, 0, 1, nX8_choicesNoLess), (261, 0, 3, nX5_append), (263, 0, 2, nX5_offByMore), (266, 0, 1, nX5_earliestBelow), (269, 0, 1, nX6_housesOf), (272, 0, 2, nX6_houseAt), (281, 0, 0, nX6_clear), (284, 0, 0, nX4_forget), (287, 0, 0, nX7_forget), (288, 0, 0, nX3_forget), (289, 0, 0, nX2_forget), (290, 0, 0, nX10_forget), (291, 0, 0, nX8_clear), (292, 0, 0, nX5_clear)],
  [(3, 6, 0, nX0_init)],
  [(1, 6, 0, nX0_init), (81, 0, 1, nX13_refused), (88, 0, 0, nJ0_length_8abf5), (96, 0, 1, nJ0_charAt_5068e), (106, 0, 1, nX13_byteAt), (115, 1, 1, nX13_isLetter), (126, 1, 1, nX13_isDigit), (138, 1, 1, nX13_wordOf), (142, 0, 1, nX13_isWord), (146, 0, 0, nX13_goesOn), (149, 0, 1, nX13_wrong), (153, 1, 3, nX13_in), (157, 0, 1, nX13_needs), (161, 0, 2, nX13_readWhole), (187, 0, 0, nX13_isName), (195, 0, 1, nX12_find), (214, 0, 0, nX13_readLine), (217, 0, 1, nX13_eatsSign), (229, 0, 0, nX13_readLaw), (232, 0, 0, nX13_readKitchen), (235, 0, 0, nX13_readFlood), (238, 0, 0, nX13_readDish), (241, 0, 0, nX13_readDiet), (244, 0, 0, nX13_readHouse), (247, 0, 0, nX13_readCar), (250, 0, 0, nX13_readCall), (253, 0, 0, nX13_readHelper), (257, 0, 3, nX13_readPart), (268, 0, 3, nX13_readNamed), (295, 0, 0, nX13_readLetters), (315, 0, 1, nX13_readKnown), (326, 0, 1, nX13_eatsWord), (390, 5, 0, nX12_init), (391, 0, 0, nX13_readDay), (416, 0, 1, nX13_done), (419, 0, 1, nX13_isCar), (422, 0, 1, nX13_isHouse), (425, 0, 1, nX13_carOf), (434, 0, 2, nX12_way), (437, 0, 2, nX13_heatBy), (440, 1, 2, nX13_has), (444, 0, 2, nX13_goes), (448, 0, 2, nX13_goesAsDriven), (451, 0, 1, nX13_comesTo), (454, 0, 1, nX13_lost), (457, 1, 1, nX13_bits), (460, 1, 1, nX13_orders), (469, 0, 2, nX13_ordered), (472, 0, 2, nX13_refusesBest), (475, 0, 2, nX13_bests), (478, 0, 0, nX13_weighsCars), (481, 0, 0, nX13_shares), (484, 0, 2, nX13_housesOf), (487, 0, 1, nX13_isDish), (490, 0, 2, nX13_barred), (493, 0, 2, nX13_cheapest), (496, 0, 2, nX13_coinOf), (504, 0, 1, nX13_expected), (508, 0, 2, nX13_whoOf), (511, 0, 1, nX13_worthOf)],
  [(7, 0, 2, nX11_led), (15, 2, 0, nX11_init), (18, 2, 0, nX13_init), (19, 0, 5, nX11_feed), (23, 0, 5, nX13_feed), (24, 0, 1, nX11_day), (28, 0, 1, nX13_day), (29, 0, 0, nX11_fault), (33, 0, 0, nX13_fault), (34, 0, 0, nX11_where), (37, 0, 0, nX13_where), (38, 0, 2, nX11_drive), (41, 0, 2, nX13_drive), (42, 0, 1, nX11_unload), (45, 0, 1, nX13_unload), (46, 0, 1, nX11_tea), (50, 0, 1, nX13_tea), (51, 0, 1, nX11_comes), (54, 0, 1, nX13_comes), (55, 0, 1, nX11_heat), (58, 0, 1, nX13_heat), (59, 0, 1, nX11_bad), (62, 0, 1, nX13_bad), (63, 0, 2, nX11_way), (66, 0, 2, nX13_way), (67, 0, 2, nX11_best), (70, 0, 2, nX13_best), (71, 0, 3, nX11_bestAt), (75, 0, 3, nX13_bestAt), (76, 0, 0, nX11_share), (79, 0, 0, nX13_share), (80, 0, 1, nX11_shared), (83, 0, 1, nX13_shared), (84, 0, 1, nX11_odds), (88, 0, 1, nX13_odds), (89, 0, 1, nX11_costs), (92, 0, 1, nX13_costs), (93, 0, 2, nX11_fits), (96, 0, 2, nX13_fits), (97, 0, 2, nX11_breach), (100, 0, 2, nX13_breach), (101, 0, 0, nX11_forAll), (104, 0, 0, nX13_forAll), (105, 0, 2, nX11_menu), (108, 0, 2, nX13_menu), (109, 0, 1, nX11_menuAt), (112, 0, 1, nX13_menuAt), (113, 0, 2, nX11_dropped), (116, 0, 2, nX13_dropped), (117, 0, 0, nX11_knock), (121, 0, 0, nX13_knock), (122, 0, 1, nX11_callAt), (125, 0, 1, nX13_callAt), (126, 0, 0, nX11_asTold), (129, 0, 0, nX13_asTold), (130, 0, 0, nX11_fill), (133, 0, 0, nX13_fill), (134, 0, 1, nX11_helper), (137, 0, 1, nX13_helper), (138, 0, 2, nX11_sign), (141, 0, 2, nX13_sign), (142, 0, 1, nX11_fading), (145, 0, 1, nX13_fading), (146, 0, 3, nX11_probe), (149, 0, 3, nX13_probe), (150, 0, 1, nX11_faulty), (153, 0, 1, nX13_faulty), (154, 0, 0, nX11_firstCold), (157, 0, 0, nX13_firstCold), (158, 0, 1, nX11_recall), (161, 0, 1, nX13_recall), (162, 8, 4, nX0_init), (167, 0, 2, nX13_led), (168, 0, 0, nX13_thrown), (171, 0, 1, nX11_size), (174, 0, 1, nX13_size), (175, 0, 0, nX11_trouble), (178, 0, 0, nX13_trouble)],
  [],
  [],
  [],
  [(335, 0, 0, nJ0_coder_7d493), (492, 0, 0, nJ0_isLatin1_aae02), (495, 1, 2, nJ1_charAt_3b067), (1059, 1, 3, nJ3_checkIndex_8e157)],
  [(9, 1, 2, nJ0_checkIndex_df160)],
  []]
def nzTC : List (List (Nat × Value)) := [[],
  [(83, .float 10), (89, .float 12), (91, .float 14), (93, .float 16), (95, .float 18), (97, .float 20), (99, .float 22), (101, .float 24), (103, .float 26), (105, .float 28), (114, .float 30), (119, .float 36), (121, .float 38), (123, .float 40), (128, .float 42), (130, .float 44), (132, .float 46), (138, .float 48), (140, .float 50), (142, .float 52), (144, .float 54), (146, .float 32), (152, .float 56), (154, .float 58), (156, .float 60), (158, .float 62), (160, .float 34), (162, .float 64), (164, .float 66), (169, .float 68)],
  [],
  [(37, .int 1000000000)],
  [(31, .int 1000000000)],
  [(37, .int 1000000000)],
  [],
  [(25, .int 1000000000)],
  [],
  [],
  [],
  [(202, .int 1000000000), (226, .int 99999)],
  [],
  [(165, .float 70), (167, .float 76), (169, .float 78), (171, .float 80), (173, .float 82), (175, .float 84), (177, .float 86), (179, .float 88), (181, .float 90), (183, .float 92), (185, .float 94), (256, .float 72), (261, .float 74), (272, .float 96), (282, .float 98), (293, .float 100), (298, .float 102), (309, .float 104), (313, .float 106), (318, .float 108), (320, .float 110), (322, .float 112), (324, .float 114), (346, .float 116), (348, .float 118), (350, .float 120), (352, .float 122), (368, .float 124), (378, .float 126), (380, .float 128), (499, .int 99999)],
  [],
  [(265, .int 1431655765), (266, .int 858993459), (267, .int 252645135)],
  [],
  [],
  [],
  [],
  []]
def nzTL : List (List (Nat × Int64)) := [[],
  [],
  [(22, 1000000000000000), (50, 100)],
  [],
  [],
  [],
  [],
  [],
  [],
  [(69, 32)],
  [],
  [],
  [],
  [(94, 32), (500, 100), (502, (-1))],
  [],
  [],
  [],
  [],
  [],
  [],
  []]
def nzTN : List (List (Nat × Nat)) := [[],
  [(9, 9), (29, 0)],
  [],
  [],
  [],
  [],
  [],
  [],
  [],
  [],
  [],
  [(7, 1), (16, 6), (23, 4), (30, 7), (37, 3), (44, 2), (51, 10), (58, 8), (65, 5), (72, 0)],
  [],
  [(196, 12)],
  [(8, 11), (16, 13)],
  [],
  [],
  [],
  [],
  [],
  []]
def nzTS : List (List (Nat × Value)) := [[(32, .float 1)],
  [],
  [],
  [],
  [],
  [],
  [],
  [],
  [],
  [],
  [],
  [],
  [],
  [],
  [],
  [],
  [],
  [],
  [(38, .int 1), (1053, .float 2)],
  [],
  []]
def nzTA : List (List (Nat × Nat)) := [[],
  [],
  [],
  [(9, 0)],
  [(9, 0)],
  [],
  [(9, 0)],
  [],
  [(9, 0)],
  [],
  [],
  [],
  [],
  [],
  [],
  [],
  [],
  [],
  [],
  [],
  []]
def nzStr : List (List Nat) := [[108, 97, 119], [107, 105, 116, 99, 104, 101, 110], [102, 108, 111, 111, 100], [100, 105, 115, 104], [100, 105, 101, 116], [104, 111, 117, 115, 101], [99, 97, 114], [99, 97, 108, 108], [104, 101, 108, 112, 101, 114], [104, 111, 116], [98, 121], [100, 111, 103], [97, 102, 114, 97, 105, 100], [97, 116], [97, 100, 100, 115], [111, 102], [99, 111, 115, 116, 115], [98, 97, 114, 115], [101, 97, 116, 115], [100, 111, 111, 114, 115], [116, 101, 97], [99, 104, 97, 110, 99, 101], [110, 101, 101, 100], [102, 114, 111, 109], [115, 116, 97, 114, 116, 115], [104, 111, 108, 100, 115], [99, 111, 111, 108, 115], [116, 97, 107, 101, 115], [100, 97, 121, 115], [109, 111, 115, 116], [108, 97, 119], [104, 111, 116], [98, 121], [107, 105, 116, 99, 104, 101, 110], [102, 108, 111, 111, 100], [100, 105, 115, 104], [100, 105, 101, 116], [104, 111, 117, 115, 101], [99, 97, 114], [99, 97, 108, 108], [104, 101, 108, 112, 101, 114], [100, 111, 103], [97, 102, 114, 97, 105, 100], [97, 116], [97, 100, 100, 115], [111, 102], [99, 111, 115, 116, 115], [98, 97, 114, 115], [101, 97, 116, 115], [100, 111, 111, 114, 115], [116, 101, 97], [99, 104, 97, 110, 99, 101], [110, 101, 101, 100], [102, 114, 111, 109], [115, 116, 97, 114, 116, 115], [104, 111, 108, 100, 115], [99, 111, 111, 108, 115], [116, 97, 107, 101, 115], [100, 97, 121, 115], [109, 111, 115, 116]]
def nzStrAt : List (String × Nat × String) := [("NoonMeals$DayReader", 83, "law"), ("NoonMeals$DayReader", 89, "kitchen"), ("NoonMeals$DayReader", 91, "flood"), ("NoonMeals$DayReader", 93, "dish"), ("NoonMeals$DayReader", 95, "diet"), ("NoonMeals$DayReader", 97, "house"), ("NoonMeals$DayReader", 99, "car"), ("NoonMeals$DayReader", 101, "call"), ("NoonMeals$DayReader", 103, "helper"), ("NoonMeals$DayReader", 105, "hot"), ("NoonMeals$DayReader", 114, "by"), ("NoonMeals$DayReader", 146, "dog"), ("NoonMeals$DayReader", 160, "afraid"), ("NoonMeals$DayReader", 119, "at"), ("NoonMeals$DayReader", 121, "adds"), ("NoonMeals$DayReader", 123, "of"), ("NoonMeals$DayReader", 128, "costs"), ("NoonMeals$DayReader", 130, "bars"), ("NoonMeals$DayReader", 132, "eats"), ("NoonMeals$DayReader", 138, "doors"), ("NoonMeals$DayReader", 140, "tea"), ("NoonMeals$DayReader", 142, "chance"), ("NoonMeals$DayReader", 144, "need"), ("NoonMeals$DayReader", 152, "from"), ("NoonMeals$DayReader", 154, "starts"), ("NoonMeals$DayReader", 156, "holds"), ("NoonMeals$DayReader", 158, "cools"), ("NoonMeals$DayReader", 162, "takes"), ("NoonMeals$DayReader", 164, "days"), ("NoonMeals$DayReader", 169, "most"), ("NoonMealsModel", 165, "law"), ("NoonMealsModel", 256, "hot"), ("NoonMealsModel", 261, "by"), ("NoonMealsModel", 167, "kitchen"), ("NoonMealsModel", 169, "flood"), ("NoonMealsModel", 171, "dish"), ("NoonMealsModel", 173, "diet"), ("NoonMealsModel", 175, "house"), ("NoonMealsModel", 177, "car"), ("NoonMealsModel", 179, "call"), ("NoonMealsModel", 181, "helper"), ("NoonMealsModel", 183, "dog"), ("NoonMealsModel", 185, "afraid"), ("NoonMealsModel", 272, "at"), ("NoonMealsModel", 282, "adds"), ("NoonMealsModel", 293, "of"), ("NoonMealsModel", 298, "costs"), ("NoonMealsModel", 309, "bars"), ("NoonMealsModel", 313, "eats"), ("NoonMealsModel", 318, "doors"), ("NoonMealsModel", 320, "tea"), ("NoonMealsModel", 322, "chance"), ("NoonMealsModel", 324, "need"), ("NoonMealsModel", 346, "from"), ("NoonMealsModel", 348, "starts"), ("NoonMealsModel", 350, "holds"), ("NoonMealsModel", 352, "cools"), ("NoonMealsModel", 368, "takes"), ("NoonMealsModel", 378, "days"), ("NoonMealsModel", 380, "most")]
def nzNF : List Nat := [2, 9, 4, 4, 4, 4, 4, 5, 2, 9, 4, 11, 37, 46]
def nzTy : List (Nat → FieldType) := [tyX0, tyX1, tyX2, tyX3, tyX4, tyX5, tyX6, tyX7, tyX8, tyX9, tyX10, tyX11, tyX12, tyX13]
