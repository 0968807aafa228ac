abbrev Y_X11_cell : ya_Y := (cX11_cell, RX11, 2, (some (.int)), "cell", { frames := 0, cells := 0, slots := 0, locals := 0 })
abbrev Y_X0_plan : ya_Y := (cX0_plan, RX0, 10, (some (.int)), "plan", { frames := 1, cells := 0, slots := 0, locals := 24 })
abbrev Y_X1_add : ya_Y := (cX1_add, RX1, 2, none, "add", { frames := 0, cells := 0, slots := 0, locals := 0 })
abbrev Y_X1_comes : ya_Y := (cX1_comes, RX1, 5, (some (.boolean)), "comes", { frames := 0, cells := 0, slots := 0, locals := 0 })
abbrev Y_X1_wanted : ya_Y := (cX1_wanted, RX1, 6, (some (.int)), "wanted", { frames := 1, cells := 0, slots := 0, locals := 24 })
abbrev Y_X1_countComing : ya_Y := (cX1_countComing, RX1, 6, (some (.int)), "countComing", { frames := 1, cells := 0, slots := 0, locals := 24 })
abbrev Y_X1_allCome : ya_Y := (cX1_allCome, RX1, 6, (some (.boolean)), "allCome", { frames := 1, cells := 0, slots := 0, locals := 24 })
abbrev Y_X1_wantsOf : ya_Y := (cX1_wantsOf, RX1, 4, (some (.int)), "wantsOf", { frames := 0, cells := 0, slots := 0, locals := 0 })
abbrev Y_X1_wantsInAll : ya_Y := (cX1_wantsInAll, RX1, 2, (some (.int)), "wantsInAll", { frames := 0, cells := 0, slots := 0, locals := 0 })
abbrev Y_X1_take : ya_Y := (cX1_take, RX1, 2, none, "take", { frames := 1, cells := 0, slots := 0, locals := 40 })
abbrev Y_X2_empty : ya_Y := (cX2_empty, RX2, 1, none, "empty", { frames := 0, cells := 0, slots := 0, locals := 0 })
abbrev Y_X8_take : ya_Y := (cX8_take, RX8, 2, none, "take", { frames := 1, cells := 0, slots := 0, locals := 40 })
abbrev Y_X6_take : ya_Y := (cX6_take, RX6, 2, none, "take", { frames := 1, cells := 0, slots := 0, locals := 40 })
abbrev Y_X2_take : ya_Y := (cX2_take, RX2, 2, none, "take", { frames := 2, cells := 0, slots := 0, locals := 61 })
abbrev Y_X3_formOf : ya_Y := (cX3_formOf, RX3, 1, (some (.object "java/lang/String")), "formOf", { frames := 0, cells := 0, slots := 0, locals := 0 })
abbrev Y_X9_begin : ya_Y := (cX9_begin, RX9, 1, none, "begin", { frames := 0, cells := 0, slots := 0, locals := 0 })
abbrev Y_X9_isBlank : ya_Y := (cX9_isBlank, RX9, 1, (some (.boolean)), "isBlank", { frames := 0, cells := 0, slots := 0, locals := 0 })
abbrev Y_X9_isLetter : ya_Y := (cX9_isLetter, RX9, 1, (some (.boolean)), "isLetter", { frames := 0, cells := 0, slots := 0, locals := 0 })
abbrev Y_X9_isDigit : ya_Y := (cX9_isDigit, RX9, 1, (some (.boolean)), "isDigit", { frames := 0, cells := 0, slots := 0, locals := 0 })
abbrev Y_X9_next : ya_Y := (cX9_next, RX9, 4, none, "next", { frames := 1, cells := 0, slots := 0, locals := 21 })
abbrev Y_X9_isAs : ya_Y := (cX9_isAs, RX9, 6, (some (.boolean)), "isAs", { frames := 4, cells := 0, slots := 0, locals := 85 })
abbrev Y_X3_kindHere : ya_Y := (cX3_kindHere, RX3, 4, (some (.int)), "kindHere", { frames := 5, cells := 0, slots := 0, locals := 110 })
abbrev Y_X3_refuse : ya_Y := (cX3_refuse, RX3, 2, none, "refuse", { frames := 0, cells := 0, slots := 0, locals := 0 })
abbrev Y_X3_isFull : ya_Y := (cX3_isFull, RX3, 2, (some (.boolean)), "isFull", { frames := 0, cells := 0, slots := 0, locals := 0 })
abbrev Y_X3_lowestOf : ya_Y := (cX3_lowestOf, RX3, 2, (some (.int)), "lowestOf", { frames := 0, cells := 0, slots := 0, locals := 0 })
abbrev Y_X3_highestOf : ya_Y := (cX3_highestOf, RX3, 2, (some (.int)), "highestOf", { frames := 0, cells := 0, slots := 0, locals := 0 })
abbrev Y_X3_readNumber : ya_Y := (cX3_readNumber, RX3, 2, none, "readNumber", { frames := 1, cells := 0, slots := 0, locals := 21 })
abbrev Y_X3_readPart : ya_Y := (cX3_readPart, RX3, 6, none, "readPart", { frames := 5, cells := 0, slots := 0, locals := 110 })
abbrev Y_X3_readForm : ya_Y := (cX3_readForm, RX3, 5, none, "readForm", { frames := 6, cells := 0, slots := 0, locals := 135 })
abbrev Y_X8_add : ya_Y := (cX8_add, RX8, 4, none, "add", { frames := 1, cells := 0, slots := 0, locals := 21 })
abbrev Y_X6_add : ya_Y := (cX6_add, RX6, 5, none, "add", { frames := 1, cells := 0, slots := 0, locals := 21 })
abbrev Y_X3_obey : ya_Y := (cX3_obey, RX3, 2, none, "obey", { frames := 2, cells := 0, slots := 0, locals := 45 })
abbrev Y_X3_readLine : ya_Y := (cX3_readLine, RX3, 4, none, "readLine", { frames := 7, cells := 0, slots := 0, locals := 159 })
abbrev Y_X3_readAll : ya_Y := (cX3_readAll, RX3, 3, (some (.boolean)), "readAll", { frames := 8, cells := 0, slots := 0, locals := 182 })
abbrev Y_X4_begin : ya_Y := (cX4_begin, RX4, 3, none, "begin", { frames := 1, cells := 0, slots := 0, locals := 24 })
abbrev Y_X4_put : ya_Y := (cX4_put, RX4, 4, none, "put", { frames := 0, cells := 0, slots := 0, locals := 0 })
abbrev Y_X4_reaches : ya_Y := (cX4_reaches, RX4, 3, (some (.boolean)), "reaches", { frames := 0, cells := 0, slots := 0, locals := 0 })
abbrev Y_X6_coming : ya_Y := (cX6_coming, RX6, 3, (some (.int)), "coming", { frames := 1, cells := 0, slots := 0, locals := 21 })
abbrev Y_X5_load : ya_Y := (cX5_load, RX5, 5, none, "load", { frames := 2, cells := 0, slots := 0, locals := 49 })
abbrev Y_X5_orderDays : ya_Y := (cX5_orderDays, RX5, 5, (some (.int)), "orderDays", { frames := 0, cells := 0, slots := 0, locals := 0 })
abbrev Y_X5_missing : ya_Y := (cX5_missing, RX5, 6, (some (.int)), "missing", { frames := 1, cells := 0, slots := 0, locals := 40 })
abbrev Y_X5_bring : ya_Y := (cX5_bring, RX5, 5, (some (.int)), "bring", { frames := 2, cells := 0, slots := 0, locals := 65 })
abbrev Y_X5_bringWithout : ya_Y := (cX5_bringWithout, RX5, 4, (some (.int)), "bringWithout", { frames := 3, cells := 0, slots := 0, locals := 89 })
abbrev Y_X5_bringAt : ya_Y := (cX5_bringAt, RX5, 7, (some (.int)), "bringAt", { frames := 3, cells := 0, slots := 0, locals := 89 })
abbrev Y_X7_addFour : ya_Y := (cX7_addFour, RX7, 3, none, "addFour", { frames := 0, cells := 0, slots := 0, locals := 0 })
abbrev Y_X8_turnYear : ya_Y := (cX8_turnYear, RX8, 2, none, "turnYear", { frames := 0, cells := 0, slots := 0, locals := 0 })
abbrev Y_X10_forget : ya_Y := (cX10_forget, RX10, 1, none, "forget", { frames := 1, cells := 0, slots := 0, locals := 24 })
abbrev Y_X10_begin : ya_Y := (cX10_begin, RX10, 7, none, "begin", { frames := 2, cells := 0, slots := 0, locals := 43 })
abbrev Y_X10_supplyAt : ya_Y := (cX10_supplyAt, RX10, 6, (some (.int)), "supplyAt", { frames := 0, cells := 0, slots := 0, locals := 0 })
abbrev Y_X10_gather : ya_Y := (cX10_gather, RX10, 6, none, "gather", { frames := 1, cells := 0, slots := 0, locals := 24 })
abbrev Y_X10_draw : ya_Y := (cX10_draw, RX10, 2, (some (.int)), "draw", { frames := 0, cells := 0, slots := 0, locals := 0 })
abbrev Y_X10_mix : ya_Y := (cX10_mix, RX10, 4, none, "mix", { frames := 1, cells := 0, slots := 0, locals := 21 })
abbrev Y_X10_handOut : ya_Y := (cX10_handOut, RX10, 8, none, "handOut", { frames := 1, cells := 0, slots := 0, locals := 21 })
abbrev Y_X10_takeOldest : ya_Y := (cX10_takeOldest, RX10, 7, none, "takeOldest", { frames := 1, cells := 0, slots := 0, locals := 21 })
abbrev Y_X10_sell : ya_Y := (cX10_sell, RX10, 9, none, "sell", { frames := 2, cells := 0, slots := 0, locals := 47 })
abbrev Y_X10_trade : ya_Y := (cX10_trade, RX10, 6, none, "trade", { frames := 3, cells := 0, slots := 0, locals := 75 })
abbrev Y_X10_run : ya_Y := (cX10_run, RX10, 5, none, "run", { frames := 4, cells := 0, slots := 0, locals := 100 })
abbrev Y_X10_takings : ya_Y := (cX10_takings, RX10, 5, (some (.int)), "takings", { frames := 1, cells := 0, slots := 0, locals := 21 })
abbrev Y_X10_richestDay : ya_Y := (cX10_richestDay, RX10, 4, (some (.int)), "richestDay", { frames := 2, cells := 0, slots := 0, locals := 45 })
abbrev Y_X10_daysWithoutSale : ya_Y := (cX10_daysWithoutSale, RX10, 6, (some (.int)), "daysWithoutSale", { frames := 1, cells := 0, slots := 0, locals := 21 })
abbrev Y_X11_feed : ya_Y := (cX11_feed, RX11, 6, (some (.int)), "feed", { frames := 1, cells := 0, slots := 0, locals := 22 })
abbrev Y_X11_end : ya_Y := (cX11_end, RX11, 2, (some (.int)), "end", { frames := 0, cells := 0, slots := 0, locals := 0 })
abbrev Y_X11_market : ya_Y := (cX11_market, RX11, 2, (some (.int)), "market", { frames := 9, cells := 0, slots := 0, locals := 204 })
abbrev Y_X11_fault : ya_Y := (cX11_fault, RX11, 2, (some (.int)), "fault", { frames := 0, cells := 0, slots := 0, locals := 0 })
abbrev Y_X11_isThing : ya_Y := (cX11_isThing, RX11, 2, (some (.boolean)), "isThing", { frames := 0, cells := 0, slots := 0, locals := 0 })
abbrev Y_X11_isDay : ya_Y := (cX11_isDay, RX11, 2, (some (.boolean)), "isDay", { frames := 0, cells := 0, slots := 0, locals := 0 })
abbrev Y_X11_isThingDay : ya_Y := (cX11_isThingDay, RX11, 3, (some (.boolean)), "isThingDay", { frames := 1, cells := 0, slots := 0, locals := 21 })
abbrev Y_X11_price : ya_Y := (cX11_price, RX11, 3, (some (.int)), "price", { frames := 2, cells := 0, slots := 0, locals := 43 })
abbrev Y_X11_old : ya_Y := (cX11_old, RX11, 3, (some (.int)), "old", { frames := 2, cells := 0, slots := 0, locals := 43 })
abbrev Y_X11_thisYear : ya_Y := (cX11_thisYear, RX11, 1, (some (.object "YearAgo$Year")), "thisYear", { frames := 5, cells := 0, slots := 0, locals := 124 })
abbrev Y_X11_offered : ya_Y := (cX11_offered, RX11, 3, (some (.int)), "offered", { frames := 6, cells := 0, slots := 0, locals := 144 })
abbrev Y_X11_asked : ya_Y := (cX11_asked, RX11, 3, (some (.int)), "asked", { frames := 6, cells := 0, slots := 0, locals := 144 })
abbrev Y_X11_sold : ya_Y := (cX11_sold, RX11, 3, (some (.int)), "sold", { frames := 6, cells := 0, slots := 0, locals := 144 })
abbrev Y_X11_isSeller : ya_Y := (cX11_isSeller, RX11, 2, (some (.boolean)), "isSeller", { frames := 0, cells := 0, slots := 0, locals := 0 })
abbrev Y_X11_seller : ya_Y := (cX11_seller, RX11, 4, (some (.int)), "seller", { frames := 6, cells := 0, slots := 0, locals := 144 })
abbrev Y_X11_gets : ya_Y := (cX11_gets, RX11, 3, (some (.int)), "gets", { frames := 6, cells := 0, slots := 0, locals := 144 })
abbrev Y_X11_stock : ya_Y := (cX11_stock, RX11, 3, (some (.int)), "stock", { frames := 6, cells := 0, slots := 0, locals := 144 })
abbrev Y_X11_isBuyer : ya_Y := (cX11_isBuyer, RX11, 2, (some (.boolean)), "isBuyer", { frames := 0, cells := 0, slots := 0, locals := 0 })
abbrev Y_X11_buyer : ya_Y := (cX11_buyer, RX11, 4, (some (.int)), "buyer", { frames := 6, cells := 0, slots := 0, locals := 144 })
abbrev Y_X11_isMarket : ya_Y := (cX11_isMarket, RX11, 1, (some (.boolean)), "isMarket", { frames := 0, cells := 0, slots := 0, locals := 0 })
abbrev Y_X11_rich : ya_Y := (cX11_rich, RX11, 4, (some (.int)), "rich", { frames := 6, cells := 0, slots := 0, locals := 144 })
abbrev Y_X11_queue : ya_Y := (cX11_queue, RX11, 4, (some (.int)), "queue", { frames := 6, cells := 0, slots := 0, locals := 144 })
abbrev Y_X11_spoils : ya_Y := (cX11_spoils, RX11, 3, (some (.int)), "spoils", { frames := 6, cells := 0, slots := 0, locals := 144 })
abbrev Y_X11_clears : ya_Y := (cX11_clears, RX11, 5, (some (.int)), "clears", { frames := 6, cells := 0, slots := 0, locals := 144 })
abbrev Y_X11_village : ya_Y := (cX11_village, RX11, 6, (some (.int)), "village", { frames := 6, cells := 0, slots := 0, locals := 144 })
abbrev Y_X11_within : ya_Y := (cX11_within, RX11, 3, (some (.boolean)), "within", { frames := 0, cells := 0, slots := 0, locals := 0 })
abbrev Y_J6_bitCount_0f7a4 : ya_Y := (cJ6_bitCount_0f7a4, RJ6, 1, (some (.int)), "bitCount", { frames := 0, cells := 0, slots := 0, locals := 0 })
abbrev Y_X11_ordersWithAll : ya_Y := (cX11_ordersWithAll, RX11, 12, (some (.int)), "ordersWithAll", { frames := 2, cells := 0, slots := 0, locals := 49 })
abbrev Y_X11_commonDivisor : ya_Y := (cX11_commonDivisor, RX11, 6, (some (.int)), "commonDivisor", { frames := 0, cells := 0, slots := 0, locals := 0 })
abbrev Y_X11_chance : ya_Y := (cX11_chance, RX11, 11, (some (.int)), "chance", { frames := 6, cells := 0, slots := 0, locals := 144 })
abbrev Y_X11_costsSomeDay : ya_Y := (cX11_costsSomeDay, RX11, 4, (some (.boolean)), "costsSomeDay", { frames := 1, cells := 0, slots := 0, locals := 21 })
abbrev Y_X11_asks : ya_Y := (cX11_asks, RX11, 7, (some (.int)), "asks", { frames := 5, cells := 0, slots := 0, locals := 124 })
abbrev Y_X11_hold : ya_Y := (cX11_hold, RX11, 4, (some (.int)), "hold", { frames := 1, cells := 0, slots := 0, locals := 22 })
abbrev Y_X11_dearestOf : ya_Y := (cX11_dearestOf, RX11, 5, (some (.int)), "dearestOf", { frames := 1, cells := 0, slots := 0, locals := 21 })
abbrev Y_X11_poor : ya_Y := (cX11_poor, RX11, 4, (some (.int)), "poor", { frames := 5, cells := 0, slots := 0, locals := 124 })
abbrev Y_X11_years : ya_Y := (cX11_years, RX11, 6, (some (.int)), "years", { frames := 5, cells := 0, slots := 0, locals := 124 })
abbrev Y_X11_lots : ya_Y := (cX11_lots, RX11, 3, (some (.int)), "lots", { frames := 6, cells := 0, slots := 0, locals := 149 })
abbrev Y_X11_best : ya_Y := (cX11_best, RX11, 2, (some (.int)), "best", { frames := 3, cells := 0, slots := 0, locals := 89 })
abbrev Y_X11_worth : ya_Y := (cX11_worth, RX11, 3, (some (.int)), "worth", { frames := 4, cells := 0, slots := 0, locals := 112 })
abbrev Y_X11_thursday : ya_Y := (cX11_thursday, RX11, 6, (some (.int)), "thursday", { frames := 4, cells := 0, slots := 0, locals := 112 })
abbrev Y_X11_keeping : ya_Y := (cX11_keeping, RX11, 3, (some (.int)), "keeping", { frames := 3, cells := 0, slots := 0, locals := 89 })
abbrev Y_X11_enough : ya_Y := (cX11_enough, RX11, 4, (some (.int)), "enough", { frames := 4, cells := 0, slots := 0, locals := 111 })
abbrev Y_X11_cheapest : ya_Y := (cX11_cheapest, RX11, 2, (some (.int)), "cheapest", { frames := 2, cells := 0, slots := 0, locals := 53 })
abbrev Y_X11_buys : ya_Y := (cX11_buys, RX11, 3, (some (.int)), "buys", { frames := 2, cells := 0, slots := 0, locals := 53 })
abbrev Y_X11_crowd : ya_Y := (cX11_crowd, RX11, 4, (some (.int)), "crowd", { frames := 2, cells := 0, slots := 0, locals := 53 })
abbrev Y_X11_mark : ya_Y := (cX11_mark, RX11, 5, (some (.int)), "mark", { frames := 2, cells := 0, slots := 0, locals := 43 })
abbrev Y_X11_markedOtherwise : ya_Y := (cX11_markedOtherwise, RX11, 5, (some (.int)), "markedOtherwise", { frames := 1, cells := 0, slots := 0, locals := 21 })
abbrev Y_X11_turn : ya_Y := (cX11_turn, RX11, 2, (some (.int)), "turn", { frames := 2, cells := 0, slots := 0, locals := 45 })
abbrev Y_X11_wantedFor : ya_Y := (cX11_wantedFor, RX11, 4, (some (.int)), "wantedFor", { frames := 2, cells := 0, slots := 0, locals := 49 })
abbrev Y_X11_bringAt : ya_Y := (cX11_bringAt, RX11, 4, (some (.int)), "bringAt", { frames := 4, cells := 0, slots := 0, locals := 115 })
abbrev Y_X11_made : ya_Y := (cX11_made, RX11, 4, (some (.int)), "made", { frames := 5, cells := 0, slots := 0, locals := 138 })
abbrev Y_X11_least : ya_Y := (cX11_least, RX11, 6, (some (.int)), "least", { frames := 5, cells := 0, slots := 0, locals := 138 })
abbrev Y_X11_most : ya_Y := (cX11_most, RX11, 9, (some (.int)), "most", { frames := 5, cells := 0, slots := 0, locals := 138 })
abbrev Y_X11_leap : ya_Y := (cX11_leap, RX11, 6, (some (.int)), "leap", { frames := 2, cells := 0, slots := 0, locals := 43 })
abbrev Y_X11_passingGain : ya_Y := (cX11_passingGain, RX11, 7, (some (.int)), "passingGain", { frames := 1, cells := 0, slots := 0, locals := 21 })
abbrev Y_X11_passingPart : ya_Y := (cX11_passingPart, RX11, 2, (some (.int)), "passingPart", { frames := 0, cells := 0, slots := 0, locals := 0 })
abbrev Y_X11_passing : ya_Y := (cX11_passing, RX11, 10, (some (.int)), "passing", { frames := 2, cells := 0, slots := 0, locals := 47 })
abbrev Y_X11_like : ya_Y := (cX11_like, RX11, 11, (some (.int)), "like", { frames := 1, cells := 0, slots := 0, locals := 22 })
abbrev Y_X11_dearestDay : ya_Y := (cX11_dearestDay, RX11, 4, (some (.int)), "dearestDay", { frames := 1, cells := 0, slots := 0, locals := 21 })
abbrev Y_X11_cheapestDay : ya_Y := (cX11_cheapestDay, RX11, 4, (some (.int)), "cheapestDay", { frames := 1, cells := 0, slots := 0, locals := 21 })
abbrev Y_X11_sameAsAhead : ya_Y := (cX11_sameAsAhead, RX11, 4, (some (.boolean)), "sameAsAhead", { frames := 1, cells := 0, slots := 0, locals := 21 })
abbrev Y_X11_priceChanges : ya_Y := (cX11_priceChanges, RX11, 4, (some (.int)), "priceChanges", { frames := 2, cells := 0, slots := 0, locals := 44 })
abbrev Y_X11_longestAtOnePrice : ya_Y := (cX11_longestAtOnePrice, RX11, 5, (some (.int)), "longestAtOnePrice", { frames := 2, cells := 0, slots := 0, locals := 44 })
abbrev Y_X11_shape : ya_Y := (cX11_shape, RX11, 3, (some (.int)), "shape", { frames := 3, cells := 0, slots := 0, locals := 68 })
abbrev Y_X11_dearer : ya_Y := (cX11_dearer, RX11, 5, (some (.int)), "dearer", { frames := 1, cells := 0, slots := 0, locals := 21 })
abbrev Y_X11_come : ya_Y := (cX11_come, RX11, 4, (some (.int)), "come", { frames := 2, cells := 0, slots := 0, locals := 49 })
abbrev Y_X11_isSlot : ya_Y := (cX11_isSlot, RX11, 1, (some (.boolean)), "isSlot", { frames := 0, cells := 0, slots := 0, locals := 0 })
abbrev Y_X11_refuseCrowds : ya_Y := (cX11_refuseCrowds, RX11, 8, (some (.int)), "refuseCrowds", { frames := 1, cells := 0, slots := 0, locals := 20 })
abbrev Y_X11_crowdsAgree : ya_Y := (cX11_crowdsAgree, RX11, 9, (some (.boolean)), "crowdsAgree", { frames := 2, cells := 0, slots := 0, locals := 49 })
abbrev Y_X11_agree : ya_Y := (cX11_agree, RX11, 7, (some (.int)), "agree", { frames := 3, cells := 0, slots := 0, locals := 77 })
abbrev Y_X11_told : ya_Y := (cX11_told, RX11, 8, (some (.int)), "told", { frames := 3, cells := 0, slots := 0, locals := 77 })
abbrev Y_X11_odd : ya_Y := (cX11_odd, RX11, 8, (some (.int)), "odd", { frames := 3, cells := 0, slots := 0, locals := 72 })
abbrev Y_X11_rowsThere : ya_Y := (cX11_rowsThere, RX11, 3, (some (.int)), "rowsThere", { frames := 0, cells := 0, slots := 0, locals := 0 })
abbrev Y_X11_count : ya_Y := (cX11_count, RX11, 2, (some (.int)), "count", { frames := 2, cells := 0, slots := 0, locals := 45 })
abbrev Y_X11_image : ya_Y := (cX11_image, RX11, 2, (some (.int)), "image", { frames := 3, cells := 0, slots := 0, locals := 82 })
abbrev Y_X11_restore : ya_Y := (cX11_restore, RX11, 2, (some (.int)), "restore", { frames := 3, cells := 0, slots := 0, locals := 82 })
abbrev Y_X11_row : ya_Y := (cX11_row, RX11, 4, (some (.int)), "row", { frames := 2, cells := 0, slots := 0, locals := 46 })
abbrev Y_X11_write : ya_Y := (cX11_write, RX11, 6, (some (.int)), "write", { frames := 1, cells := 0, slots := 0, locals := 23 })
abbrev Y_X11_paste : ya_Y := (cX11_paste, RX11, 8, (some (.int)), "paste", { frames := 1, cells := 0, slots := 0, locals := 40 })
abbrev Y_X12_in : ya_Y := (cX12_in, RX12, 6, (some (.boolean)), "in", { frames := 0, cells := 0, slots := 0, locals := 0 })
abbrev Y_X12_image : ya_Y := (cX12_image, RX12, 3, (some (.int)), "image", { frames := 1, cells := 0, slots := 0, locals := 25 })
abbrev Y_X12_restore : ya_Y := (cX12_restore, RX12, 3, (some (.int)), "restore", { frames := 1, cells := 0, slots := 0, locals := 25 })
abbrev Y_X12_isMarket : ya_Y := (cX12_isMarket, RX12, 1, (some (.boolean)), "isMarket", { frames := 0, cells := 0, slots := 0, locals := 0 })
abbrev Y_X12_isThing : ya_Y := (cX12_isThing, RX12, 3, (some (.boolean)), "isThing", { frames := 1, cells := 0, slots := 0, locals := 25 })
abbrev Y_X12_isDay : ya_Y := (cX12_isDay, RX12, 3, (some (.boolean)), "isDay", { frames := 1, cells := 0, slots := 0, locals := 25 })
abbrev Y_X12_isSeller : ya_Y := (cX12_isSeller, RX12, 2, (some (.boolean)), "isSeller", { frames := 1, cells := 0, slots := 0, locals := 25 })
abbrev Y_X12_isBuyer : ya_Y := (cX12_isBuyer, RX12, 2, (some (.boolean)), "isBuyer", { frames := 1, cells := 0, slots := 0, locals := 25 })
abbrev Y_X12_areSo : ya_Y := (cX12_areSo, RX12, 3, (some (.boolean)), "areSo", { frames := 2, cells := 0, slots := 0, locals := 47 })
abbrev Y_X12_at : ya_Y := (cX12_at, RX12, 2, (some (.int)), "at", { frames := 0, cells := 0, slots := 0, locals := 0 })
abbrev Y_X12_priceOf : ya_Y := (cX12_priceOf, RX12, 3, (some (.int)), "priceOf", { frames := 1, cells := 0, slots := 0, locals := 21 })
abbrev Y_X12_keepsOf : ya_Y := (cX12_keepsOf, RX12, 2, (some (.int)), "keepsOf", { frames := 0, cells := 0, slots := 0, locals := 0 })
abbrev Y_X12_seller3 : ya_Y := (cX12_seller3, RX12, 3, (some (.int)), "seller3", { frames := 0, cells := 0, slots := 0, locals := 0 })
abbrev Y_X12_thingOf : ya_Y := (cX12_thingOf, RX12, 2, (some (.int)), "thingOf", { frames := 1, cells := 0, slots := 0, locals := 22 })
abbrev Y_X12_of : ya_Y := (cX12_of, RX12, 3, (some (.int)), "of", { frames := 0, cells := 0, slots := 0, locals := 0 })
abbrev Y_X12_feed : ya_Y := (cX12_feed, RX12, 7, (some (.int)), "feed", { frames := 0, cells := 0, slots := 0, locals := 0 })
abbrev Y_X12_end : ya_Y := (cX12_end, RX12, 2, (some (.int)), "end", { frames := 1, cells := 0, slots := 0, locals := 25 })
abbrev Y_X12_see : ya_Y := (cX12_see, RX12, 2, (some (.int)), "see", { frames := 0, cells := 0, slots := 0, locals := 0 })
abbrev Y_X12_advance : ya_Y := (cX12_advance, RX12, 2, none, "advance", { frames := 1, cells := 0, slots := 0, locals := 25 })
abbrev Y_X12_good : ya_Y := (cX12_good, RX12, 1, (some (.boolean)), "good", { frames := 0, cells := 0, slots := 0, locals := 0 })
abbrev Y_X12_errs : ya_Y := (cX12_errs, RX12, 2, none, "errs", { frames := 1, cells := 0, slots := 0, locals := 20 })
abbrev Y_X12_is : ya_Y := (cX12_is, RX12, 4, (some (.boolean)), "is", { frames := 4, cells := 0, slots := 0, locals := 85 })
abbrev Y_X12_takes : ya_Y := (cX12_takes, RX12, 3, (some (.boolean)), "takes", { frames := 5, cells := 0, slots := 0, locals := 108 })
abbrev Y_X12_needs : ya_Y := (cX12_needs, RX12, 2, none, "needs", { frames := 6, cells := 0, slots := 0, locals := 130 })
abbrev Y_X12_number : ya_Y := (cX12_number, RX12, 4, (some (.int)), "number", { frames := 2, cells := 0, slots := 0, locals := 46 })
abbrev Y_X12_told : ya_Y := (cX12_told, RX12, 4, (some (.int)), "told", { frames := 7, cells := 0, slots := 0, locals := 151 })
abbrev Y_X12_fault : ya_Y := (cX12_fault, RX12, 2, (some (.int)), "fault", { frames := 0, cells := 0, slots := 0, locals := 0 })
abbrev Y_X12_freshThing : ya_Y := (cX12_freshThing, RX12, 1, (some (.int)), "freshThing", { frames := 3, cells := 0, slots := 0, locals := 69 })
abbrev Y_X12_readThing : ya_Y := (cX12_readThing, RX12, 4, none, "readThing", { frames := 8, cells := 0, slots := 0, locals := 174 })
abbrev Y_X12_readOn : ya_Y := (cX12_readOn, RX12, 6, none, "readOn", { frames := 8, cells := 0, slots := 0, locals := 174 })
abbrev Y_X12_readSeller : ya_Y := (cX12_readSeller, RX12, 2, none, "readSeller", { frames := 8, cells := 0, slots := 0, locals := 174 })
abbrev Y_X12_readBuyer : ya_Y := (cX12_readBuyer, RX12, 2, none, "readBuyer", { frames := 8, cells := 0, slots := 0, locals := 174 })
abbrev Y_X12_readNext : ya_Y := (cX12_readNext, RX12, 2, none, "readNext", { frames := 9, cells := 0, slots := 0, locals := 199 })
abbrev Y_X12_readLine : ya_Y := (cX12_readLine, RX12, 1, none, "readLine", { frames := 10, cells := 0, slots := 0, locals := 220 })
abbrev Y_X12_market : ya_Y := (cX12_market, RX12, 2, (some (.int)), "market", { frames := 11, cells := 0, slots := 0, locals := 240 })
abbrev Y_X12_draw : ya_Y := (cX12_draw, RX12, 2, (some (.int)), "draw", { frames := 0, cells := 0, slots := 0, locals := 0 })
abbrev Y_X12_comesTo : ya_Y := (cX12_comesTo, RX12, 3, (some (.int)), "comesTo", { frames := 1, cells := 0, slots := 0, locals := 22 })
abbrev Y_X12_stockOf : ya_Y := (cX12_stockOf, RX12, 4, (some (.int)), "stockOf", { frames := 1, cells := 0, slots := 0, locals := 21 })
abbrev Y_X12_wantsOn : ya_Y := (cX12_wantsOn, RX12, 4, (some (.boolean)), "wantsOn", { frames := 2, cells := 0, slots := 0, locals := 43 })
abbrev Y_X12_askedOf : ya_Y := (cX12_askedOf, RX12, 5, (some (.int)), "askedOf", { frames := 3, cells := 0, slots := 0, locals := 66 })
abbrev Y_X12_spoilsIn : ya_Y := (cX12_spoilsIn, RX12, 4, none, "spoilsIn", { frames := 2, cells := 0, slots := 0, locals := 44 })
abbrev Y_X12_offers : ya_Y := (cX12_offers, RX12, 4, (some (.boolean)), "offers", { frames := 2, cells := 0, slots := 0, locals := 43 })
abbrev Y_X12_takes_ : ya_Y := (cX12_takes_, RX12, 8, none, "takes", { frames := 3, cells := 0, slots := 0, locals := 66 })
abbrev Y_X12_standIn : ya_Y := (cX12_standIn, RX12, 8, (some (.int)), "standIn", { frames := 3, cells := 0, slots := 0, locals := 66 })
abbrev Y_X12_sellsOn : ya_Y := (cX12_sellsOn, RX12, 10, none, "sellsOn", { frames := 4, cells := 0, slots := 0, locals := 93 })
abbrev Y_X12_runs : ya_Y := (cX12_runs, RX12, 5, none, "runs", { frames := 5, cells := 0, slots := 0, locals := 122 })
abbrev Y_X12_price : ya_Y := (cX12_price, RX12, 3, (some (.int)), "price", { frames := 3, cells := 0, slots := 0, locals := 69 })
abbrev Y_X12_old : ya_Y := (cX12_old, RX12, 3, (some (.int)), "old", { frames := 3, cells := 0, slots := 0, locals := 69 })
abbrev Y_X12_offered : ya_Y := (cX12_offered, RX12, 3, (some (.int)), "offered", { frames := 6, cells := 0, slots := 0, locals := 146 })
abbrev Y_X12_asked : ya_Y := (cX12_asked, RX12, 3, (some (.int)), "asked", { frames := 4, cells := 0, slots := 0, locals := 90 })
abbrev Y_X12_sold : ya_Y := (cX12_sold, RX12, 3, (some (.int)), "sold", { frames := 6, cells := 0, slots := 0, locals := 146 })
abbrev Y_X12_allGets : ya_Y := (cX12_allGets, RX12, 4, (some (.int)), "allGets", { frames := 1, cells := 0, slots := 0, locals := 21 })
abbrev Y_X12_bestDay : ya_Y := (cX12_bestDay, RX12, 4, (some (.int)), "bestDay", { frames := 1, cells := 0, slots := 0, locals := 21 })
abbrev Y_X12_seller : ya_Y := (cX12_seller, RX12, 3, (some (.int)), "seller", { frames := 6, cells := 0, slots := 0, locals := 146 })
abbrev Y_X12_gets : ya_Y := (cX12_gets, RX12, 3, (some (.int)), "gets", { frames := 6, cells := 0, slots := 0, locals := 146 })
abbrev Y_X12_stock : ya_Y := (cX12_stock, RX12, 3, (some (.int)), "stock", { frames := 6, cells := 0, slots := 0, locals := 146 })
abbrev Y_X12_buyer : ya_Y := (cX12_buyer, RX12, 3, (some (.int)), "buyer", { frames := 6, cells := 0, slots := 0, locals := 146 })
abbrev Y_X12_moneyOn : ya_Y := (cX12_moneyOn, RX12, 4, (some (.int)), "moneyOn", { frames := 1, cells := 0, slots := 0, locals := 21 })
abbrev Y_X12_soldOn : ya_Y := (cX12_soldOn, RX12, 4, (some (.int)), "soldOn", { frames := 1, cells := 0, slots := 0, locals := 21 })
abbrev Y_X12_rich : ya_Y := (cX12_rich, RX12, 5, (some (.int)), "rich", { frames := 6, cells := 0, slots := 0, locals := 146 })
abbrev Y_X12_canFill : ya_Y := (cX12_canFill, RX12, 7, (some (.boolean)), "canFill", { frames := 2, cells := 0, slots := 0, locals := 44 })
abbrev Y_X12_fillsUp : ya_Y := (cX12_fillsUp, RX12, 6, none, "fillsUp", { frames := 3, cells := 0, slots := 0, locals := 70 })
abbrev Y_X12_bestBut : ya_Y := (cX12_bestBut, RX12, 9, (some (.int)), "bestBut", { frames := 4, cells := 0, slots := 0, locals := 95 })
abbrev Y_X12_best : ya_Y := (cX12_best, RX12, 2, (some (.int)), "best", { frames := 5, cells := 0, slots := 0, locals := 123 })
abbrev Y_X12_worth : ya_Y := (cX12_worth, RX12, 3, (some (.int)), "worth", { frames := 5, cells := 0, slots := 0, locals := 123 })
abbrev Y_X12_thursday : ya_Y := (cX12_thursday, RX12, 6, (some (.int)), "thursday", { frames := 5, cells := 0, slots := 0, locals := 123 })
abbrev Y_X12_setAsks : ya_Y := (cX12_setAsks, RX12, 3, none, "setAsks", { frames := 0, cells := 0, slots := 0, locals := 0 })
abbrev Y_X12_asks : ya_Y := (cX12_asks, RX12, 6, (some (.int)), "asks", { frames := 6, cells := 0, slots := 0, locals := 146 })
abbrev Y_X12_hold : ya_Y := (cX12_hold, RX12, 4, (some (.int)), "hold", { frames := 2, cells := 0, slots := 0, locals := 46 })
abbrev Y_X12_buyDay : ya_Y := (cX12_buyDay, RX12, 7, (some (.int)), "buyDay", { frames := 2, cells := 0, slots := 0, locals := 43 })
abbrev Y_X12_buysOn : ya_Y := (cX12_buysOn, RX12, 5, (some (.int)), "buysOn", { frames := 3, cells := 0, slots := 0, locals := 69 })
abbrev Y_X12_cheapest : ya_Y := (cX12_cheapest, RX12, 4, (some (.int)), "cheapest", { frames := 3, cells := 0, slots := 0, locals := 69 })
abbrev Y_X12_buys : ya_Y := (cX12_buys, RX12, 3, (some (.int)), "buys", { frames := 4, cells := 0, slots := 0, locals := 93 })
abbrev Y_X12_crowd : ya_Y := (cX12_crowd, RX12, 4, (some (.int)), "crowd", { frames := 4, cells := 0, slots := 0, locals := 93 })
abbrev Y_X12_mark : ya_Y := (cX12_mark, RX12, 5, (some (.int)), "mark", { frames := 3, cells := 0, slots := 0, locals := 69 })
abbrev Y_X12_isMarked : ya_Y := (cX12_isMarked, RX12, 2, (some (.boolean)), "isMarked", { frames := 0, cells := 0, slots := 0, locals := 0 })
abbrev Y_X12_markedMany : ya_Y := (cX12_markedMany, RX12, 4, (some (.int)), "markedMany", { frames := 1, cells := 0, slots := 0, locals := 21 })
abbrev Y_X12_turn : ya_Y := (cX12_turn, RX12, 4, (some (.int)), "turn", { frames := 2, cells := 0, slots := 0, locals := 44 })
abbrev Y_X12_madeBy : ya_Y := (cX12_madeBy, RX12, 8, (some (.int)), "madeBy", { frames := 5, cells := 0, slots := 0, locals := 123 })
abbrev Y_X12_made : ya_Y := (cX12_made, RX12, 4, (some (.int)), "made", { frames := 6, cells := 0, slots := 0, locals := 150 })
abbrev Y_X12_least : ya_Y := (cX12_least, RX12, 5, (some (.int)), "least", { frames := 6, cells := 0, slots := 0, locals := 150 })
abbrev Y_X12_most : ya_Y := (cX12_most, RX12, 8, (some (.int)), "most", { frames := 6, cells := 0, slots := 0, locals := 150 })
abbrev Y_X12_leap : ya_Y := (cX12_leap, RX12, 6, (some (.int)), "leap", { frames := 3, cells := 0, slots := 0, locals := 69 })
abbrev Y_X12_comeAt : ya_Y := (cX12_comeAt, RX12, 6, (some (.int)), "comeAt", { frames := 1, cells := 0, slots := 0, locals := 25 })
abbrev Y_X12_come : ya_Y := (cX12_come, RX12, 4, (some (.int)), "come", { frames := 3, cells := 0, slots := 0, locals := 69 })
abbrev Y_X12_numberAt : ya_Y := (cX12_numberAt, RX12, 3, (some (.long)), "numberAt", { frames := 0, cells := 0, slots := 0, locals := 0 })
abbrev Y_X12_isSlot : ya_Y := (cX12_isSlot, RX12, 1, (some (.boolean)), "isSlot", { frames := 1, cells := 0, slots := 0, locals := 25 })
abbrev Y_X12_asksCrowds : ya_Y := (cX12_asksCrowds, RX12, 4, (some (.int)), "asksCrowds", { frames := 2, cells := 0, slots := 0, locals := 47 })
abbrev Y_X12_agrees : ya_Y := (cX12_agrees, RX12, 7, (some (.boolean)), "agrees", { frames := 2, cells := 0, slots := 0, locals := 50 })
abbrev Y_X12_agree : ya_Y := (cX12_agree, RX12, 7, (some (.int)), "agree", { frames := 3, cells := 0, slots := 0, locals := 76 })
abbrev Y_X12_told_ : ya_Y := (cX12_told_, RX12, 9, (some (.int)), "told", { frames := 3, cells := 0, slots := 0, locals := 76 })
abbrev Y_X12_odd : ya_Y := (cX12_odd, RX12, 6, (some (.int)), "odd", { frames := 3, cells := 0, slots := 0, locals := 70 })
abbrev Y_X12_passing : ya_Y := (cX12_passing, RX12, 12, (some (.int)), "passing", { frames := 2, cells := 0, slots := 0, locals := 47 })
abbrev Y_X12_like : ya_Y := (cX12_like, RX12, 9, (some (.int)), "like", { frames := 2, cells := 0, slots := 0, locals := 47 })
abbrev Y_X12_queue : ya_Y := (cX12_queue, RX12, 3, (some (.int)), "queue", { frames := 6, cells := 0, slots := 0, locals := 146 })
abbrev Y_X12_spoils : ya_Y := (cX12_spoils, RX12, 3, (some (.int)), "spoils", { frames := 6, cells := 0, slots := 0, locals := 146 })
abbrev Y_X12_shape : ya_Y := (cX12_shape, RX12, 10, (some (.int)), "shape", { frames := 2, cells := 0, slots := 0, locals := 47 })
abbrev Y_X12_dearer : ya_Y := (cX12_dearer, RX12, 5, (some (.int)), "dearer", { frames := 2, cells := 0, slots := 0, locals := 47 })
abbrev Y_X12_bestKeeping : ya_Y := (cX12_bestKeeping, RX12, 6, (some (.int)), "bestKeeping", { frames := 5, cells := 0, slots := 0, locals := 123 })
abbrev Y_X12_keeping : ya_Y := (cX12_keeping, RX12, 3, (some (.int)), "keeping", { frames := 6, cells := 0, slots := 0, locals := 148 })
abbrev Y_X12_enough : ya_Y := (cX12_enough, RX12, 4, (some (.int)), "enough", { frames := 6, cells := 0, slots := 0, locals := 148 })
abbrev Y_X12_clears : ya_Y := (cX12_clears, RX12, 8, (some (.int)), "clears", { frames := 6, cells := 0, slots := 0, locals := 146 })
abbrev Y_X12_poor : ya_Y := (cX12_poor, RX12, 7, (some (.int)), "poor", { frames := 6, cells := 0, slots := 0, locals := 146 })
abbrev Y_X12_villageOn : ya_Y := (cX12_villageOn, RX12, 5, (some (.int)), "villageOn", { frames := 1, cells := 0, slots := 0, locals := 21 })
abbrev Y_X12_village : ya_Y := (cX12_village, RX12, 6, (some (.int)), "village", { frames := 6, cells := 0, slots := 0, locals := 146 })
abbrev Y_X12_factorial : ya_Y := (cX12_factorial, RX12, 3, (some (.int)), "factorial", { frames := 0, cells := 0, slots := 0, locals := 0 })
abbrev Y_X12_orders : ya_Y := (cX12_orders, RX12, 10, (some (.int)), "orders", { frames := 1, cells := 0, slots := 0, locals := 22 })
abbrev Y_X12_divisor : ya_Y := (cX12_divisor, RX12, 5, (some (.int)), "divisor", { frames := 0, cells := 0, slots := 0, locals := 0 })
abbrev Y_X12_chance : ya_Y := (cX12_chance, RX12, 9, (some (.int)), "chance", { frames := 6, cells := 0, slots := 0, locals := 146 })
abbrev Y_X12_isSeed : ya_Y := (cX12_isSeed, RX12, 1, (some (.boolean)), "isSeed", { frames := 1, cells := 0, slots := 0, locals := 25 })
abbrev Y_X12_lots : ya_Y := (cX12_lots, RX12, 3, (some (.int)), "lots", { frames := 6, cells := 0, slots := 0, locals := 146 })
abbrev Y_X12_years : ya_Y := (cX12_years, RX12, 6, (some (.int)), "years", { frames := 6, cells := 0, slots := 0, locals := 146 })
abbrev Y_X12_count : ya_Y := (cX12_count, RX12, 4, (some (.int)), "count", { frames := 2, cells := 0, slots := 0, locals := 44 })
abbrev Y_X12_cut : ya_Y := (cX12_cut, RX12, 4, (some (.long)), "cut", { frames := 0, cells := 0, slots := 0, locals := 0 })
abbrev Y_X12_row : ya_Y := (cX12_row, RX12, 5, (some (.int)), "row", { frames := 2, cells := 0, slots := 0, locals := 45 })
abbrev Y_X12_write : ya_Y := (cX12_write, RX12, 5, (some (.int)), "write", { frames := 2, cells := 0, slots := 0, locals := 45 })
abbrev Y_X12_paste : ya_Y := (cX12_paste, RX12, 7, (some (.int)), "paste", { frames := 2, cells := 0, slots := 0, locals := 45 })
theorem ml_X0_15 : Cond.methodLink RX0 15 ⟨"java/util/Arrays", "fill", "([II)V"⟩ ∈ lw_g := ya_in 1053 (by decide +kernel) (by decide +kernel)
theorem ml_X0_44 : Cond.methodLink RX0 44 Lib.Math.min.name ∈ lw_g := ya_in 1054 (by decide +kernel) (by decide +kernel)
theorem ml_X1_34 : Cond.methodLink RX1 34 yX1_comes ∈ lw_g := ya_in 822 (by decide +kernel) (by decide +kernel)
theorem ml_X1_38 : Cond.methodLink RX1 38 arraycopyName ∈ lw_g := ya_in 755 (by decide +kernel) (by decide +kernel)
theorem ml_X8_32 : Cond.methodLink RX8 32 arraycopyName ∈ lw_g := ya_in 743 (by decide +kernel) (by decide +kernel)
theorem ml_X6_32 : Cond.methodLink RX6 32 arraycopyName ∈ lw_g := ya_in 750 (by decide +kernel) (by decide +kernel)
theorem ml_X2_45 : Cond.methodLink RX2 45 yX8_take ∈ lw_g := ya_in 739 (by decide +kernel) (by decide +kernel)
theorem ml_X2_49 : Cond.methodLink RX2 49 yX6_take ∈ lw_g := ya_in 746 (by decide +kernel) (by decide +kernel)
theorem ml_X2_52 : Cond.methodLink RX2 52 yX1_take ∈ lw_g := ya_in 751 (by decide +kernel) (by decide +kernel)
theorem ml_X9_25 : Cond.methodLink RX9 25 yX9_isBlank ∈ lw_g := ya_in 543 (by decide +kernel) (by decide +kernel)
theorem ml_X9_35 : Cond.methodLink RX9 35 yX9_isLetter ∈ lw_g := ya_in 546 (by decide +kernel) (by decide +kernel)
theorem ml_X9_38 : Cond.methodLink RX9 38 yX9_isDigit ∈ lw_g := ya_in 549 (by decide +kernel) (by decide +kernel)
theorem kc_X9_41 : Cond.constant RX9 41 1000000 ∈ lw_g := ya_in 552 (by decide +kernel) (by decide +kernel)
theorem ml_X9_42 : Cond.methodLink RX9 42 Lib.Math.min.name ∈ lw_g := ya_in 553 (by decide +kernel) (by decide +kernel)
theorem ml_X9_48 : Cond.methodLink RX9 48 ⟨"java/lang/String", "length", "()I"⟩ ∈ lw_g := ya_in 663 (by decide +kernel) (by decide +kernel)
theorem ml_X9_54 : Cond.methodLink RX9 54 ⟨"java/lang/String", "charAt", "(I)C"⟩ ∈ lw_g := ya_in 664 (by decide +kernel) (by decide +kernel)
theorem ml_X3_83 : Cond.methodLink RX3 83 yX3_formOf ∈ lw_g := ya_in 564 (by decide +kernel) (by decide +kernel)
theorem ml_X3_94 : Cond.methodLink RX3 94 ⟨"java/lang/String", "indexOf", "(I)I"⟩ ∈ lw_g := ya_in 575 (by decide +kernel) (by decide +kernel)
theorem ml_X3_100 : Cond.methodLink RX3 100 yX9_isAs ∈ lw_g := ya_in 659 (by decide +kernel) (by decide +kernel)
theorem ml_X3_149 : Cond.methodLink RX3 149 yX3_lowestOf ∈ lw_g := ya_in 706 (by decide +kernel) (by decide +kernel)
theorem ml_X3_75 : Cond.methodLink RX3 75 yX3_refuse ∈ lw_g := ya_in 684 (by decide +kernel) (by decide +kernel)
theorem ml_X3_153 : Cond.methodLink RX3 153 yX3_highestOf ∈ lw_g := ya_in 710 (by decide +kernel) (by decide +kernel)
theorem ml_X3_58 : Cond.methodLink RX3 58 yX9_next ∈ lw_g := ya_in 539 (by decide +kernel) (by decide +kernel)
theorem ml_X3_130 : Cond.methodLink RX3 130 ⟨"java/lang/String", "length", "()I"⟩ ∈ lw_g := ya_in 696 (by decide +kernel) (by decide +kernel)
theorem ml_X3_142 : Cond.methodLink RX3 142 yX3_readNumber ∈ lw_g := ya_in 702 (by decide +kernel) (by decide +kernel)
theorem ml_X3_134 : Cond.methodLink RX3 134 ⟨"java/lang/String", "charAt", "(I)C"⟩ ∈ lw_g := ya_in 697 (by decide +kernel) (by decide +kernel)
theorem ml_X3_138 : Cond.methodLink RX3 138 yX3_readPart ∈ lw_g := ya_in 698 (by decide +kernel) (by decide +kernel)
theorem ml_X3_165 : Cond.methodLink RX3 165 yX8_add ∈ lw_g := ya_in 718 (by decide +kernel) (by decide +kernel)
theorem ml_X3_179 : Cond.methodLink RX3 179 yX6_add ∈ lw_g := ya_in 726 (by decide +kernel) (by decide +kernel)
theorem ml_X3_185 : Cond.methodLink RX3 185 yX1_add ∈ lw_g := ya_in 731 (by decide +kernel) (by decide +kernel)
theorem ml_X3_68 : Cond.methodLink RX3 68 yX3_kindHere ∈ lw_g := ya_in 560 (by decide +kernel) (by decide +kernel)
theorem ml_X3_79 : Cond.methodLink RX3 79 yX3_isFull ∈ lw_g := ya_in 688 (by decide +kernel) (by decide +kernel)
theorem ml_X3_87 : Cond.methodLink RX3 87 yX3_readForm ∈ lw_g := ya_in 692 (by decide +kernel) (by decide +kernel)
theorem ml_X3_91 : Cond.methodLink RX3 91 yX3_obey ∈ lw_g := ya_in 714 (by decide +kernel) (by decide +kernel)
theorem ml_X3_52 : Cond.methodLink RX3 52 yX2_empty ∈ lw_g := ya_in 531 (by decide +kernel) (by decide +kernel)
theorem ml_X3_55 : Cond.methodLink RX3 55 yX9_begin ∈ lw_g := ya_in 535 (by decide +kernel) (by decide +kernel)
theorem ml_X3_65 : Cond.methodLink RX3 65 yX3_readLine ∈ lw_g := ya_in 556 (by decide +kernel) (by decide +kernel)
theorem ml_X4_22 : Cond.methodLink RX4 22 ⟨"java/util/Arrays", "fill", "([JJ)V"⟩ ∈ lw_g := ya_in 1225 (by decide +kernel) (by decide +kernel)
theorem ml_X5_66 : Cond.methodLink RX5 66 yX1_wanted ∈ lw_g := ya_in 1005 (by decide +kernel) (by decide +kernel)
theorem ml_X5_72 : Cond.methodLink RX5 72 yX6_coming ∈ lw_g := ya_in 1006 (by decide +kernel) (by decide +kernel)
theorem ml_X5_90 : Cond.methodLink RX5 90 arraycopyName ∈ lw_g := ya_in 1020 (by decide +kernel) (by decide +kernel)
theorem ml_X5_96 : Cond.methodLink RX5 96 Lib.Math.max.name ∈ lw_g := ya_in 1021 (by decide +kernel) (by decide +kernel)
theorem ml_X5_101 : Cond.methodLink RX5 101 Lib.Math.min.name ∈ lw_g := ya_in 1022 (by decide +kernel) (by decide +kernel)
theorem ml_X5_74 : Cond.methodLink RX5 74 ⟨"java/util/Arrays", "fill", "([II)V"⟩ ∈ lw_g := ya_in 1011 (by decide +kernel) (by decide +kernel)
theorem ml_X5_80 : Cond.methodLink RX5 80 yX5_orderDays ∈ lw_g := ya_in 1012 (by decide +kernel) (by decide +kernel)
theorem ml_X5_84 : Cond.methodLink RX5 84 yX5_missing ∈ lw_g := ya_in 1016 (by decide +kernel) (by decide +kernel)
theorem ml_X5_87 : Cond.methodLink RX5 87 yX5_bring ∈ lw_g := ya_in 1031 (by decide +kernel) (by decide +kernel)
theorem ml_X10_94 : Cond.methodLink RX10 94 ⟨"java/util/Arrays", "fill", "([II)V"⟩ ∈ lw_g := ya_in 798 (by decide +kernel) (by decide +kernel)
theorem ml_X10_112 : Cond.methodLink RX10 112 yX6_coming ∈ lw_g := ya_in 806 (by decide +kernel) (by decide +kernel)
theorem ml_X10_159 : Cond.methodLink RX10 159 yX1_comes ∈ lw_g := ya_in 831 (by decide +kernel) (by decide +kernel)
theorem kc_X10_167 : Cond.constantLong RX10 167 1103515245 ∈ lw_g := ya_in 840 (by decide +kernel) (by decide +kernel)
theorem kc_X10_169 : Cond.constantLong RX10 169 12345 ∈ lw_g := ya_in 841 (by decide +kernel) (by decide +kernel)
theorem kc_X10_171 : Cond.constantLong RX10 171 2147483648 ∈ lw_g := ya_in 842 (by decide +kernel) (by decide +kernel)
theorem kc_X10_173 : Cond.constantLong RX10 173 65536 ∈ lw_g := ya_in 843 (by decide +kernel) (by decide +kernel)
theorem ml_X10_163 : Cond.methodLink RX10 163 yX10_draw ∈ lw_g := ya_in 836 (by decide +kernel) (by decide +kernel)
theorem ml_X10_132 : Cond.methodLink RX10 132 Lib.Math.min.name ∈ lw_g := ya_in 826 (by decide +kernel) (by decide +kernel)
theorem ml_X10_178 : Cond.methodLink RX10 178 yX10_takeOldest ∈ lw_g := ya_in 852 (by decide +kernel) (by decide +kernel)
theorem ml_X10_118 : Cond.methodLink RX10 118 yX10_supplyAt ∈ lw_g := ya_in 814 (by decide +kernel) (by decide +kernel)
theorem ml_X10_126 : Cond.methodLink RX10 126 yX1_wanted ∈ lw_g := ya_in 818 (by decide +kernel) (by decide +kernel)
theorem ml_X10_137 : Cond.methodLink RX10 137 yX10_gather ∈ lw_g := ya_in 827 (by decide +kernel) (by decide +kernel)
theorem ml_X10_144 : Cond.methodLink RX10 144 yX10_handOut ∈ lw_g := ya_in 844 (by decide +kernel) (by decide +kernel)
theorem ml_X10_148 : Cond.methodLink RX10 148 yX10_sell ∈ lw_g := ya_in 848 (by decide +kernel) (by decide +kernel)
theorem ml_X10_141 : Cond.methodLink RX10 141 yX10_mix ∈ lw_g := ya_in 832 (by decide +kernel) (by decide +kernel)
theorem ml_X10_54 : Cond.methodLink RX10 54 yX10_forget ∈ lw_g := ya_in 794 (by decide +kernel) (by decide +kernel)
theorem ml_X10_76 : Cond.methodLink RX10 76 yX10_begin ∈ lw_g := ya_in 801 (by decide +kernel) (by decide +kernel)
theorem ml_X10_87 : Cond.methodLink RX10 87 yX10_trade ∈ lw_g := ya_in 810 (by decide +kernel) (by decide +kernel)
theorem ml_X10_103 : Cond.methodLink RX10 103 yX10_takings ∈ lw_g := ya_in 876 (by decide +kernel) (by decide +kernel)
theorem ml_X11_72 : Cond.methodLink RX11 72 yX7_addFour ∈ lw_g := ya_in 515 (by decide +kernel) (by decide +kernel)
theorem ml_X11_76 : Cond.methodLink RX11 76 yX3_readAll ∈ lw_g := ya_in 527 (by decide +kernel) (by decide +kernel)
theorem ml_X11_83 : Cond.methodLink RX11 83 yX2_take ∈ lw_g := ya_in 735 (by decide +kernel) (by decide +kernel)
theorem ml_X11_303 : Cond.methodLink RX11 303 yX11_isThing ∈ lw_g := ya_in 769 (by decide +kernel) (by decide +kernel)
theorem ml_X11_150 : Cond.methodLink RX11 150 yX11_isDay ∈ lw_g := ya_in 773 (by decide +kernel) (by decide +kernel)
theorem ml_X11_96 : Cond.methodLink RX11 96 yX11_isThingDay ∈ lw_g := ya_in 765 (by decide +kernel) (by decide +kernel)
theorem ml_X11_110 : Cond.methodLink RX11 110 yX11_cell ∈ lw_g := ya_in 777 (by decide +kernel) (by decide +kernel)
theorem ml_X11_244 : Cond.methodLink RX11 244 yX10_run ∈ lw_g := ya_in 790 (by decide +kernel) (by decide +kernel)
theorem ml_X11_117 : Cond.methodLink RX11 117 yX11_thisYear ∈ lw_g := ya_in 786 (by decide +kernel) (by decide +kernel)
theorem ml_X11_130 : Cond.methodLink RX11 130 yX11_isSeller ∈ lw_g := ya_in 868 (by decide +kernel) (by decide +kernel)
theorem ml_X11_146 : Cond.methodLink RX11 146 yX10_richestDay ∈ lw_g := ya_in 872 (by decide +kernel) (by decide +kernel)
theorem ml_X11_159 : Cond.methodLink RX11 159 yX11_isBuyer ∈ lw_g := ya_in 892 (by decide +kernel) (by decide +kernel)
theorem ml_X11_172 : Cond.methodLink RX11 172 yX1_wantsInAll ∈ lw_g := ya_in 896 (by decide +kernel) (by decide +kernel)
theorem ml_X11_177 : Cond.methodLink RX11 177 yX11_isMarket ∈ lw_g := ya_in 904 (by decide +kernel) (by decide +kernel)
theorem ml_X11_188 : Cond.methodLink RX11 188 yX10_daysWithoutSale ∈ lw_g := ya_in 908 (by decide +kernel) (by decide +kernel)
theorem ml_X11_195 : Cond.methodLink RX11 195 yX10_takings ∈ lw_g := ya_in 912 (by decide +kernel) (by decide +kernel)
theorem ml_X11_201 : Cond.methodLink RX11 201 Lib.Math.max.name ∈ lw_g := ya_in 917 (by decide +kernel) (by decide +kernel)
theorem ml_X11_209 : Cond.methodLink RX11 209 yX1_wanted ∈ lw_g := ya_in 926 (by decide +kernel) (by decide +kernel)
theorem kc_J6_265 : Cond.constant RJ6 265 1431655765 ∈ lw_g := ya_in 954 (by decide +kernel) (by decide +kernel)
theorem kc_J6_266 : Cond.constant RJ6 266 858993459 ∈ lw_g := ya_in 955 (by decide +kernel) (by decide +kernel)
theorem kc_J6_267 : Cond.constant RJ6 267 252645135 ∈ lw_g := ya_in 956 (by decide +kernel) (by decide +kernel)
theorem ml_X11_231 : Cond.methodLink RX11 231 yX1_countComing ∈ lw_g := ya_in 943 (by decide +kernel) (by decide +kernel)
theorem ml_X11_371 : Cond.methodLink RX11 371 yX1_allCome ∈ lw_g := ya_in 947 (by decide +kernel) (by decide +kernel)
theorem ml_X11_374 : Cond.methodLink RX11 374 yJ6_bitCount_0f7a4 ∈ lw_g := ya_in 951 (by decide +kernel) (by decide +kernel)
theorem ml_X11_379 : Cond.methodLink RX11 379 yX1_wantsOf ∈ lw_g := ya_in 957 (by decide +kernel) (by decide +kernel)
theorem kf_X11_228 : Cond.fieldLink RX11 228 "YearAgo" "FACTORIAL" "[I" ∈ lw_g := ya_in 961 (by decide +kernel) (by decide +kernel)
theorem ml_X11_213 : Cond.methodLink RX11 213 yX11_within ∈ lw_g := ya_in 935 (by decide +kernel) (by decide +kernel)
theorem ml_X11_220 : Cond.methodLink RX11 220 yX1_comes ∈ lw_g := ya_in 938 (by decide +kernel) (by decide +kernel)
theorem ml_X11_234 : Cond.methodLink RX11 234 yX11_commonDivisor ∈ lw_g := ya_in 963 (by decide +kernel) (by decide +kernel)
theorem ml_X11_224 : Cond.methodLink RX11 224 yX11_ordersWithAll ∈ lw_g := ya_in 939 (by decide +kernel) (by decide +kernel)
theorem ml_X11_241 : Cond.methodLink RX11 241 yX11_costsSomeDay ∈ lw_g := ya_in 970 (by decide +kernel) (by decide +kernel)
theorem ml_X11_248 : Cond.methodLink RX11 248 yX11_dearestOf ∈ lw_g := ya_in 982 (by decide +kernel) (by decide +kernel)
theorem kc_X11_257 : Cond.constant RX11 257 2000000000 ∈ lw_g := ya_in 994 (by decide +kernel) (by decide +kernel)
theorem ml_X11_254 : Cond.methodLink RX11 254 yX11_years ∈ lw_g := ya_in 990 (by decide +kernel) (by decide +kernel)
theorem ml_X11_258 : Cond.methodLink RX11 258 yX5_load ∈ lw_g := ya_in 1000 (by decide +kernel) (by decide +kernel)
theorem ml_X11_261 : Cond.methodLink RX11 261 yX5_bring ∈ lw_g := ya_in 1007 (by decide +kernel) (by decide +kernel)
theorem ml_X11_265 : Cond.methodLink RX11 265 yX5_bringWithout ∈ lw_g := ya_in 1027 (by decide +kernel) (by decide +kernel)
theorem ml_X11_271 : Cond.methodLink RX11 271 yX11_keeping ∈ lw_g := ya_in 1044 (by decide +kernel) (by decide +kernel)
theorem ml_X11_274 : Cond.methodLink RX11 274 yX0_plan ∈ lw_g := ya_in 1049 (by decide +kernel) (by decide +kernel)
theorem ml_X11_287 : Cond.methodLink RX11 287 Lib.Math.min.name ∈ lw_g := ya_in 1068 (by decide +kernel) (by decide +kernel)
theorem ml_X11_290 : Cond.methodLink RX11 290 yX11_markedOtherwise ∈ lw_g := ya_in 1073 (by decide +kernel) (by decide +kernel)
theorem ml_X11_293 : Cond.methodLink RX11 293 yX8_turnYear ∈ lw_g := ya_in 1077 (by decide +kernel) (by decide +kernel)
theorem ml_X11_300 : Cond.methodLink RX11 300 yX11_wantedFor ∈ lw_g := ya_in 1090 (by decide +kernel) (by decide +kernel)
theorem ml_X11_391 : Cond.methodLink RX11 391 yX5_bringAt ∈ lw_g := ya_in 1094 (by decide +kernel) (by decide +kernel)
theorem kc_X11_296 : Cond.constant RX11 296 (-1000000) ∈ lw_g := ya_in 1085 (by decide +kernel) (by decide +kernel)
theorem ml_X11_297 : Cond.methodLink RX11 297 yX11_bringAt ∈ lw_g := ya_in 1086 (by decide +kernel) (by decide +kernel)
theorem ml_X11_308 : Cond.methodLink RX11 308 yX11_passingGain ∈ lw_g := ya_in 1114 (by decide +kernel) (by decide +kernel)
theorem ml_X11_311 : Cond.methodLink RX11 311 yX11_passingPart ∈ lw_g := ya_in 1118 (by decide +kernel) (by decide +kernel)
theorem ml_X11_392 : Cond.methodLink RX11 392 yX11_sameAsAhead ∈ lw_g := ya_in 1141 (by decide +kernel) (by decide +kernel)
theorem ml_X11_314 : Cond.methodLink RX11 314 yX11_dearestDay ∈ lw_g := ya_in 1129 (by decide +kernel) (by decide +kernel)
theorem ml_X11_317 : Cond.methodLink RX11 317 yX11_cheapestDay ∈ lw_g := ya_in 1133 (by decide +kernel) (by decide +kernel)
theorem ml_X11_320 : Cond.methodLink RX11 320 yX11_priceChanges ∈ lw_g := ya_in 1137 (by decide +kernel) (by decide +kernel)
theorem ml_X11_323 : Cond.methodLink RX11 323 yX11_longestAtOnePrice ∈ lw_g := ya_in 1145 (by decide +kernel) (by decide +kernel)
theorem ml_X11_347 : Cond.methodLink RX11 347 yX11_isSlot ∈ lw_g := ya_in 1165 (by decide +kernel) (by decide +kernel)
theorem ml_X11_326 : Cond.methodLink RX11 326 yX11_refuseCrowds ∈ lw_g := ya_in 1161 (by decide +kernel) (by decide +kernel)
theorem ml_X11_329 : Cond.methodLink RX11 329 yX11_crowdsAgree ∈ lw_g := ya_in 1168 (by decide +kernel) (by decide +kernel)
theorem ml_X11_337 : Cond.methodLink RX11 337 yX11_price ∈ lw_g := ya_in 1180 (by decide +kernel) (by decide +kernel)
theorem ml_X11_339 : Cond.methodLink RX11 339 yX11_come ∈ lw_g := ya_in 1181 (by decide +kernel) (by decide +kernel)
theorem ml_X11_344 : Cond.methodLink RX11 344 yX11_rowsThere ∈ lw_g := ya_in 1186 (by decide +kernel) (by decide +kernel)
theorem ml_X11_351 : Cond.methodLink RX11 351 yX4_begin ∈ lw_g := ya_in 1221 (by decide +kernel) (by decide +kernel)
theorem ml_X11_355 : Cond.methodLink RX11 355 yX4_put ∈ lw_g := ya_in 1232 (by decide +kernel) (by decide +kernel)
theorem ml_X11_362 : Cond.methodLink RX11 362 yX4_reaches ∈ lw_g := ya_in 1240 (by decide +kernel) (by decide +kernel)
theorem ml_X11_365 : Cond.methodLink RX11 365 arraycopyName ∈ lw_g := ya_in 1244 (by decide +kernel) (by decide +kernel)
theorem kc_X12_92 : Cond.constantLong RX12 92 2 ∈ lw_g := ya_in 1361 (by decide +kernel) (by decide +kernel)
theorem ml_X12_94 : Cond.methodLink RX12 94 yX12_in ∈ lw_g := ya_in 1362 (by decide +kernel) (by decide +kernel)
theorem ml_X12_98 : Cond.methodLink RX12 98 yX12_isThing ∈ lw_g := ya_in 1487 (by decide +kernel) (by decide +kernel)
theorem ml_X12_102 : Cond.methodLink RX12 102 yX12_isDay ∈ lw_g := ya_in 1491 (by decide +kernel) (by decide +kernel)
theorem ml_X12_105 : Cond.methodLink RX12 105 yX12_at ∈ lw_g := ya_in 1452 (by decide +kernel) (by decide +kernel)
theorem ml_X12_109 : Cond.methodLink RX12 109 yX12_seller3 ∈ lw_g := ya_in 1519 (by decide +kernel) (by decide +kernel)
theorem ml_X12_120 : Cond.methodLink RX12 120 yX12_see ∈ lw_g := ya_in 1389 (by decide +kernel) (by decide +kernel)
theorem kc_X12_130 : Cond.constantLong RX12 130 97 ∈ lw_g := ya_in 1393 (by decide +kernel) (by decide +kernel)
theorem kc_X12_132 : Cond.constantLong RX12 132 122 ∈ lw_g := ya_in 1394 (by decide +kernel) (by decide +kernel)
theorem kc_X12_134 : Cond.constantLong RX12 134 48 ∈ lw_g := ya_in 1395 (by decide +kernel) (by decide +kernel)
theorem kc_X12_136 : Cond.constantLong RX12 136 57 ∈ lw_g := ya_in 1396 (by decide +kernel) (by decide +kernel)
theorem kc_X12_141 : Cond.constant RX12 141 99999 ∈ lw_g := ya_in 1397 (by decide +kernel) (by decide +kernel)
theorem ml_X12_142 : Cond.methodLink RX12 142 Lib.Math.min.name ∈ lw_g := ya_in 1398 (by decide +kernel) (by decide +kernel)
theorem ml_X12_150 : Cond.methodLink RX12 150 yX12_good ∈ lw_g := ya_in 1399 (by decide +kernel) (by decide +kernel)
theorem ml_X12_154 : Cond.methodLink RX12 154 ⟨"java/lang/String", "length", "()I"⟩ ∈ lw_g := ya_in 1420 (by decide +kernel) (by decide +kernel)
theorem ml_X12_160 : Cond.methodLink RX12 160 ⟨"java/lang/String", "charAt", "(I)C"⟩ ∈ lw_g := ya_in 1421 (by decide +kernel) (by decide +kernel)
theorem ml_X12_164 : Cond.methodLink RX12 164 yX12_is ∈ lw_g := ya_in 1416 (by decide +kernel) (by decide +kernel)
theorem ml_X12_168 : Cond.methodLink RX12 168 yX12_advance ∈ lw_g := ya_in 1385 (by decide +kernel) (by decide +kernel)
theorem ml_X12_171 : Cond.methodLink RX12 171 yX12_takes ∈ lw_g := ya_in 1412 (by decide +kernel) (by decide +kernel)
theorem ml_X12_174 : Cond.methodLink RX12 174 yX12_errs ∈ lw_g := ya_in 1422 (by decide +kernel) (by decide +kernel)
theorem ml_X12_178 : Cond.methodLink RX12 178 yX12_needs ∈ lw_g := ya_in 1408 (by decide +kernel) (by decide +kernel)
theorem ml_X12_182 : Cond.methodLink RX12 182 yX12_number ∈ lw_g := ya_in 1431 (by decide +kernel) (by decide +kernel)
theorem ml_X12_187 : Cond.methodLink RX12 187 yX12_told ∈ lw_g := ya_in 1427 (by decide +kernel) (by decide +kernel)
theorem ml_X12_195 : Cond.methodLink RX12 195 yX12_freshThing ∈ lw_g := ya_in 1464 (by decide +kernel) (by decide +kernel)
theorem ml_X12_235 : Cond.methodLink RX12 235 yX12_readBuyer ∈ lw_g := ya_in 1470 (by decide +kernel) (by decide +kernel)
theorem ml_X12_228 : Cond.methodLink RX12 228 yX12_readOn ∈ lw_g := ya_in 1455 (by decide +kernel) (by decide +kernel)
theorem ml_X12_232 : Cond.methodLink RX12 232 yX12_readSeller ∈ lw_g := ya_in 1460 (by decide +kernel) (by decide +kernel)
theorem ml_X12_225 : Cond.methodLink RX12 225 yX12_readThing ∈ lw_g := ya_in 1446 (by decide +kernel) (by decide +kernel)
theorem ml_X12_242 : Cond.methodLink RX12 242 yX12_readNext ∈ lw_g := ya_in 1435 (by decide +kernel) (by decide +kernel)
theorem ml_X12_245 : Cond.methodLink RX12 245 yX12_readLine ∈ lw_g := ya_in 1403 (by decide +kernel) (by decide +kernel)
theorem kc_X12_248 : Cond.constantLong RX12 248 1103515245 ∈ lw_g := ya_in 1563 (by decide +kernel) (by decide +kernel)
theorem kc_X12_254 : Cond.constantLong RX12 254 12345 ∈ lw_g := ya_in 1564 (by decide +kernel) (by decide +kernel)
theorem kc_X12_256 : Cond.constantLong RX12 256 2147483648 ∈ lw_g := ya_in 1565 (by decide +kernel) (by decide +kernel)
theorem kc_X12_258 : Cond.constantLong RX12 258 65536 ∈ lw_g := ya_in 1566 (by decide +kernel) (by decide +kernel)
theorem ml_X12_260 : Cond.methodLink RX12 260 yX12_of ∈ lw_g := ya_in 1551 (by decide +kernel) (by decide +kernel)
theorem ml_X12_263 : Cond.methodLink RX12 263 yX12_priceOf ∈ lw_g := ya_in 1495 (by decide +kernel) (by decide +kernel)
theorem ml_X12_266 : Cond.methodLink RX12 266 yX12_wantsOn ∈ lw_g := ya_in 1547 (by decide +kernel) (by decide +kernel)
theorem ml_X12_270 : Cond.methodLink RX12 270 yX12_thingOf ∈ lw_g := ya_in 1515 (by decide +kernel) (by decide +kernel)
theorem ml_X12_273 : Cond.methodLink RX12 273 yX12_keepsOf ∈ lw_g := ya_in 1523 (by decide +kernel) (by decide +kernel)
theorem ml_X12_276 : Cond.methodLink RX12 276 yX12_comesTo ∈ lw_g := ya_in 1527 (by decide +kernel) (by decide +kernel)
theorem ml_X12_279 : Cond.methodLink RX12 279 yX12_offers ∈ lw_g := ya_in 1535 (by decide +kernel) (by decide +kernel)
theorem ml_X12_282 : Cond.methodLink RX12 282 yX12_draw ∈ lw_g := ya_in 1559 (by decide +kernel) (by decide +kernel)
theorem ml_X12_285 : Cond.methodLink RX12 285 yX12_stockOf ∈ lw_g := ya_in 1539 (by decide +kernel) (by decide +kernel)
theorem ml_X12_288 : Cond.methodLink RX12 288 yX12_askedOf ∈ lw_g := ya_in 1543 (by decide +kernel) (by decide +kernel)
theorem ml_X12_294 : Cond.methodLink RX12 294 yX12_standIn ∈ lw_g := ya_in 1555 (by decide +kernel) (by decide +kernel)
theorem ml_X12_298 : Cond.methodLink RX12 298 yX12_takes_ ∈ lw_g := ya_in 1567 (by decide +kernel) (by decide +kernel)
theorem ml_X12_301 : Cond.methodLink RX12 301 yX12_spoilsIn ∈ lw_g := ya_in 1511 (by decide +kernel) (by decide +kernel)
theorem ml_X12_304 : Cond.methodLink RX12 304 yX12_sellsOn ∈ lw_g := ya_in 1531 (by decide +kernel) (by decide +kernel)
theorem ml_X12_307 : Cond.methodLink RX12 307 yX12_areSo ∈ lw_g := ya_in 1483 (by decide +kernel) (by decide +kernel)
theorem ml_X12_311 : Cond.methodLink RX12 311 yX12_runs ∈ lw_g := ya_in 1507 (by decide +kernel) (by decide +kernel)
theorem ml_X12_315 : Cond.methodLink RX12 315 yX12_isSeller ∈ lw_g := ya_in 1583 (by decide +kernel) (by decide +kernel)
theorem kc_X12_319 : Cond.constantLong RX12 319 4 ∈ lw_g := ya_in 1587 (by decide +kernel) (by decide +kernel)
theorem ml_X12_324 : Cond.methodLink RX12 324 yX12_bestDay ∈ lw_g := ya_in 1592 (by decide +kernel) (by decide +kernel)
theorem ml_X12_321 : Cond.methodLink RX12 321 yX12_allGets ∈ lw_g := ya_in 1588 (by decide +kernel) (by decide +kernel)
theorem ml_X12_327 : Cond.methodLink RX12 327 yX12_isBuyer ∈ lw_g := ya_in 1608 (by decide +kernel) (by decide +kernel)
theorem ml_X12_330 : Cond.methodLink RX12 330 yX12_isMarket ∈ lw_g := ya_in 1616 (by decide +kernel) (by decide +kernel)
theorem kc_X12_333 : Cond.constantLong RX12 333 3 ∈ lw_g := ya_in 1620 (by decide +kernel) (by decide +kernel)
theorem ml_X12_335 : Cond.methodLink RX12 335 yX12_moneyOn ∈ lw_g := ya_in 1621 (by decide +kernel) (by decide +kernel)
theorem ml_X12_338 : Cond.methodLink RX12 338 yX12_soldOn ∈ lw_g := ya_in 1625 (by decide +kernel) (by decide +kernel)
theorem ml_X12_341 : Cond.methodLink RX12 341 Lib.Math.max.name ∈ lw_g := ya_in 1645 (by decide +kernel) (by decide +kernel)
theorem ml_X12_344 : Cond.methodLink RX12 344 yX12_canFill ∈ lw_g := ya_in 1641 (by decide +kernel) (by decide +kernel)
theorem ml_X12_347 : Cond.methodLink RX12 347 yX12_fillsUp ∈ lw_g := ya_in 1637 (by decide +kernel) (by decide +kernel)
theorem ml_X12_350 : Cond.methodLink RX12 350 yX12_bestBut ∈ lw_g := ya_in 1633 (by decide +kernel) (by decide +kernel)
theorem ml_X12_353 : Cond.methodLink RX12 353 yX12_setAsks ∈ lw_g := ya_in 1658 (by decide +kernel) (by decide +kernel)
theorem kc_X12_356 : Cond.constantLong RX12 356 99 ∈ lw_g := ya_in 1666 (by decide +kernel) (by decide +kernel)
theorem ml_X12_358 : Cond.methodLink RX12 358 yX12_buyDay ∈ lw_g := ya_in 1671 (by decide +kernel) (by decide +kernel)
theorem ml_X12_361 : Cond.methodLink RX12 361 yX12_buysOn ∈ lw_g := ya_in 1679 (by decide +kernel) (by decide +kernel)
theorem ml_X12_364 : Cond.methodLink RX12 364 yX12_isMarked ∈ lw_g := ya_in 1699 (by decide +kernel) (by decide +kernel)
theorem ml_X12_367 : Cond.methodLink RX12 367 yX12_markedMany ∈ lw_g := ya_in 1695 (by decide +kernel) (by decide +kernel)
theorem kc_X12_374 : Cond.constant RX12 374 (-1000000) ∈ lw_g := ya_in 1711 (by decide +kernel) (by decide +kernel)
theorem ml_X12_370 : Cond.methodLink RX12 370 yX12_madeBy ∈ lw_g := ya_in 1707 (by decide +kernel) (by decide +kernel)
theorem kc_X12_375 : Cond.constantLong RX12 375 9999 ∈ lw_g := ya_in 1716 (by decide +kernel) (by decide +kernel)
theorem ml_X12_377 : Cond.methodLink RX12 377 yX12_comeAt ∈ lw_g := ya_in 1729 (by decide +kernel) (by decide +kernel)
theorem ml_X12_380 : Cond.methodLink RX12 380 yX12_isSlot ∈ lw_g := ya_in 1741 (by decide +kernel) (by decide +kernel)
theorem ml_X12_383 : Cond.methodLink RX12 383 yX12_numberAt ∈ lw_g := ya_in 1744 (by decide +kernel) (by decide +kernel)
theorem ml_X12_387 : Cond.methodLink RX12 387 yX12_asksCrowds ∈ lw_g := ya_in 1737 (by decide +kernel) (by decide +kernel)
theorem ml_X12_391 : Cond.methodLink RX12 391 yX12_agrees ∈ lw_g := ya_in 1748 (by decide +kernel) (by decide +kernel)
theorem kc_X12_395 : Cond.constantLong RX12 395 9 ∈ lw_g := ya_in 1768 (by decide +kernel) (by decide +kernel)
theorem kc_X12_397 : Cond.constantLong RX12 397 30 ∈ lw_g := ya_in 1789 (by decide +kernel) (by decide +kernel)
theorem ml_X12_399 : Cond.methodLink RX12 399 yX12_bestKeeping ∈ lw_g := ya_in 1790 (by decide +kernel) (by decide +kernel)
theorem ml_X12_402 : Cond.methodLink RX12 402 yX12_villageOn ∈ lw_g := ya_in 1810 (by decide +kernel) (by decide +kernel)
theorem ml_X12_405 : Cond.methodLink RX12 405 yX12_factorial ∈ lw_g := ya_in 1818 (by decide +kernel) (by decide +kernel)
theorem ml_X12_411 : Cond.methodLink RX12 411 yX12_divisor ∈ lw_g := ya_in 1825 (by decide +kernel) (by decide +kernel)
theorem ml_X12_408 : Cond.methodLink RX12 408 yX12_orders ∈ lw_g := ya_in 1821 (by decide +kernel) (by decide +kernel)
theorem kc_X12_414 : Cond.constantLong RX12 414 2000000000 ∈ lw_g := ya_in 1835 (by decide +kernel) (by decide +kernel)
theorem ml_X12_416 : Cond.methodLink RX12 416 yX12_isSeed ∈ lw_g := ya_in 1832 (by decide +kernel) (by decide +kernel)
theorem kc_X12_419 : Cond.constantLong RX12 419 20 ∈ lw_g := ya_in 1840 (by decide +kernel) (by decide +kernel)
theorem ml_X12_421 : Cond.methodLink RX12 421 yX12_cut ∈ lw_g := ya_in 1853 (by decide +kernel) (by decide +kernel)
theorem fo_X0_9 : ya_fo RX0 9 0 0 2 := ⟨RX0, TX0, 1, tyX0, rfl, inX0, tyX0_ok, nmX0, by decide, rfl, (ya_in 472 (by decide +kernel) (by decide +kernel)), rfl, by decide, rfl⟩
theorem fo_X0_21 : ya_fo RX0 21 2 5 2 := ⟨RX2, TX2, 6, tyX2, rfl, inX2, tyX2_ok, nmX2, by decide, rfl, (ya_in 299 (by decide +kernel) (by decide +kernel)), rfl, by decide, rfl⟩
theorem fo_X0_27 : ya_fo RX0 27 1 1 2 := ⟨RX1, TX1, 7, tyX1, rfl, inX1, tyX1_ok, nmX1, by decide, rfl, (ya_in 245 (by decide +kernel) (by decide +kernel)), rfl, by decide, rfl⟩
theorem fo_X0_32 : ya_fo RX0 32 1 6 2 := ⟨RX1, TX1, 7, tyX1, rfl, inX1, tyX1_ok, nmX1, by decide, rfl, (ya_in 260 (by decide +kernel) (by decide +kernel)), rfl, by decide, rfl⟩
theorem fo_X0_35 : ya_fo RX0 35 2 3 2 := ⟨RX2, TX2, 6, tyX2, rfl, inX2, tyX2_ok, nmX2, by decide, rfl, (ya_in 289 (by decide +kernel) (by decide +kernel)), rfl, by decide, rfl⟩
theorem fo_X0_39 : ya_fo RX0 39 8 1 2 := ⟨RX8, TX8, 5, tyX8, rfl, inX8, tyX8_ok, nmX8, by decide, rfl, (ya_in 175 (by decide +kernel) (by decide +kernel)), rfl, by decide, rfl⟩
theorem fo_X0_50 : ya_fo RX0 50 1 4 2 := ⟨RX1, TX1, 7, tyX1, rfl, inX1, tyX1_ok, nmX1, by decide, rfl, (ya_in 254 (by decide +kernel) (by decide +kernel)), rfl, by decide, rfl⟩
theorem fo_X0_53 : ya_fo RX0 53 1 5 2 := ⟨RX1, TX1, 7, tyX1, rfl, inX1, tyX1_ok, nmX1, by decide, rfl, (ya_in 257 (by decide +kernel) (by decide +kernel)), rfl, by decide, rfl⟩
theorem fo_X0_56 : ya_fo RX0 56 8 2 2 := ⟨RX8, TX8, 5, tyX8, rfl, inX8, tyX8_ok, nmX8, by decide, rfl, (ya_in 180 (by decide +kernel) (by decide +kernel)), rfl, by decide, rfl⟩
theorem fo_X0_62 : ya_fo RX0 62 1 2 2 := ⟨RX1, TX1, 7, tyX1, rfl, inX1, tyX1_ok, nmX1, by decide, rfl, (ya_in 248 (by decide +kernel) (by decide +kernel)), rfl, by decide, rfl⟩
theorem fo_X1_30 : ya_fo RX1 30 1 0 0 := ⟨RX1, TX1, 7, tyX1, rfl, inX1, tyX1_ok, nmX1, by decide, rfl, (ya_in 239 (by decide +kernel) (by decide +kernel)), rfl, by decide, rfl⟩
theorem fo_X1_9 : ya_fo RX1 9 1 1 2 := ⟨RX1, TX1, 7, tyX1, rfl, inX1, tyX1_ok, nmX1, by decide, rfl, (ya_in 244 (by decide +kernel) (by decide +kernel)), rfl, by decide, rfl⟩
theorem fo_X1_15 : ya_fo RX1 15 1 2 2 := ⟨RX1, TX1, 7, tyX1, rfl, inX1, tyX1_ok, nmX1, by decide, rfl, (ya_in 247 (by decide +kernel) (by decide +kernel)), rfl, by decide, rfl⟩
theorem fo_X1_18 : ya_fo RX1 18 1 3 2 := ⟨RX1, TX1, 7, tyX1, rfl, inX1, tyX1_ok, nmX1, by decide, rfl, (ya_in 251 (by decide +kernel) (by decide +kernel)), rfl, by decide, rfl⟩
theorem fo_X1_21 : ya_fo RX1 21 1 4 2 := ⟨RX1, TX1, 7, tyX1, rfl, inX1, tyX1_ok, nmX1, by decide, rfl, (ya_in 253 (by decide +kernel) (by decide +kernel)), rfl, by decide, rfl⟩
theorem fo_X1_24 : ya_fo RX1 24 1 5 2 := ⟨RX1, TX1, 7, tyX1, rfl, inX1, tyX1_ok, nmX1, by decide, rfl, (ya_in 256 (by decide +kernel) (by decide +kernel)), rfl, by decide, rfl⟩
theorem fo_X1_27 : ya_fo RX1 27 1 6 2 := ⟨RX1, TX1, 7, tyX1, rfl, inX1, tyX1_ok, nmX1, by decide, rfl, (ya_in 259 (by decide +kernel) (by decide +kernel)), rfl, by decide, rfl⟩
theorem fo_X2_30 : ya_fo RX2 30 2 0 0 := ⟨RX2, TX2, 6, tyX2, rfl, inX2, tyX2_ok, nmX2, by decide, rfl, (ya_in 276 (by decide +kernel) (by decide +kernel)), rfl, by decide, rfl⟩
theorem fo_X2_34 : ya_fo RX2 34 2 1 0 := ⟨RX2, TX2, 6, tyX2, rfl, inX2, tyX2_ok, nmX2, by decide, rfl, (ya_in 279 (by decide +kernel) (by decide +kernel)), rfl, by decide, rfl⟩
theorem fo_X2_37 : ya_fo RX2 37 2 2 0 := ⟨RX2, TX2, 6, tyX2, rfl, inX2, tyX2_ok, nmX2, by decide, rfl, (ya_in 284 (by decide +kernel) (by decide +kernel)), rfl, by decide, rfl⟩
theorem fo_X2_10 : ya_fo RX2 10 2 3 2 := ⟨RX2, TX2, 6, tyX2, rfl, inX2, tyX2_ok, nmX2, by decide, rfl, (ya_in 287 (by decide +kernel) (by decide +kernel)), rfl, by decide, rfl⟩
theorem fo_X2_40 : ya_fo RX2 40 8 0 0 := ⟨RX8, TX8, 5, tyX8, rfl, inX8, tyX8_ok, nmX8, by decide, rfl, (ya_in 169 (by decide +kernel) (by decide +kernel)), rfl, by decide, rfl⟩
theorem fo_X2_19 : ya_fo RX2 19 2 4 2 := ⟨RX2, TX2, 6, tyX2, rfl, inX2, tyX2_ok, nmX2, by decide, rfl, (ya_in 293 (by decide +kernel) (by decide +kernel)), rfl, by decide, rfl⟩
theorem fo_X2_43 : ya_fo RX2 43 6 0 0 := ⟨RX6, TX6, 5, tyX6, rfl, inX6, tyX6_ok, nmX6, by decide, rfl, (ya_in 208 (by decide +kernel) (by decide +kernel)), rfl, by decide, rfl⟩
theorem fo_X2_26 : ya_fo RX2 26 2 5 2 := ⟨RX2, TX2, 6, tyX2, rfl, inX2, tyX2_ok, nmX2, by decide, rfl, (ya_in 298 (by decide +kernel) (by decide +kernel)), rfl, by decide, rfl⟩
theorem fo_X2_44 : ya_fo RX2 44 1 0 0 := ⟨RX1, TX1, 7, tyX1, rfl, inX1, tyX1_ok, nmX1, by decide, rfl, (ya_in 240 (by decide +kernel) (by decide +kernel)), rfl, by decide, rfl⟩
theorem fo_X8_24 : ya_fo RX8 24 8 0 0 := ⟨RX8, TX8, 5, tyX8, rfl, inX8, tyX8_ok, nmX8, by decide, rfl, (ya_in 168 (by decide +kernel) (by decide +kernel)), rfl, by decide, rfl⟩
theorem fo_X8_9 : ya_fo RX8 9 8 1 2 := ⟨RX8, TX8, 5, tyX8, rfl, inX8, tyX8_ok, nmX8, by decide, rfl, (ya_in 173 (by decide +kernel) (by decide +kernel)), rfl, by decide, rfl⟩
theorem fo_X8_15 : ya_fo RX8 15 8 2 2 := ⟨RX8, TX8, 5, tyX8, rfl, inX8, tyX8_ok, nmX8, by decide, rfl, (ya_in 178 (by decide +kernel) (by decide +kernel)), rfl, by decide, rfl⟩
theorem fo_X8_18 : ya_fo RX8 18 8 3 2 := ⟨RX8, TX8, 5, tyX8, rfl, inX8, tyX8_ok, nmX8, by decide, rfl, (ya_in 184 (by decide +kernel) (by decide +kernel)), rfl, by decide, rfl⟩
theorem fo_X8_21 : ya_fo RX8 21 8 4 2 := ⟨RX8, TX8, 5, tyX8, rfl, inX8, tyX8_ok, nmX8, by decide, rfl, (ya_in 187 (by decide +kernel) (by decide +kernel)), rfl, by decide, rfl⟩
theorem fo_X6_24 : ya_fo RX6 24 6 0 0 := ⟨RX6, TX6, 5, tyX6, rfl, inX6, tyX6_ok, nmX6, by decide, rfl, (ya_in 207 (by decide +kernel) (by decide +kernel)), rfl, by decide, rfl⟩
theorem fo_X6_9 : ya_fo RX6 9 6 1 2 := ⟨RX6, TX6, 5, tyX6, rfl, inX6, tyX6_ok, nmX6, by decide, rfl, (ya_in 212 (by decide +kernel) (by decide +kernel)), rfl, by decide, rfl⟩
theorem fo_X6_15 : ya_fo RX6 15 6 2 2 := ⟨RX6, TX6, 5, tyX6, rfl, inX6, tyX6_ok, nmX6, by decide, rfl, (ya_in 216 (by decide +kernel) (by decide +kernel)), rfl, by decide, rfl⟩
theorem fo_X6_18 : ya_fo RX6 18 6 3 2 := ⟨RX6, TX6, 5, tyX6, rfl, inX6, tyX6_ok, nmX6, by decide, rfl, (ya_in 217 (by decide +kernel) (by decide +kernel)), rfl, by decide, rfl⟩
theorem fo_X6_21 : ya_fo RX6 21 6 4 2 := ⟨RX6, TX6, 5, tyX6, rfl, inX6, tyX6_ok, nmX6, by decide, rfl, (ya_in 220 (by decide +kernel) (by decide +kernel)), rfl, by decide, rfl⟩
theorem fo_X9_7 : ya_fo RX9 7 9 2 0 := ⟨RX9, TX9, 4, tyX9, rfl, inX9, tyX9_ok, nmX9, by decide, rfl, (ya_in 327 (by decide +kernel) (by decide +kernel)), rfl, by decide, rfl⟩
theorem fo_X9_13 : ya_fo RX9 13 9 1 0 := ⟨RX9, TX9, 4, tyX9, rfl, inX9, tyX9_ok, nmX9, by decide, rfl, (ya_in 325 (by decide +kernel) (by decide +kernel)), rfl, by decide, rfl⟩
theorem fo_X9_16 : ya_fo RX9 16 7 1 0 := ⟨RX7, TX7, 2, tyX7, rfl, inX7, tyX7_ok, nmX7, by decide, rfl, (ya_in 143 (by decide +kernel) (by decide +kernel)), rfl, by decide, rfl⟩
theorem fo_X9_21 : ya_fo RX9 21 7 0 2 := ⟨RX7, TX7, 2, tyX7, rfl, inX7, tyX7_ok, nmX7, by decide, rfl, (ya_in 140 (by decide +kernel) (by decide +kernel)), rfl, by decide, rfl⟩
theorem fo_X9_29 : ya_fo RX9 29 9 3 0 := ⟨RX9, TX9, 4, tyX9, rfl, inX9, tyX9_ok, nmX9, by decide, rfl, (ya_in 328 (by decide +kernel) (by decide +kernel)), rfl, by decide, rfl⟩
theorem fo_X9_32 : ya_fo RX9 32 9 0 0 := ⟨RX9, TX9, 4, tyX9, rfl, inX9, tyX9_ok, nmX9, by decide, rfl, (ya_in 324 (by decide +kernel) (by decide +kernel)), rfl, by decide, rfl⟩
theorem fo_X3_21 : ya_fo RX3 21 3 1 2 := ⟨RX3, TX3, 6, tyX3, rfl, inX3, tyX3_ok, nmX3, by decide, rfl, (ya_in 341 (by decide +kernel) (by decide +kernel)), rfl, by decide, rfl⟩
theorem fo_X3_29 : ya_fo RX3 29 3 4 0 := ⟨RX3, TX3, 6, tyX3, rfl, inX3, tyX3_ok, nmX3, by decide, rfl, (ya_in 344 (by decide +kernel) (by decide +kernel)), rfl, by decide, rfl⟩
theorem fo_X3_159 : ya_fo RX3 159 9 1 0 := ⟨RX9, TX9, 4, tyX9, rfl, inX9, tyX9_ok, nmX9, by decide, rfl, (ya_in 326 (by decide +kernel) (by decide +kernel)), rfl, by decide, rfl⟩
theorem fo_X3_33 : ya_fo RX3 33 3 5 0 := ⟨RX3, TX3, 6, tyX3, rfl, inX3, tyX3_ok, nmX3, by decide, rfl, (ya_in 346 (by decide +kernel) (by decide +kernel)), rfl, by decide, rfl⟩
theorem fo_X3_12 : ya_fo RX3 12 3 0 2 := ⟨RX3, TX3, 6, tyX3, rfl, inX3, tyX3_ok, nmX3, by decide, rfl, (ya_in 339 (by decide +kernel) (by decide +kernel)), rfl, by decide, rfl⟩
theorem fo_X3_104 : ya_fo RX3 104 2 3 2 := ⟨RX2, TX2, 6, tyX2, rfl, inX2, tyX2_ok, nmX2, by decide, rfl, (ya_in 292 (by decide +kernel) (by decide +kernel)), rfl, by decide, rfl⟩
theorem fo_X3_108 : ya_fo RX3 108 8 0 0 := ⟨RX8, TX8, 5, tyX8, rfl, inX8, tyX8_ok, nmX8, by decide, rfl, (ya_in 171 (by decide +kernel) (by decide +kernel)), rfl, by decide, rfl⟩
theorem fo_X3_113 : ya_fo RX3 113 2 4 2 := ⟨RX2, TX2, 6, tyX2, rfl, inX2, tyX2_ok, nmX2, by decide, rfl, (ya_in 296 (by decide +kernel) (by decide +kernel)), rfl, by decide, rfl⟩
theorem fo_X3_117 : ya_fo RX3 117 6 0 0 := ⟨RX6, TX6, 5, tyX6, rfl, inX6, tyX6_ok, nmX6, by decide, rfl, (ya_in 210 (by decide +kernel) (by decide +kernel)), rfl, by decide, rfl⟩
theorem fo_X3_120 : ya_fo RX3 120 2 5 2 := ⟨RX2, TX2, 6, tyX2, rfl, inX2, tyX2_ok, nmX2, by decide, rfl, (ya_in 301 (by decide +kernel) (by decide +kernel)), rfl, by decide, rfl⟩
theorem fo_X3_124 : ya_fo RX3 124 1 0 0 := ⟨RX1, TX1, 7, tyX1, rfl, inX1, tyX1_ok, nmX1, by decide, rfl, (ya_in 241 (by decide +kernel) (by decide +kernel)), rfl, by decide, rfl⟩
theorem fo_X3_127 : ya_fo RX3 127 3 3 0 := ⟨RX3, TX3, 6, tyX3, rfl, inX3, tyX3_ok, nmX3, by decide, rfl, (ya_in 343 (by decide +kernel) (by decide +kernel)), rfl, by decide, rfl⟩
theorem fo_X3_25 : ya_fo RX3 25 3 2 2 := ⟨RX3, TX3, 6, tyX3, rfl, inX3, tyX3_ok, nmX3, by decide, rfl, (ya_in 342 (by decide +kernel) (by decide +kernel)), rfl, by decide, rfl⟩
theorem fo_X3_156 : ya_fo RX3 156 2 1 0 := ⟨RX2, TX2, 6, tyX2, rfl, inX2, tyX2_ok, nmX2, by decide, rfl, (ya_in 282 (by decide +kernel) (by decide +kernel)), rfl, by decide, rfl⟩
theorem fo_X3_62 : ya_fo RX3 62 9 0 0 := ⟨RX9, TX9, 4, tyX9, rfl, inX9, tyX9_ok, nmX9, by decide, rfl, (ya_in 323 (by decide +kernel) (by decide +kernel)), rfl, by decide, rfl⟩
theorem fo_X3_146 : ya_fo RX3 146 9 3 0 := ⟨RX9, TX9, 4, tyX9, rfl, inX9, tyX9_ok, nmX9, by decide, rfl, (ya_in 329 (by decide +kernel) (by decide +kernel)), rfl, by decide, rfl⟩
theorem fo_X3_162 : ya_fo RX3 162 2 2 0 := ⟨RX2, TX2, 6, tyX2, rfl, inX2, tyX2_ok, nmX2, by decide, rfl, (ya_in 285 (by decide +kernel) (by decide +kernel)), rfl, by decide, rfl⟩
theorem fo_X3_169 : ya_fo RX3 169 8 2 2 := ⟨RX8, TX8, 5, tyX8, rfl, inX8, tyX8_ok, nmX8, by decide, rfl, (ya_in 183 (by decide +kernel) (by decide +kernel)), rfl, by decide, rfl⟩
theorem fo_X3_176 : ya_fo RX3 176 8 3 2 := ⟨RX8, TX8, 5, tyX8, rfl, inX8, tyX8_ok, nmX8, by decide, rfl, (ya_in 186 (by decide +kernel) (by decide +kernel)), rfl, by decide, rfl⟩
theorem fo_X3_182 : ya_fo RX3 182 6 4 2 := ⟨RX6, TX6, 5, tyX6, rfl, inX6, tyX6_ok, nmX6, by decide, rfl, (ya_in 221 (by decide +kernel) (by decide +kernel)), rfl, by decide, rfl⟩
theorem fo_X3_72 : ya_fo RX3 72 2 0 0 := ⟨RX2, TX2, 6, tyX2, rfl, inX2, tyX2_ok, nmX2, by decide, rfl, (ya_in 277 (by decide +kernel) (by decide +kernel)), rfl, by decide, rfl⟩
theorem fo_X4_15 : ya_fo RX4 15 4 1 0 := ⟨RX4, TX4, 3, tyX4, rfl, inX4, tyX4_ok, nmX4, by decide, rfl, (ya_in 1209 (by decide +kernel) (by decide +kernel)), rfl, by decide, rfl⟩
theorem fo_X4_19 : ya_fo RX4 19 4 2 0 := ⟨RX4, TX4, 3, tyX4, rfl, inX4, tyX4_ok, nmX4, by decide, rfl, (ya_in 1211 (by decide +kernel) (by decide +kernel)), rfl, by decide, rfl⟩
theorem fo_X4_9 : ya_fo RX4 9 4 0 2 := ⟨RX4, TX4, 3, tyX4, rfl, inX4, tyX4_ok, nmX4, by decide, rfl, (ya_in 1207 (by decide +kernel) (by decide +kernel)), rfl, by decide, rfl⟩
theorem fo_X5_30 : ya_fo RX5 30 2 4 2 := ⟨RX2, TX2, 6, tyX2, rfl, inX2, tyX2_ok, nmX2, by decide, rfl, (ya_in 294 (by decide +kernel) (by decide +kernel)), rfl, by decide, rfl⟩
theorem fo_X5_36 : ya_fo RX5 36 6 1 2 := ⟨RX6, TX6, 5, tyX6, rfl, inX6, tyX6_ok, nmX6, by decide, rfl, (ya_in 213 (by decide +kernel) (by decide +kernel)), rfl, by decide, rfl⟩
theorem fo_X5_41 : ya_fo RX5 41 2 1 0 := ⟨RX2, TX2, 6, tyX2, rfl, inX2, tyX2_ok, nmX2, by decide, rfl, (ya_in 280 (by decide +kernel) (by decide +kernel)), rfl, by decide, rfl⟩
theorem fo_X5_45 : ya_fo RX5 45 5 6 0 := ⟨RX5, TX5, 8, tyX5, rfl, inX5, tyX5_ok, nmX5, by decide, rfl, (ya_in 446 (by decide +kernel) (by decide +kernel)), rfl, by decide, rfl⟩
theorem fo_X5_46 : ya_fo RX5 46 2 3 2 := ⟨RX2, TX2, 6, tyX2, rfl, inX2, tyX2_ok, nmX2, by decide, rfl, (ya_in 288 (by decide +kernel) (by decide +kernel)), rfl, by decide, rfl⟩
theorem fo_X5_50 : ya_fo RX5 50 8 1 2 := ⟨RX8, TX8, 5, tyX8, rfl, inX8, tyX8_ok, nmX8, by decide, rfl, (ya_in 174 (by decide +kernel) (by decide +kernel)), rfl, by decide, rfl⟩
theorem fo_X5_55 : ya_fo RX5 55 5 7 0 := ⟨RX5, TX5, 8, tyX5, rfl, inX5, tyX5_ok, nmX5, by decide, rfl, (ya_in 447 (by decide +kernel) (by decide +kernel)), rfl, by decide, rfl⟩
theorem fo_X5_9 : ya_fo RX5 9 5 0 2 := ⟨RX5, TX5, 8, tyX5, rfl, inX5, tyX5_ok, nmX5, by decide, rfl, (ya_in 440 (by decide +kernel) (by decide +kernel)), rfl, by decide, rfl⟩
theorem fo_X5_57 : ya_fo RX5 57 8 2 2 := ⟨RX8, TX8, 5, tyX8, rfl, inX8, tyX8_ok, nmX8, by decide, rfl, (ya_in 179 (by decide +kernel) (by decide +kernel)), rfl, by decide, rfl⟩
theorem fo_X5_15 : ya_fo RX5 15 5 1 2 := ⟨RX5, TX5, 8, tyX5, rfl, inX5, tyX5_ok, nmX5, by decide, rfl, (ya_in 441 (by decide +kernel) (by decide +kernel)), rfl, by decide, rfl⟩
theorem fo_X5_62 : ya_fo RX5 62 2 5 2 := ⟨RX2, TX2, 6, tyX2, rfl, inX2, tyX2_ok, nmX2, by decide, rfl, (ya_in 300 (by decide +kernel) (by decide +kernel)), rfl, by decide, rfl⟩
theorem fo_X5_18 : ya_fo RX5 18 5 2 2 := ⟨RX5, TX5, 8, tyX5, rfl, inX5, tyX5_ok, nmX5, by decide, rfl, (ya_in 442 (by decide +kernel) (by decide +kernel)), rfl, by decide, rfl⟩
theorem fo_X5_27 : ya_fo RX5 27 5 5 2 := ⟨RX5, TX5, 8, tyX5, rfl, inX5, tyX5_ok, nmX5, by decide, rfl, (ya_in 445 (by decide +kernel) (by decide +kernel)), rfl, by decide, rfl⟩
theorem fo_X5_24 : ya_fo RX5 24 5 4 2 := ⟨RX5, TX5, 8, tyX5, rfl, inX5, tyX5_ok, nmX5, by decide, rfl, (ya_in 444 (by decide +kernel) (by decide +kernel)), rfl, by decide, rfl⟩
theorem fo_X5_21 : ya_fo RX5 21 5 3 2 := ⟨RX5, TX5, 8, tyX5, rfl, inX5, tyX5_ok, nmX5, by decide, rfl, (ya_in 443 (by decide +kernel) (by decide +kernel)), rfl, by decide, rfl⟩
theorem fo_X7_15 : ya_fo RX7 15 7 1 0 := ⟨RX7, TX7, 2, tyX7, rfl, inX7, tyX7_ok, nmX7, by decide, rfl, (ya_in 141 (by decide +kernel) (by decide +kernel)), rfl, by decide, rfl⟩
theorem fo_X7_9 : ya_fo RX7 9 7 0 2 := ⟨RX7, TX7, 2, tyX7, rfl, inX7, tyX7_ok, nmX7, by decide, rfl, (ya_in 139 (by decide +kernel) (by decide +kernel)), rfl, by decide, rfl⟩
theorem fo_X10_21 : ya_fo RX10 21 10 3 2 := ⟨RX10, TX10, 17, tyX10, rfl, inX10, tyX10_ok, nmX10, by decide, rfl, (ya_in 375 (by decide +kernel) (by decide +kernel)), rfl, by decide, rfl⟩
theorem fo_X10_24 : ya_fo RX10 24 10 4 2 := ⟨RX10, TX10, 17, tyX10, rfl, inX10, tyX10_ok, nmX10, by decide, rfl, (ya_in 377 (by decide +kernel) (by decide +kernel)), rfl, by decide, rfl⟩
theorem fo_X10_33 : ya_fo RX10 33 10 7 2 := ⟨RX10, TX10, 17, tyX10, rfl, inX10, tyX10_ok, nmX10, by decide, rfl, (ya_in 382 (by decide +kernel) (by decide +kernel)), rfl, by decide, rfl⟩
theorem fo_X10_36 : ya_fo RX10 36 10 8 2 := ⟨RX10, TX10, 17, tyX10, rfl, inX10, tyX10_ok, nmX10, by decide, rfl, (ya_in 384 (by decide +kernel) (by decide +kernel)), rfl, by decide, rfl⟩
theorem fo_X10_39 : ya_fo RX10 39 10 9 2 := ⟨RX10, TX10, 17, tyX10, rfl, inX10, tyX10_ok, nmX10, by decide, rfl, (ya_in 386 (by decide +kernel) (by decide +kernel)), rfl, by decide, rfl⟩
theorem fo_X10_42 : ya_fo RX10 42 10 10 2 := ⟨RX10, TX10, 17, tyX10, rfl, inX10, tyX10_ok, nmX10, by decide, rfl, (ya_in 388 (by decide +kernel) (by decide +kernel)), rfl, by decide, rfl⟩
theorem fo_X10_45 : ya_fo RX10 45 10 11 2 := ⟨RX10, TX10, 17, tyX10, rfl, inX10, tyX10_ok, nmX10, by decide, rfl, (ya_in 390 (by decide +kernel) (by decide +kernel)), rfl, by decide, rfl⟩
theorem fo_X10_48 : ya_fo RX10 48 10 12 2 := ⟨RX10, TX10, 17, tyX10, rfl, inX10, tyX10_ok, nmX10, by decide, rfl, (ya_in 392 (by decide +kernel) (by decide +kernel)), rfl, by decide, rfl⟩
theorem fo_X10_100 : ya_fo RX10 100 10 15 0 := ⟨RX10, TX10, 17, tyX10, rfl, inX10, tyX10_ok, nmX10, by decide, rfl, (ya_in 396 (by decide +kernel) (by decide +kernel)), rfl, by decide, rfl⟩
theorem fo_X10_67 : ya_fo RX10 67 2 4 2 := ⟨RX2, TX2, 6, tyX2, rfl, inX2, tyX2_ok, nmX2, by decide, rfl, (ya_in 295 (by decide +kernel) (by decide +kernel)), rfl, by decide, rfl⟩
theorem fo_X10_106 : ya_fo RX10 106 6 1 2 := ⟨RX6, TX6, 5, tyX6, rfl, inX6, tyX6_ok, nmX6, by decide, rfl, (ya_in 214 (by decide +kernel) (by decide +kernel)), rfl, by decide, rfl⟩
theorem fo_X10_80 : ya_fo RX10 80 2 3 2 := ⟨RX2, TX2, 6, tyX2, rfl, inX2, tyX2_ok, nmX2, by decide, rfl, (ya_in 290 (by decide +kernel) (by decide +kernel)), rfl, by decide, rfl⟩
theorem fo_X10_109 : ya_fo RX10 109 8 1 2 := ⟨RX8, TX8, 5, tyX8, rfl, inX8, tyX8_ok, nmX8, by decide, rfl, (ya_in 176 (by decide +kernel) (by decide +kernel)), rfl, by decide, rfl⟩
theorem fo_X10_30 : ya_fo RX10 30 10 6 2 := ⟨RX10, TX10, 17, tyX10, rfl, inX10, tyX10_ok, nmX10, by decide, rfl, (ya_in 381 (by decide +kernel) (by decide +kernel)), rfl, by decide, rfl⟩
theorem fo_X10_71 : ya_fo RX10 71 6 0 0 := ⟨RX6, TX6, 5, tyX6, rfl, inX6, tyX6_ok, nmX6, by decide, rfl, (ya_in 209 (by decide +kernel) (by decide +kernel)), rfl, by decide, rfl⟩
theorem fo_X10_152 : ya_fo RX10 152 6 3 2 := ⟨RX6, TX6, 5, tyX6, rfl, inX6, tyX6_ok, nmX6, by decide, rfl, (ya_in 218 (by decide +kernel) (by decide +kernel)), rfl, by decide, rfl⟩
theorem fo_X10_155 : ya_fo RX10 155 10 14 0 := ⟨RX10, TX10, 17, tyX10, rfl, inX10, tyX10_ok, nmX10, by decide, rfl, (ya_in 395 (by decide +kernel) (by decide +kernel)), rfl, by decide, rfl⟩
theorem fo_X10_158 : ya_fo RX10 158 1 0 0 := ⟨RX1, TX1, 7, tyX1, rfl, inX1, tyX1_ok, nmX1, by decide, rfl, (ya_in 242 (by decide +kernel) (by decide +kernel)), rfl, by decide, rfl⟩
theorem fo_X10_51 : ya_fo RX10 51 10 13 2 := ⟨RX10, TX10, 17, tyX10, rfl, inX10, tyX10_ok, nmX10, by decide, rfl, (ya_in 394 (by decide +kernel) (by decide +kernel)), rfl, by decide, rfl⟩
theorem fo_X10_57 : ya_fo RX10 57 10 16 1 := ⟨RX10, TX10, 17, tyX10, rfl, inX10, tyX10_ok, nmX10, by decide, rfl, (ya_in 398 (by decide +kernel) (by decide +kernel)), rfl, by decide, rfl⟩
theorem fo_X10_175 : ya_fo RX10 175 1 2 2 := ⟨RX1, TX1, 7, tyX1, rfl, inX1, tyX1_ok, nmX1, by decide, rfl, (ya_in 249 (by decide +kernel) (by decide +kernel)), rfl, by decide, rfl⟩
theorem fo_X10_115 : ya_fo RX10 115 8 2 2 := ⟨RX8, TX8, 5, tyX8, rfl, inX8, tyX8_ok, nmX8, by decide, rfl, (ya_in 182 (by decide +kernel) (by decide +kernel)), rfl, by decide, rfl⟩
theorem fo_X10_9 : ya_fo RX10 9 10 0 2 := ⟨RX10, TX10, 17, tyX10, rfl, inX10, tyX10_ok, nmX10, by decide, rfl, (ya_in 369 (by decide +kernel) (by decide +kernel)), rfl, by decide, rfl⟩
theorem fo_X10_15 : ya_fo RX10 15 10 1 2 := ⟨RX10, TX10, 17, tyX10, rfl, inX10, tyX10_ok, nmX10, by decide, rfl, (ya_in 371 (by decide +kernel) (by decide +kernel)), rfl, by decide, rfl⟩
theorem fo_X10_122 : ya_fo RX10 122 2 5 2 := ⟨RX2, TX2, 6, tyX2, rfl, inX2, tyX2_ok, nmX2, by decide, rfl, (ya_in 302 (by decide +kernel) (by decide +kernel)), rfl, by decide, rfl⟩
theorem fo_X10_18 : ya_fo RX10 18 10 2 2 := ⟨RX10, TX10, 17, tyX10, rfl, inX10, tyX10_ok, nmX10, by decide, rfl, (ya_in 373 (by decide +kernel) (by decide +kernel)), rfl, by decide, rfl⟩
theorem fo_X10_61 : ya_fo RX10 61 2 1 0 := ⟨RX2, TX2, 6, tyX2, rfl, inX2, tyX2_ok, nmX2, by decide, rfl, (ya_in 281 (by decide +kernel) (by decide +kernel)), rfl, by decide, rfl⟩
theorem fo_X10_84 : ya_fo RX10 84 8 0 0 := ⟨RX8, TX8, 5, tyX8, rfl, inX8, tyX8_ok, nmX8, by decide, rfl, (ya_in 170 (by decide +kernel) (by decide +kernel)), rfl, by decide, rfl⟩
theorem fo_X10_27 : ya_fo RX10 27 10 5 2 := ⟨RX10, TX10, 17, tyX10, rfl, inX10, tyX10_ok, nmX10, by decide, rfl, (ya_in 379 (by decide +kernel) (by decide +kernel)), rfl, by decide, rfl⟩
theorem fo_X11_10 : ya_fo RX11 10 11 0 2 := ⟨RX11, TX11, 10, tyX11, rfl, inX11, tyX11_ok, nmX11, by decide, rfl, (ya_in 480 (by decide +kernel) (by decide +kernel)), rfl, by decide, rfl⟩
theorem fo_X11_68 : ya_fo RX11 68 7 1 0 := ⟨RX7, TX7, 2, tyX7, rfl, inX7, tyX7_ok, nmX7, by decide, rfl, (ya_in 142 (by decide +kernel) (by decide +kernel)), rfl, by decide, rfl⟩
theorem fo_X11_19 : ya_fo RX11 19 11 1 2 := ⟨RX11, TX11, 10, tyX11, rfl, inX11, tyX11_ok, nmX11, by decide, rfl, (ya_in 481 (by decide +kernel) (by decide +kernel)), rfl, by decide, rfl⟩
theorem fo_X11_26 : ya_fo RX11 26 11 2 2 := ⟨RX11, TX11, 10, tyX11, rfl, inX11, tyX11_ok, nmX11, by decide, rfl, (ya_in 482 (by decide +kernel) (by decide +kernel)), rfl, by decide, rfl⟩
theorem fo_X11_80 : ya_fo RX11 80 3 0 2 := ⟨RX3, TX3, 6, tyX3, rfl, inX3, tyX3_ok, nmX3, by decide, rfl, (ya_in 340 (by decide +kernel) (by decide +kernel)), rfl, by decide, rfl⟩
theorem fo_X11_64 : ya_fo RX11 64 11 9 0 := ⟨RX11, TX11, 10, tyX11, rfl, inX11, tyX11_ok, nmX11, by decide, rfl, (ya_in 489 (by decide +kernel) (by decide +kernel)), rfl, by decide, rfl⟩
theorem fo_X11_87 : ya_fo RX11 87 2 0 0 := ⟨RX2, TX2, 6, tyX2, rfl, inX2, tyX2_ok, nmX2, by decide, rfl, (ya_in 278 (by decide +kernel) (by decide +kernel)), rfl, by decide, rfl⟩
theorem fo_X11_90 : ya_fo RX11 90 3 4 0 := ⟨RX3, TX3, 6, tyX3, rfl, inX3, tyX3_ok, nmX3, by decide, rfl, (ya_in 345 (by decide +kernel) (by decide +kernel)), rfl, by decide, rfl⟩
theorem fo_X11_93 : ya_fo RX11 93 3 5 0 := ⟨RX3, TX3, 6, tyX3, rfl, inX3, tyX3_ok, nmX3, by decide, rfl, (ya_in 347 (by decide +kernel) (by decide +kernel)), rfl, by decide, rfl⟩
theorem fo_X11_100 : ya_fo RX11 100 2 3 2 := ⟨RX2, TX2, 6, tyX2, rfl, inX2, tyX2_ok, nmX2, by decide, rfl, (ya_in 291 (by decide +kernel) (by decide +kernel)), rfl, by decide, rfl⟩
theorem fo_X11_342 : ya_fo RX11 342 8 0 0 := ⟨RX8, TX8, 5, tyX8, rfl, inX8, tyX8_ok, nmX8, by decide, rfl, (ya_in 172 (by decide +kernel) (by decide +kernel)), rfl, by decide, rfl⟩
theorem fo_X11_192 : ya_fo RX11 192 2 1 0 := ⟨RX2, TX2, 6, tyX2, rfl, inX2, tyX2_ok, nmX2, by decide, rfl, (ya_in 283 (by decide +kernel) (by decide +kernel)), rfl, by decide, rfl⟩
theorem fo_X11_104 : ya_fo RX11 104 8 2 2 := ⟨RX8, TX8, 5, tyX8, rfl, inX8, tyX8_ok, nmX8, by decide, rfl, (ya_in 181 (by decide +kernel) (by decide +kernel)), rfl, by decide, rfl⟩
theorem fo_X11_114 : ya_fo RX11 114 8 3 2 := ⟨RX8, TX8, 5, tyX8, rfl, inX8, tyX8_ok, nmX8, by decide, rfl, (ya_in 185 (by decide +kernel) (by decide +kernel)), rfl, by decide, rfl⟩
theorem fo_X11_33 : ya_fo RX11 33 11 3 2 := ⟨RX11, TX11, 10, tyX11, rfl, inX11, tyX11_ok, nmX11, by decide, rfl, (ya_in 483 (by decide +kernel) (by decide +kernel)), rfl, by decide, rfl⟩
theorem fo_X11_121 : ya_fo RX11 121 10 0 2 := ⟨RX10, TX10, 17, tyX10, rfl, inX10, tyX10_ok, nmX10, by decide, rfl, (ya_in 370 (by decide +kernel) (by decide +kernel)), rfl, by decide, rfl⟩
theorem fo_X11_124 : ya_fo RX11 124 10 1 2 := ⟨RX10, TX10, 17, tyX10, rfl, inX10, tyX10_ok, nmX10, by decide, rfl, (ya_in 372 (by decide +kernel) (by decide +kernel)), rfl, by decide, rfl⟩
theorem fo_X11_127 : ya_fo RX11 127 10 2 2 := ⟨RX10, TX10, 17, tyX10, rfl, inX10, tyX10_ok, nmX10, by decide, rfl, (ya_in 374 (by decide +kernel) (by decide +kernel)), rfl, by decide, rfl⟩
theorem fo_X11_181 : ya_fo RX11 181 2 4 2 := ⟨RX2, TX2, 6, tyX2, rfl, inX2, tyX2_ok, nmX2, by decide, rfl, (ya_in 297 (by decide +kernel) (by decide +kernel)), rfl, by decide, rfl⟩
theorem fo_X11_185 : ya_fo RX11 185 6 0 0 := ⟨RX6, TX6, 5, tyX6, rfl, inX6, tyX6_ok, nmX6, by decide, rfl, (ya_in 211 (by decide +kernel) (by decide +kernel)), rfl, by decide, rfl⟩
theorem fo_X11_134 : ya_fo RX11 134 10 8 2 := ⟨RX10, TX10, 17, tyX10, rfl, inX10, tyX10_ok, nmX10, by decide, rfl, (ya_in 385 (by decide +kernel) (by decide +kernel)), rfl, by decide, rfl⟩
theorem fo_X11_137 : ya_fo RX11 137 10 9 2 := ⟨RX10, TX10, 17, tyX10, rfl, inX10, tyX10_ok, nmX10, by decide, rfl, (ya_in 387 (by decide +kernel) (by decide +kernel)), rfl, by decide, rfl⟩
theorem fo_X11_140 : ya_fo RX11 140 10 10 2 := ⟨RX10, TX10, 17, tyX10, rfl, inX10, tyX10_ok, nmX10, by decide, rfl, (ya_in 389 (by decide +kernel) (by decide +kernel)), rfl, by decide, rfl⟩
theorem fo_X11_143 : ya_fo RX11 143 10 7 2 := ⟨RX10, TX10, 17, tyX10, rfl, inX10, tyX10_ok, nmX10, by decide, rfl, (ya_in 383 (by decide +kernel) (by decide +kernel)), rfl, by decide, rfl⟩
theorem fo_X11_153 : ya_fo RX11 153 10 4 2 := ⟨RX10, TX10, 17, tyX10, rfl, inX10, tyX10_ok, nmX10, by decide, rfl, (ya_in 378 (by decide +kernel) (by decide +kernel)), rfl, by decide, rfl⟩
theorem fo_X11_156 : ya_fo RX11 156 10 5 2 := ⟨RX10, TX10, 17, tyX10, rfl, inX10, tyX10_ok, nmX10, by decide, rfl, (ya_in 380 (by decide +kernel) (by decide +kernel)), rfl, by decide, rfl⟩
theorem fo_X11_168 : ya_fo RX11 168 2 5 2 := ⟨RX2, TX2, 6, tyX2, rfl, inX2, tyX2_ok, nmX2, by decide, rfl, (ya_in 303 (by decide +kernel) (by decide +kernel)), rfl, by decide, rfl⟩
theorem fo_X11_343 : ya_fo RX11 343 1 0 0 := ⟨RX1, TX1, 7, tyX1, rfl, inX1, tyX1_ok, nmX1, by decide, rfl, (ya_in 243 (by decide +kernel) (by decide +kernel)), rfl, by decide, rfl⟩
theorem fo_X11_162 : ya_fo RX11 162 10 11 2 := ⟨RX10, TX10, 17, tyX10, rfl, inX10, tyX10_ok, nmX10, by decide, rfl, (ya_in 391 (by decide +kernel) (by decide +kernel)), rfl, by decide, rfl⟩
theorem fo_X11_165 : ya_fo RX11 165 10 12 2 := ⟨RX10, TX10, 17, tyX10, rfl, inX10, tyX10_ok, nmX10, by decide, rfl, (ya_in 393 (by decide +kernel) (by decide +kernel)), rfl, by decide, rfl⟩
theorem fo_X11_198 : ya_fo RX11 198 10 15 0 := ⟨RX10, TX10, 17, tyX10, rfl, inX10, tyX10_ok, nmX10, by decide, rfl, (ya_in 397 (by decide +kernel) (by decide +kernel)), rfl, by decide, rfl⟩
theorem fo_X11_206 : ya_fo RX11 206 10 3 2 := ⟨RX10, TX10, 17, tyX10, rfl, inX10, tyX10_ok, nmX10, by decide, rfl, (ya_in 376 (by decide +kernel) (by decide +kernel)), rfl, by decide, rfl⟩
theorem fo_X11_217 : ya_fo RX11 217 1 1 2 := ⟨RX1, TX1, 7, tyX1, rfl, inX1, tyX1_ok, nmX1, by decide, rfl, (ya_in 246 (by decide +kernel) (by decide +kernel)), rfl, by decide, rfl⟩
theorem fo_X11_382 : ya_fo RX11 382 1 2 2 := ⟨RX1, TX1, 7, tyX1, rfl, inX1, tyX1_ok, nmX1, by decide, rfl, (ya_in 250 (by decide +kernel) (by decide +kernel)), rfl, by decide, rfl⟩
theorem fo_X11_237 : ya_fo RX11 237 6 3 2 := ⟨RX6, TX6, 5, tyX6, rfl, inX6, tyX6_ok, nmX6, by decide, rfl, (ya_in 219 (by decide +kernel) (by decide +kernel)), rfl, by decide, rfl⟩
theorem fo_X11_240 : ya_fo RX11 240 6 1 2 := ⟨RX6, TX6, 5, tyX6, rfl, inX6, tyX6_ok, nmX6, by decide, rfl, (ya_in 215 (by decide +kernel) (by decide +kernel)), rfl, by decide, rfl⟩
theorem fo_X11_37 : ya_fo RX11 37 11 4 2 := ⟨RX11, TX11, 10, tyX11, rfl, inX11, tyX11_ok, nmX11, by decide, rfl, (ya_in 484 (by decide +kernel) (by decide +kernel)), rfl, by decide, rfl⟩
theorem fo_X11_385 : ya_fo RX11 385 1 4 2 := ⟨RX1, TX1, 7, tyX1, rfl, inX1, tyX1_ok, nmX1, by decide, rfl, (ya_in 255 (by decide +kernel) (by decide +kernel)), rfl, by decide, rfl⟩
theorem fo_X11_388 : ya_fo RX11 388 1 5 2 := ⟨RX1, TX1, 7, tyX1, rfl, inX1, tyX1_ok, nmX1, by decide, rfl, (ya_in 258 (by decide +kernel) (by decide +kernel)), rfl, by decide, rfl⟩
theorem fo_X11_251 : ya_fo RX11 251 1 3 2 := ⟨RX1, TX1, 7, tyX1, rfl, inX1, tyX1_ok, nmX1, by decide, rfl, (ya_in 252 (by decide +kernel) (by decide +kernel)), rfl, by decide, rfl⟩
theorem fo_X11_43 : ya_fo RX11 43 11 5 2 := ⟨RX11, TX11, 10, tyX11, rfl, inX11, tyX11_ok, nmX11, by decide, rfl, (ya_in 485 (by decide +kernel) (by decide +kernel)), rfl, by decide, rfl⟩
theorem fo_X11_268 : ya_fo RX11 268 5 7 0 := ⟨RX5, TX5, 8, tyX5, rfl, inX5, tyX5_ok, nmX5, by decide, rfl, (ya_in 448 (by decide +kernel) (by decide +kernel)), rfl, by decide, rfl⟩
theorem fo_X11_50 : ya_fo RX11 50 11 6 2 := ⟨RX11, TX11, 10, tyX11, rfl, inX11, tyX11_ok, nmX11, by decide, rfl, (ya_in 486 (by decide +kernel) (by decide +kernel)), rfl, by decide, rfl⟩
theorem fo_X11_278 : ya_fo RX11 278 0 0 2 := ⟨RX0, TX0, 1, tyX0, rfl, inX0, tyX0_ok, nmX0, by decide, rfl, (ya_in 473 (by decide +kernel) (by decide +kernel)), rfl, by decide, rfl⟩
theorem fo_X11_281 : ya_fo RX11 281 8 4 2 := ⟨RX8, TX8, 5, tyX8, rfl, inX8, tyX8_ok, nmX8, by decide, rfl, (ya_in 188 (by decide +kernel) (by decide +kernel)), rfl, by decide, rfl⟩
theorem fo_X11_284 : ya_fo RX11 284 2 2 0 := ⟨RX2, TX2, 6, tyX2, rfl, inX2, tyX2_ok, nmX2, by decide, rfl, (ya_in 286 (by decide +kernel) (by decide +kernel)), rfl, by decide, rfl⟩
theorem fo_X11_306 : ya_fo RX11 306 8 1 2 := ⟨RX8, TX8, 5, tyX8, rfl, inX8, tyX8_ok, nmX8, by decide, rfl, (ya_in 177 (by decide +kernel) (by decide +kernel)), rfl, by decide, rfl⟩
theorem fo_X11_60 : ya_fo RX11 60 11 8 2 := ⟨RX11, TX11, 10, tyX11, rfl, inX11, tyX11_ok, nmX11, by decide, rfl, (ya_in 488 (by decide +kernel) (by decide +kernel)), rfl, by decide, rfl⟩
theorem fo_X11_332 : ya_fo RX11 332 4 2 0 := ⟨RX4, TX4, 3, tyX4, rfl, inX4, tyX4_ok, nmX4, by decide, rfl, (ya_in 1212 (by decide +kernel) (by decide +kernel)), rfl, by decide, rfl⟩
theorem fo_X11_333 : ya_fo RX11 333 4 0 2 := ⟨RX4, TX4, 3, tyX4, rfl, inX4, tyX4_ok, nmX4, by decide, rfl, (ya_in 1208 (by decide +kernel) (by decide +kernel)), rfl, by decide, rfl⟩
theorem fo_X11_54 : ya_fo RX11 54 11 7 2 := ⟨RX11, TX11, 10, tyX11, rfl, inX11, tyX11_ok, nmX11, by decide, rfl, (ya_in 487 (by decide +kernel) (by decide +kernel)), rfl, by decide, rfl⟩
theorem fo_X11_359 : ya_fo RX11 359 4 1 0 := ⟨RX4, TX4, 3, tyX4, rfl, inX4, tyX4_ok, nmX4, by decide, rfl, (ya_in 1210 (by decide +kernel) (by decide +kernel)), rfl, by decide, rfl⟩
theorem fo_X12_16 : ya_fo RX12 16 12 3 2 := ⟨RX12, TX12, 35, tyX12, rfl, inX12, tyX12_ok, nmX12, by decide, rfl, (ya_in 1253 (by decide +kernel) (by decide +kernel)), rfl, by decide, rfl⟩
theorem fo_X12_13 : ya_fo RX12 13 12 2 2 := ⟨RX12, TX12, 35, tyX12, rfl, inX12, tyX12_ok, nmX12, by decide, rfl, (ya_in 1252 (by decide +kernel) (by decide +kernel)), rfl, by decide, rfl⟩
theorem fo_X12_9 : ya_fo RX12 9 12 1 2 := ⟨RX12, TX12, 35, tyX12, rfl, inX12, tyX12_ok, nmX12, by decide, rfl, (ya_in 1251 (by decide +kernel) (by decide +kernel)), rfl, by decide, rfl⟩
theorem fo_X12_112 : ya_fo RX12 112 12 5 0 := ⟨RX12, TX12, 35, tyX12, rfl, inX12, tyX12_ok, nmX12, by decide, rfl, (ya_in 1255 (by decide +kernel) (by decide +kernel)), rfl, by decide, rfl⟩
theorem fo_X12_24 : ya_fo RX12 24 12 6 2 := ⟨RX12, TX12, 35, tyX12, rfl, inX12, tyX12_ok, nmX12, by decide, rfl, (ya_in 1256 (by decide +kernel) (by decide +kernel)), rfl, by decide, rfl⟩
theorem fo_X12_20 : ya_fo RX12 20 12 4 2 := ⟨RX12, TX12, 35, tyX12, rfl, inX12, tyX12_ok, nmX12, by decide, rfl, (ya_in 1254 (by decide +kernel) (by decide +kernel)), rfl, by decide, rfl⟩
theorem fo_X12_115 : ya_fo RX12 115 12 7 0 := ⟨RX12, TX12, 35, tyX12, rfl, inX12, tyX12_ok, nmX12, by decide, rfl, (ya_in 1257 (by decide +kernel) (by decide +kernel)), rfl, by decide, rfl⟩
theorem fo_X12_118 : ya_fo RX12 118 12 8 0 := ⟨RX12, TX12, 35, tyX12, rfl, inX12, tyX12_ok, nmX12, by decide, rfl, (ya_in 1258 (by decide +kernel) (by decide +kernel)), rfl, by decide, rfl⟩
theorem fo_X12_124 : ya_fo RX12 124 12 9 0 := ⟨RX12, TX12, 35, tyX12, rfl, inX12, tyX12_ok, nmX12, by decide, rfl, (ya_in 1259 (by decide +kernel) (by decide +kernel)), rfl, by decide, rfl⟩
theorem fo_X12_127 : ya_fo RX12 127 12 10 0 := ⟨RX12, TX12, 35, tyX12, rfl, inX12, tyX12_ok, nmX12, by decide, rfl, (ya_in 1260 (by decide +kernel) (by decide +kernel)), rfl, by decide, rfl⟩
theorem fo_X12_138 : ya_fo RX12 138 12 11 0 := ⟨RX12, TX12, 35, tyX12, rfl, inX12, tyX12_ok, nmX12, by decide, rfl, (ya_in 1261 (by decide +kernel) (by decide +kernel)), rfl, by decide, rfl⟩
theorem fo_X12_147 : ya_fo RX12 147 12 12 0 := ⟨RX12, TX12, 35, tyX12, rfl, inX12, tyX12_ok, nmX12, by decide, rfl, (ya_in 1262 (by decide +kernel) (by decide +kernel)), rfl, by decide, rfl⟩
theorem fo_X12_27 : ya_fo RX12 27 12 13 0 := ⟨RX12, TX12, 35, tyX12, rfl, inX12, tyX12_ok, nmX12, by decide, rfl, (ya_in 1263 (by decide +kernel) (by decide +kernel)), rfl, by decide, rfl⟩
theorem fo_X12_31 : ya_fo RX12 31 12 14 2 := ⟨RX12, TX12, 35, tyX12, rfl, inX12, tyX12_ok, nmX12, by decide, rfl, (ya_in 1264 (by decide +kernel) (by decide +kernel)), rfl, by decide, rfl⟩
theorem fo_X12_250 : ya_fo RX12 250 12 28 1 := ⟨RX12, TX12, 35, tyX12, rfl, inX12, tyX12_ok, nmX12, by decide, rfl, (ya_in 1278 (by decide +kernel) (by decide +kernel)), rfl, by decide, rfl⟩
theorem fo_X12_34 : ya_fo RX12 34 12 15 2 := ⟨RX12, TX12, 35, tyX12, rfl, inX12, tyX12_ok, nmX12, by decide, rfl, (ya_in 1265 (by decide +kernel) (by decide +kernel)), rfl, by decide, rfl⟩
theorem fo_X12_55 : ya_fo RX12 55 12 22 2 := ⟨RX12, TX12, 35, tyX12, rfl, inX12, tyX12_ok, nmX12, by decide, rfl, (ya_in 1272 (by decide +kernel) (by decide +kernel)), rfl, by decide, rfl⟩
theorem fo_X12_64 : ya_fo RX12 64 12 25 2 := ⟨RX12, TX12, 35, tyX12, rfl, inX12, tyX12_ok, nmX12, by decide, rfl, (ya_in 1275 (by decide +kernel) (by decide +kernel)), rfl, by decide, rfl⟩
theorem fo_X12_52 : ya_fo RX12 52 12 21 2 := ⟨RX12, TX12, 35, tyX12, rfl, inX12, tyX12_ok, nmX12, by decide, rfl, (ya_in 1271 (by decide +kernel) (by decide +kernel)), rfl, by decide, rfl⟩
theorem fo_X12_46 : ya_fo RX12 46 12 19 2 := ⟨RX12, TX12, 35, tyX12, rfl, inX12, tyX12_ok, nmX12, by decide, rfl, (ya_in 1269 (by decide +kernel) (by decide +kernel)), rfl, by decide, rfl⟩
theorem fo_X12_67 : ya_fo RX12 67 12 26 2 := ⟨RX12, TX12, 35, tyX12, rfl, inX12, tyX12_ok, nmX12, by decide, rfl, (ya_in 1276 (by decide +kernel) (by decide +kernel)), rfl, by decide, rfl⟩
theorem fo_X12_37 : ya_fo RX12 37 12 16 2 := ⟨RX12, TX12, 35, tyX12, rfl, inX12, tyX12_ok, nmX12, by decide, rfl, (ya_in 1266 (by decide +kernel) (by decide +kernel)), rfl, by decide, rfl⟩
theorem fo_X12_40 : ya_fo RX12 40 12 17 2 := ⟨RX12, TX12, 35, tyX12, rfl, inX12, tyX12_ok, nmX12, by decide, rfl, (ya_in 1267 (by decide +kernel) (by decide +kernel)), rfl, by decide, rfl⟩
theorem fo_X12_291 : ya_fo RX12 291 12 27 0 := ⟨RX12, TX12, 35, tyX12, rfl, inX12, tyX12_ok, nmX12, by decide, rfl, (ya_in 1277 (by decide +kernel) (by decide +kernel)), rfl, by decide, rfl⟩
theorem fo_X12_61 : ya_fo RX12 61 12 24 2 := ⟨RX12, TX12, 35, tyX12, rfl, inX12, tyX12_ok, nmX12, by decide, rfl, (ya_in 1274 (by decide +kernel) (by decide +kernel)), rfl, by decide, rfl⟩
theorem fo_X12_58 : ya_fo RX12 58 12 23 2 := ⟨RX12, TX12, 35, tyX12, rfl, inX12, tyX12_ok, nmX12, by decide, rfl, (ya_in 1273 (by decide +kernel) (by decide +kernel)), rfl, by decide, rfl⟩
theorem fo_X12_43 : ya_fo RX12 43 12 18 2 := ⟨RX12, TX12, 35, tyX12, rfl, inX12, tyX12_ok, nmX12, by decide, rfl, (ya_in 1268 (by decide +kernel) (by decide +kernel)), rfl, by decide, rfl⟩
theorem fo_X12_49 : ya_fo RX12 49 12 20 2 := ⟨RX12, TX12, 35, tyX12, rfl, inX12, tyX12_ok, nmX12, by decide, rfl, (ya_in 1270 (by decide +kernel) (by decide +kernel)), rfl, by decide, rfl⟩
theorem fo_X12_73 : ya_fo RX12 73 12 30 2 := ⟨RX12, TX12, 35, tyX12, rfl, inX12, tyX12_ok, nmX12, by decide, rfl, (ya_in 1280 (by decide +kernel) (by decide +kernel)), rfl, by decide, rfl⟩
theorem fo_X12_70 : ya_fo RX12 70 12 29 2 := ⟨RX12, TX12, 35, tyX12, rfl, inX12, tyX12_ok, nmX12, by decide, rfl, (ya_in 1279 (by decide +kernel) (by decide +kernel)), rfl, by decide, rfl⟩
theorem fo_X12_82 : ya_fo RX12 82 12 33 2 := ⟨RX12, TX12, 35, tyX12, rfl, inX12, tyX12_ok, nmX12, by decide, rfl, (ya_in 1283 (by decide +kernel) (by decide +kernel)), rfl, by decide, rfl⟩
theorem fo_X12_76 : ya_fo RX12 76 12 31 2 := ⟨RX12, TX12, 35, tyX12, rfl, inX12, tyX12_ok, nmX12, by decide, rfl, (ya_in 1281 (by decide +kernel) (by decide +kernel)), rfl, by decide, rfl⟩
theorem fo_X12_79 : ya_fo RX12 79 12 32 2 := ⟨RX12, TX12, 35, tyX12, rfl, inX12, tyX12_ok, nmX12, by decide, rfl, (ya_in 1282 (by decide +kernel) (by decide +kernel)), rfl, by decide, rfl⟩
theorem fo_X12_86 : ya_fo RX12 86 12 34 2 := ⟨RX12, TX12, 35, tyX12, rfl, inX12, tyX12_ok, nmX12, by decide, rfl, (ya_in 1284 (by decide +kernel) (by decide +kernel)), rfl, by decide, rfl⟩
theorem pf_X1_0 : ∀ q ∈ ya_cl[1]?, (q.2.1 0).2.2.2 = false ∧ parseFieldDescriptor (q.2.1 0).2.2.1 = some .int := by
  intro q hq
  obtain rfl : (RX1, TX1, 7) = q := Option.some.inj hq
  exact ⟨rfl, by decide +kernel⟩
theorem pf_X2_0 : ∀ q ∈ ya_cl[2]?, (q.2.1 0).2.2.2 = false ∧ parseFieldDescriptor (q.2.1 0).2.2.1 = some .int := by
  intro q hq
  obtain rfl : (RX2, TX2, 6) = q := Option.some.inj hq
  exact ⟨rfl, by decide +kernel⟩
theorem pf_X2_1 : ∀ q ∈ ya_cl[2]?, (q.2.1 1).2.2.2 = false ∧ parseFieldDescriptor (q.2.1 1).2.2.1 = some .int := by
  intro q hq
  obtain rfl : (RX2, TX2, 6) = q := Option.some.inj hq
  exact ⟨rfl, by decide +kernel⟩
theorem pf_X2_2 : ∀ q ∈ ya_cl[2]?, (q.2.1 2).2.2.2 = false ∧ parseFieldDescriptor (q.2.1 2).2.2.1 = some .int := by
  intro q hq
  obtain rfl : (RX2, TX2, 6) = q := Option.some.inj hq
  exact ⟨rfl, by decide +kernel⟩
theorem pf_X8_0 : ∀ q ∈ ya_cl[8]?, (q.2.1 0).2.2.2 = false ∧ parseFieldDescriptor (q.2.1 0).2.2.1 = some .int := by
  intro q hq
  obtain rfl : (RX8, TX8, 5) = q := Option.some.inj hq
  exact ⟨rfl, by decide +kernel⟩
theorem pf_X6_0 : ∀ q ∈ ya_cl[6]?, (q.2.1 0).2.2.2 = false ∧ parseFieldDescriptor (q.2.1 0).2.2.1 = some .int := by
  intro q hq
  obtain rfl : (RX6, TX6, 5) = q := Option.some.inj hq
  exact ⟨rfl, by decide +kernel⟩
theorem pf_X9_2 : ∀ q ∈ ya_cl[9]?, (q.2.1 2).2.2.2 = false ∧ parseFieldDescriptor (q.2.1 2).2.2.1 = some .int := by
  intro q hq
  obtain rfl : (RX9, TX9, 4) = q := Option.some.inj hq
  exact ⟨rfl, by decide +kernel⟩
theorem pf_X9_1 : ∀ q ∈ ya_cl[9]?, (q.2.1 1).2.2.2 = false ∧ parseFieldDescriptor (q.2.1 1).2.2.1 = some .int := by
  intro q hq
  obtain rfl : (RX9, TX9, 4) = q := Option.some.inj hq
  exact ⟨rfl, by decide +kernel⟩
theorem pf_X9_3 : ∀ q ∈ ya_cl[9]?, (q.2.1 3).2.2.2 = false ∧ parseFieldDescriptor (q.2.1 3).2.2.1 = some .int := by
  intro q hq
  obtain rfl : (RX9, TX9, 4) = q := Option.some.inj hq
  exact ⟨rfl, by decide +kernel⟩
theorem pf_X9_0 : ∀ q ∈ ya_cl[9]?, (q.2.1 0).2.2.2 = false ∧ parseFieldDescriptor (q.2.1 0).2.2.1 = some .int := by
  intro q hq
  obtain rfl : (RX9, TX9, 4) = q := Option.some.inj hq
  exact ⟨rfl, by decide +kernel⟩
theorem pf_X3_4 : ∀ q ∈ ya_cl[3]?, (q.2.1 4).2.2.2 = false ∧ parseFieldDescriptor (q.2.1 4).2.2.1 = some .int := by
  intro q hq
  obtain rfl : (RX3, TX3, 6) = q := Option.some.inj hq
  exact ⟨rfl, by decide +kernel⟩
theorem pf_X3_5 : ∀ q ∈ ya_cl[3]?, (q.2.1 5).2.2.2 = false ∧ parseFieldDescriptor (q.2.1 5).2.2.1 = some .int := by
  intro q hq
  obtain rfl : (RX3, TX3, 6) = q := Option.some.inj hq
  exact ⟨rfl, by decide +kernel⟩
theorem pf_X3_3 : ∀ q ∈ ya_cl[3]?, (q.2.1 3).2.2.2 = false ∧ parseFieldDescriptor (q.2.1 3).2.2.1 = some .int := by
  intro q hq
  obtain rfl : (RX3, TX3, 6) = q := Option.some.inj hq
  exact ⟨rfl, by decide +kernel⟩
theorem pf_X4_1 : ∀ q ∈ ya_cl[4]?, (q.2.1 1).2.2.2 = false ∧ parseFieldDescriptor (q.2.1 1).2.2.1 = some .int := by
  intro q hq
  obtain rfl : (RX4, TX4, 3) = q := Option.some.inj hq
  exact ⟨rfl, by decide +kernel⟩
theorem pf_X4_2 : ∀ q ∈ ya_cl[4]?, (q.2.1 2).2.2.2 = false ∧ parseFieldDescriptor (q.2.1 2).2.2.1 = some .int := by
  intro q hq
  obtain rfl : (RX4, TX4, 3) = q := Option.some.inj hq
  exact ⟨rfl, by decide +kernel⟩
theorem pf_X5_6 : ∀ q ∈ ya_cl[5]?, (q.2.1 6).2.2.2 = false ∧ parseFieldDescriptor (q.2.1 6).2.2.1 = some .int := by
  intro q hq
  obtain rfl : (RX5, TX5, 8) = q := Option.some.inj hq
  exact ⟨rfl, by decide +kernel⟩
theorem pf_X5_7 : ∀ q ∈ ya_cl[5]?, (q.2.1 7).2.2.2 = false ∧ parseFieldDescriptor (q.2.1 7).2.2.1 = some .int := by
  intro q hq
  obtain rfl : (RX5, TX5, 8) = q := Option.some.inj hq
  exact ⟨rfl, by decide +kernel⟩
theorem pf_X7_1 : ∀ q ∈ ya_cl[7]?, (q.2.1 1).2.2.2 = false ∧ parseFieldDescriptor (q.2.1 1).2.2.1 = some .int := by
  intro q hq
  obtain rfl : (RX7, TX7, 2) = q := Option.some.inj hq
  exact ⟨rfl, by decide +kernel⟩
theorem pf_X10_15 : ∀ q ∈ ya_cl[10]?, (q.2.1 15).2.2.2 = false ∧ parseFieldDescriptor (q.2.1 15).2.2.1 = some .int := by
  intro q hq
  obtain rfl : (RX10, TX10, 17) = q := Option.some.inj hq
  exact ⟨rfl, by decide +kernel⟩
theorem pf_X10_14 : ∀ q ∈ ya_cl[10]?, (q.2.1 14).2.2.2 = false ∧ parseFieldDescriptor (q.2.1 14).2.2.1 = some .int := by
  intro q hq
  obtain rfl : (RX10, TX10, 17) = q := Option.some.inj hq
  exact ⟨rfl, by decide +kernel⟩
theorem pf_X10_16 : ∀ q ∈ ya_cl[10]?, (q.2.1 16).2.2.2 = false ∧ parseFieldDescriptor (q.2.1 16).2.2.1 = some .long := by
  intro q hq
  obtain rfl : (RX10, TX10, 17) = q := Option.some.inj hq
  exact ⟨rfl, by decide +kernel⟩
theorem pf_X11_9 : ∀ q ∈ ya_cl[11]?, (q.2.1 9).2.2.2 = false ∧ parseFieldDescriptor (q.2.1 9).2.2.1 = some .boolean := by
  intro q hq
  obtain rfl : (RX11, TX11, 10) = q := Option.some.inj hq
  exact ⟨rfl, by decide +kernel⟩
theorem pf_X12_5 : ∀ q ∈ ya_cl[12]?, (q.2.1 5).2.2.2 = false ∧ parseFieldDescriptor (q.2.1 5).2.2.1 = some .int := by
  intro q hq
  obtain rfl : (RX12, TX12, 35) = q := Option.some.inj hq
  exact ⟨rfl, by decide +kernel⟩
theorem pf_X12_8 : ∀ q ∈ ya_cl[12]?, (q.2.1 8).2.2.2 = false ∧ parseFieldDescriptor (q.2.1 8).2.2.1 = some .int := by
  intro q hq
  obtain rfl : (RX12, TX12, 35) = q := Option.some.inj hq
  exact ⟨rfl, by decide +kernel⟩
theorem pf_X12_9 : ∀ q ∈ ya_cl[12]?, (q.2.1 9).2.2.2 = false ∧ parseFieldDescriptor (q.2.1 9).2.2.1 = some .int := by
  intro q hq
  obtain rfl : (RX12, TX12, 35) = q := Option.some.inj hq
  exact ⟨rfl, by decide +kernel⟩
theorem pf_X12_10 : ∀ q ∈ ya_cl[12]?, (q.2.1 10).2.2.2 = false ∧ parseFieldDescriptor (q.2.1 10).2.2.1 = some .int := by
  intro q hq
  obtain rfl : (RX12, TX12, 35) = q := Option.some.inj hq
  exact ⟨rfl, by decide +kernel⟩
theorem pf_X12_11 : ∀ q ∈ ya_cl[12]?, (q.2.1 11).2.2.2 = false ∧ parseFieldDescriptor (q.2.1 11).2.2.1 = some .int := by
  intro q hq
  obtain rfl : (RX12, TX12, 35) = q := Option.some.inj hq
  exact ⟨rfl, by decide +kernel⟩
theorem pf_X12_12 : ∀ q ∈ ya_cl[12]?, (q.2.1 12).2.2.2 = false ∧ parseFieldDescriptor (q.2.1 12).2.2.1 = some .int := by
  intro q hq
  obtain rfl : (RX12, TX12, 35) = q := Option.some.inj hq
  exact ⟨rfl, by decide +kernel⟩
theorem pf_X12_13 : ∀ q ∈ ya_cl[12]?, (q.2.1 13).2.2.2 = false ∧ parseFieldDescriptor (q.2.1 13).2.2.1 = some .int := by
  intro q hq
  obtain rfl : (RX12, TX12, 35) = q := Option.some.inj hq
  exact ⟨rfl, by decide +kernel⟩
theorem pf_X12_7 : ∀ q ∈ ya_cl[12]?, (q.2.1 7).2.2.2 = false ∧ parseFieldDescriptor (q.2.1 7).2.2.1 = some .int := by
  intro q hq
  obtain rfl : (RX12, TX12, 35) = q := Option.some.inj hq
  exact ⟨rfl, by decide +kernel⟩
theorem pf_X12_28 : ∀ q ∈ ya_cl[12]?, (q.2.1 28).2.2.2 = false ∧ parseFieldDescriptor (q.2.1 28).2.2.1 = some .long := by
  intro q hq
  obtain rfl : (RX12, TX12, 35) = q := Option.some.inj hq
  exact ⟨rfl, by decide +kernel⟩
theorem pf_X12_27 : ∀ q ∈ ya_cl[12]?, (q.2.1 27).2.2.2 = false ∧ parseFieldDescriptor (q.2.1 27).2.2.1 = some .int := by
  intro q hq
  obtain rfl : (RX12, TX12, 35) = q := Option.some.inj hq
  exact ⟨rfl, by decide +kernel⟩
theorem bk_X2_1 {G : ya_G} {a : Nat} (h : ya_Bk shX2 lnX2 G a) : ya_Bk shX8 lnX8 G (a + 1) := h.sub 1 (by decide) (by decide +kernel) (by decide)
theorem bk_X2_6 {G : ya_G} {a : Nat} (h : ya_Bk shX2 lnX2 G a) : ya_Bk shX6 lnX6 G (a + 6) := h.sub 6 (by decide) (by decide +kernel) (by decide)
theorem bk_X2_11 {G : ya_G} {a : Nat} (h : ya_Bk shX2 lnX2 G a) : ya_Bk shX1 lnX1 G (a + 11) := h.sub 11 (by decide) (by decide +kernel) (by decide)
theorem bk_0_5 {G : ya_G} (h : ya_Bk ya_sh ya_ln G 0) : ya_Bk shX8 lnX8 G 5 := h.at0 5 (by decide) (by decide +kernel) (by decide)
theorem bk_0_10 {G : ya_G} (h : ya_Bk ya_sh ya_ln G 0) : ya_Bk shX6 lnX6 G 10 := h.at0 10 (by decide) (by decide +kernel) (by decide)
theorem bk_0_15 {G : ya_G} (h : ya_Bk ya_sh ya_ln G 0) : ya_Bk shX1 lnX1 G 15 := h.at0 15 (by decide) (by decide +kernel) (by decide)
theorem bk_0_4 {G : ya_G} (h : ya_Bk ya_sh ya_ln G 0) : ya_Bk shX2 lnX2 G 4 := h.at0 4 (by decide) (by decide +kernel) (by decide)
theorem bk_0_24 {G : ya_G} (h : ya_Bk ya_sh ya_ln G 0) : ya_Bk shX2 lnX2 G 24 := h.at0 24 (by decide) (by decide +kernel) (by decide)
theorem bk_0_42 {G : ya_G} (h : ya_Bk ya_sh ya_ln G 0) : ya_Bk shX10 lnX10 G 42 := h.at0 42 (by decide) (by decide +kernel) (by decide)
theorem bk_0_35 {G : ya_G} (h : ya_Bk ya_sh ya_ln G 0) : ya_Bk shX1 lnX1 G 35 := h.at0 35 (by decide) (by decide +kernel) (by decide)
theorem bk_0_57 {G : ya_G} (h : ya_Bk ya_sh ya_ln G 0) : ya_Bk shX10 lnX10 G 57 := h.at0 57 (by decide) (by decide +kernel) (by decide)
theorem bk_0_25 {G : ya_G} (h : ya_Bk ya_sh ya_ln G 0) : ya_Bk shX8 lnX8 G 25 := h.at0 25 (by decide) (by decide +kernel) (by decide)
theorem m_X11_cell : ya_mS yX11_cell Y_X11_cell 2 := ⟨⟨⟨by decide +kernel, by decide +kernel, by decide +kernel⟩, (ya_in 103 (by decide +kernel) (by decide +kernel)), (ya_in 724 (by decide +kernel) (by decide +kernel))⟩, (ya_in 723 (by decide +kernel) (by decide +kernel))⟩
theorem m_X0_plan : ya_mV yX0_plan Y_X0_plan 2 := ⟨⟨⟨by decide +kernel, by decide +kernel, by decide +kernel⟩, (ya_in 113 (by decide +kernel) (by decide +kernel)), (ya_in 1052 (by decide +kernel) (by decide +kernel))⟩, (ya_in 1050 (by decide +kernel) (by decide +kernel)), (ya_in 1051 (by decide +kernel) (by decide +kernel))⟩
theorem m_X1_add : ya_mV yX1_add Y_X1_add 1 := ⟨⟨⟨by decide +kernel, by decide +kernel, by decide +kernel⟩, (ya_in 109 (by decide +kernel) (by decide +kernel)), (ya_in 734 (by decide +kernel) (by decide +kernel))⟩, (ya_in 732 (by decide +kernel) (by decide +kernel)), (ya_in 733 (by decide +kernel) (by decide +kernel))⟩
theorem m_X1_comes : ya_mV yX1_comes Y_X1_comes 4 := ⟨⟨⟨by decide +kernel, by decide +kernel, by decide +kernel⟩, (ya_in 109 (by decide +kernel) (by decide +kernel)), (ya_in 825 (by decide +kernel) (by decide +kernel))⟩, (ya_in 823 (by decide +kernel) (by decide +kernel)), (ya_in 824 (by decide +kernel) (by decide +kernel))⟩
theorem m_X1_wanted : ya_mV yX1_wanted Y_X1_wanted 3 := ⟨⟨⟨by decide +kernel, by decide +kernel, by decide +kernel⟩, (ya_in 109 (by decide +kernel) (by decide +kernel)), (ya_in 821 (by decide +kernel) (by decide +kernel))⟩, (ya_in 819 (by decide +kernel) (by decide +kernel)), (ya_in 820 (by decide +kernel) (by decide +kernel))⟩
theorem m_X1_countComing : ya_mV yX1_countComing Y_X1_countComing 3 := ⟨⟨⟨by decide +kernel, by decide +kernel, by decide +kernel⟩, (ya_in 109 (by decide +kernel) (by decide +kernel)), (ya_in 946 (by decide +kernel) (by decide +kernel))⟩, (ya_in 944 (by decide +kernel) (by decide +kernel)), (ya_in 945 (by decide +kernel) (by decide +kernel))⟩
theorem m_X1_allCome : ya_mV yX1_allCome Y_X1_allCome 4 := ⟨⟨⟨by decide +kernel, by decide +kernel, by decide +kernel⟩, (ya_in 109 (by decide +kernel) (by decide +kernel)), (ya_in 950 (by decide +kernel) (by decide +kernel))⟩, (ya_in 948 (by decide +kernel) (by decide +kernel)), (ya_in 949 (by decide +kernel) (by decide +kernel))⟩
theorem m_X1_wantsOf : ya_mV yX1_wantsOf Y_X1_wantsOf 1 := ⟨⟨⟨by decide +kernel, by decide +kernel, by decide +kernel⟩, (ya_in 109 (by decide +kernel) (by decide +kernel)), (ya_in 960 (by decide +kernel) (by decide +kernel))⟩, (ya_in 958 (by decide +kernel) (by decide +kernel)), (ya_in 959 (by decide +kernel) (by decide +kernel))⟩
theorem m_X1_wantsInAll : ya_mV yX1_wantsInAll Y_X1_wantsInAll 1 := ⟨⟨⟨by decide +kernel, by decide +kernel, by decide +kernel⟩, (ya_in 109 (by decide +kernel) (by decide +kernel)), (ya_in 899 (by decide +kernel) (by decide +kernel))⟩, (ya_in 897 (by decide +kernel) (by decide +kernel)), (ya_in 898 (by decide +kernel) (by decide +kernel))⟩
theorem m_X1_take : ya_mV yX1_take Y_X1_take 1 := ⟨⟨⟨by decide +kernel, by decide +kernel, by decide +kernel⟩, (ya_in 109 (by decide +kernel) (by decide +kernel)), (ya_in 754 (by decide +kernel) (by decide +kernel))⟩, (ya_in 752 (by decide +kernel) (by decide +kernel)), (ya_in 753 (by decide +kernel) (by decide +kernel))⟩
theorem m_X2_empty : ya_mV yX2_empty Y_X2_empty 0 := ⟨⟨⟨by decide +kernel, by decide +kernel, by decide +kernel⟩, (ya_in 106 (by decide +kernel) (by decide +kernel)), (ya_in 534 (by decide +kernel) (by decide +kernel))⟩, (ya_in 532 (by decide +kernel) (by decide +kernel)), (ya_in 533 (by decide +kernel) (by decide +kernel))⟩
theorem m_X8_take : ya_mV yX8_take Y_X8_take 1 := ⟨⟨⟨by decide +kernel, by decide +kernel, by decide +kernel⟩, (ya_in 107 (by decide +kernel) (by decide +kernel)), (ya_in 742 (by decide +kernel) (by decide +kernel))⟩, (ya_in 740 (by decide +kernel) (by decide +kernel)), (ya_in 741 (by decide +kernel) (by decide +kernel))⟩
theorem m_X6_take : ya_mV yX6_take Y_X6_take 1 := ⟨⟨⟨by decide +kernel, by decide +kernel, by decide +kernel⟩, (ya_in 108 (by decide +kernel) (by decide +kernel)), (ya_in 749 (by decide +kernel) (by decide +kernel))⟩, (ya_in 747 (by decide +kernel) (by decide +kernel)), (ya_in 748 (by decide +kernel) (by decide +kernel))⟩
theorem m_X2_take : ya_mV yX2_take Y_X2_take 1 := ⟨⟨⟨by decide +kernel, by decide +kernel, by decide +kernel⟩, (ya_in 106 (by decide +kernel) (by decide +kernel)), (ya_in 738 (by decide +kernel) (by decide +kernel))⟩, (ya_in 736 (by decide +kernel) (by decide +kernel)), (ya_in 737 (by decide +kernel) (by decide +kernel))⟩
theorem m_X3_formOf : ya_mS yX3_formOf Y_X3_formOf 1 := ⟨⟨⟨by decide +kernel, by decide +kernel, by decide +kernel⟩, (ya_in 105 (by decide +kernel) (by decide +kernel)), (ya_in 566 (by decide +kernel) (by decide +kernel))⟩, (ya_in 565 (by decide +kernel) (by decide +kernel))⟩
theorem m_X9_begin : ya_mV yX9_begin Y_X9_begin 0 := ⟨⟨⟨by decide +kernel, by decide +kernel, by decide +kernel⟩, (ya_in 110 (by decide +kernel) (by decide +kernel)), (ya_in 538 (by decide +kernel) (by decide +kernel))⟩, (ya_in 536 (by decide +kernel) (by decide +kernel)), (ya_in 537 (by decide +kernel) (by decide +kernel))⟩
theorem m_X9_isBlank : ya_mS yX9_isBlank Y_X9_isBlank 1 := ⟨⟨⟨by decide +kernel, by decide +kernel, by decide +kernel⟩, (ya_in 110 (by decide +kernel) (by decide +kernel)), (ya_in 545 (by decide +kernel) (by decide +kernel))⟩, (ya_in 544 (by decide +kernel) (by decide +kernel))⟩
theorem m_X9_isLetter : ya_mS yX9_isLetter Y_X9_isLetter 1 := ⟨⟨⟨by decide +kernel, by decide +kernel, by decide +kernel⟩, (ya_in 110 (by decide +kernel) (by decide +kernel)), (ya_in 548 (by decide +kernel) (by decide +kernel))⟩, (ya_in 547 (by decide +kernel) (by decide +kernel))⟩
theorem m_X9_isDigit : ya_mS yX9_isDigit Y_X9_isDigit 1 := ⟨⟨⟨by decide +kernel, by decide +kernel, by decide +kernel⟩, (ya_in 110 (by decide +kernel) (by decide +kernel)), (ya_in 551 (by decide +kernel) (by decide +kernel))⟩, (ya_in 550 (by decide +kernel) (by decide +kernel))⟩
theorem m_X9_next : ya_mV yX9_next Y_X9_next 1 := ⟨⟨⟨by decide +kernel, by decide +kernel, by decide +kernel⟩, (ya_in 110 (by decide +kernel) (by decide +kernel)), (ya_in 542 (by decide +kernel) (by decide +kernel))⟩, (ya_in 540 (by decide +kernel) (by decide +kernel)), (ya_in 541 (by decide +kernel) (by decide +kernel))⟩
theorem m_X9_isAs : ya_mV yX9_isAs Y_X9_isAs 4 := ⟨⟨⟨by decide +kernel, by decide +kernel, by decide +kernel⟩, (ya_in 110 (by decide +kernel) (by decide +kernel)), (ya_in 662 (by decide +kernel) (by decide +kernel))⟩, (ya_in 660 (by decide +kernel) (by decide +kernel)), (ya_in 661 (by decide +kernel) (by decide +kernel))⟩
theorem m_X3_kindHere : ya_mV yX3_kindHere Y_X3_kindHere 1 := ⟨⟨⟨by decide +kernel, by decide +kernel, by decide +kernel⟩, (ya_in 105 (by decide +kernel) (by decide +kernel)), (ya_in 563 (by decide +kernel) (by decide +kernel))⟩, (ya_in 562 (by decide +kernel) (by decide +kernel)), (ya_in 1 (by decide +kernel) (by decide +kernel))⟩
theorem m_X3_refuse : ya_mV yX3_refuse Y_X3_refuse 1 := ⟨⟨⟨by decide +kernel, by decide +kernel, by decide +kernel⟩, (ya_in 105 (by decide +kernel) (by decide +kernel)), (ya_in 687 (by decide +kernel) (by decide +kernel))⟩, (ya_in 686 (by decide +kernel) (by decide +kernel)), (ya_in 2 (by decide +kernel) (by decide +kernel))⟩
theorem m_X3_isFull : ya_mV yX3_isFull Y_X3_isFull 1 := ⟨⟨⟨by decide +kernel, by decide +kernel, by decide +kernel⟩, (ya_in 105 (by decide +kernel) (by decide +kernel)), (ya_in 691 (by decide +kernel) (by decide +kernel))⟩, (ya_in 690 (by decide +kernel) (by decide +kernel)), (ya_in 3 (by decide +kernel) (by decide +kernel))⟩
theorem m_X3_lowestOf : ya_mV yX3_lowestOf Y_X3_lowestOf 1 := ⟨⟨⟨by decide +kernel, by decide +kernel, by decide +kernel⟩, (ya_in 105 (by decide +kernel) (by decide +kernel)), (ya_in 709 (by decide +kernel) (by decide +kernel))⟩, (ya_in 708 (by decide +kernel) (by decide +kernel)), (ya_in 7 (by decide +kernel) (by decide +kernel))⟩
theorem m_X3_highestOf : ya_mV yX3_highestOf Y_X3_highestOf 1 := ⟨⟨⟨by decide +kernel, by decide +kernel, by decide +kernel⟩, (ya_in 105 (by decide +kernel) (by decide +kernel)), (ya_in 713 (by decide +kernel) (by decide +kernel))⟩, (ya_in 712 (by decide +kernel) (by decide +kernel)), (ya_in 8 (by decide +kernel) (by decide +kernel))⟩
theorem m_X3_readNumber : ya_mV yX3_readNumber Y_X3_readNumber 1 := ⟨⟨⟨by decide +kernel, by decide +kernel, by decide +kernel⟩, (ya_in 105 (by decide +kernel) (by decide +kernel)), (ya_in 705 (by decide +kernel) (by decide +kernel))⟩, (ya_in 704 (by decide +kernel) (by decide +kernel)), (ya_in 6 (by decide +kernel) (by decide +kernel))⟩
theorem m_X3_readPart : ya_mV yX3_readPart Y_X3_readPart 4 := ⟨⟨⟨by decide +kernel, by decide +kernel, by decide +kernel⟩, (ya_in 105 (by decide +kernel) (by decide +kernel)), (ya_in 701 (by decide +kernel) (by decide +kernel))⟩, (ya_in 700 (by decide +kernel) (by decide +kernel)), (ya_in 5 (by decide +kernel) (by decide +kernel))⟩
theorem m_X3_readForm : ya_mV yX3_readForm Y_X3_readForm 2 := ⟨⟨⟨by decide +kernel, by decide +kernel, by decide +kernel⟩, (ya_in 105 (by decide +kernel) (by decide +kernel)), (ya_in 695 (by decide +kernel) (by decide +kernel))⟩, (ya_in 694 (by decide +kernel) (by decide +kernel)), (ya_in 4 (by decide +kernel) (by decide +kernel))⟩
theorem m_X8_add : ya_mV yX8_add Y_X8_add 2 := ⟨⟨⟨by decide +kernel, by decide +kernel, by decide +kernel⟩, (ya_in 107 (by decide +kernel) (by decide +kernel)), (ya_in 721 (by decide +kernel) (by decide +kernel))⟩, (ya_in 719 (by decide +kernel) (by decide +kernel)), (ya_in 720 (by decide +kernel) (by decide +kernel))⟩
theorem m_X6_add : ya_mV yX6_add Y_X6_add 3 := ⟨⟨⟨by decide +kernel, by decide +kernel, by decide +kernel⟩, (ya_in 108 (by decide +kernel) (by decide +kernel)), (ya_in 729 (by decide +kernel) (by decide +kernel))⟩, (ya_in 727 (by decide +kernel) (by decide +kernel)), (ya_in 728 (by decide +kernel) (by decide +kernel))⟩
theorem m_X3_obey : ya_mV yX3_obey Y_X3_obey 1 := ⟨⟨⟨by decide +kernel, by decide +kernel, by decide +kernel⟩, (ya_in 105 (by decide +kernel) (by decide +kernel)), (ya_in 717 (by decide +kernel) (by decide +kernel))⟩, (ya_in 716 (by decide +kernel) (by decide +kernel)), (ya_in 9 (by decide +kernel) (by decide +kernel))⟩
theorem m_X3_readLine : ya_mV yX3_readLine Y_X3_readLine 1 := ⟨⟨⟨by decide +kernel, by decide +kernel, by decide +kernel⟩, (ya_in 105 (by decide +kernel) (by decide +kernel)), (ya_in 559 (by decide +kernel) (by decide +kernel))⟩, (ya_in 558 (by decide +kernel) (by decide +kernel)), (ya_in 0 (by decide +kernel) (by decide +kernel))⟩
theorem m_X3_readAll : ya_mV yX3_readAll Y_X3_readAll 1 := ⟨⟨⟨by decide +kernel, by decide +kernel, by decide +kernel⟩, (ya_in 105 (by decide +kernel) (by decide +kernel)), (ya_in 530 (by decide +kernel) (by decide +kernel))⟩, (ya_in 528 (by decide +kernel) (by decide +kernel)), (ya_in 529 (by decide +kernel) (by decide +kernel))⟩
theorem m_X4_begin : ya_mV yX4_begin Y_X4_begin 2 := ⟨⟨⟨by decide +kernel, by decide +kernel, by decide +kernel⟩, (ya_in 124 (by decide +kernel) (by decide +kernel)), (ya_in 1224 (by decide +kernel) (by decide +kernel))⟩, (ya_in 1222 (by decide +kernel) (by decide +kernel)), (ya_in 1223 (by decide +kernel) (by decide +kernel))⟩
theorem m_X4_put : ya_mV yX4_put Y_X4_put 2 := ⟨⟨⟨by decide +kernel, by decide +kernel, by decide +kernel⟩, (ya_in 124 (by decide +kernel) (by decide +kernel)), (ya_in 1235 (by decide +kernel) (by decide +kernel))⟩, (ya_in 1233 (by decide +kernel) (by decide +kernel)), (ya_in 1234 (by decide +kernel) (by decide +kernel))⟩
theorem m_X4_reaches : ya_mV yX4_reaches Y_X4_reaches 2 := ⟨⟨⟨by decide +kernel, by decide +kernel, by decide +kernel⟩, (ya_in 124 (by decide +kernel) (by decide +kernel)), (ya_in 1243 (by decide +kernel) (by decide +kernel))⟩, (ya_in 1241 (by decide +kernel) (by decide +kernel)), (ya_in 1242 (by decide +kernel) (by decide +kernel))⟩
theorem m_X6_coming : ya_mV yX6_coming Y_X6_coming 2 := ⟨⟨⟨by decide +kernel, by decide +kernel, by decide +kernel⟩, (ya_in 108 (by decide +kernel) (by decide +kernel)), (ya_in 809 (by decide +kernel) (by decide +kernel))⟩, (ya_in 807 (by decide +kernel) (by decide +kernel)), (ya_in 808 (by decide +kernel) (by decide +kernel))⟩
theorem m_X5_load : ya_mV yX5_load Y_X5_load 2 := ⟨⟨⟨by decide +kernel, by decide +kernel, by decide +kernel⟩, (ya_in 112 (by decide +kernel) (by decide +kernel)), (ya_in 1003 (by decide +kernel) (by decide +kernel))⟩, (ya_in 1001 (by decide +kernel) (by decide +kernel)), (ya_in 1002 (by decide +kernel) (by decide +kernel))⟩
theorem m_X5_orderDays : ya_mV yX5_orderDays Y_X5_orderDays 0 := ⟨⟨⟨by decide +kernel, by decide +kernel, by decide +kernel⟩, (ya_in 112 (by decide +kernel) (by decide +kernel)), (ya_in 1015 (by decide +kernel) (by decide +kernel))⟩, (ya_in 1014 (by decide +kernel) (by decide +kernel)), (ya_in 30 (by decide +kernel) (by decide +kernel))⟩
theorem m_X5_missing : ya_mV yX5_missing Y_X5_missing 0 := ⟨⟨⟨by decide +kernel, by decide +kernel, by decide +kernel⟩, (ya_in 112 (by decide +kernel) (by decide +kernel)), (ya_in 1019 (by decide +kernel) (by decide +kernel))⟩, (ya_in 1018 (by decide +kernel) (by decide +kernel)), (ya_in 31 (by decide +kernel) (by decide +kernel))⟩
theorem m_X5_bring : ya_mV yX5_bring Y_X5_bring 0 := ⟨⟨⟨by decide +kernel, by decide +kernel, by decide +kernel⟩, (ya_in 112 (by decide +kernel) (by decide +kernel)), (ya_in 1010 (by decide +kernel) (by decide +kernel))⟩, (ya_in 1008 (by decide +kernel) (by decide +kernel)), (ya_in 1009 (by decide +kernel) (by decide +kernel))⟩
theorem m_X5_bringWithout : ya_mV yX5_bringWithout Y_X5_bringWithout 1 := ⟨⟨⟨by decide +kernel, by decide +kernel, by decide +kernel⟩, (ya_in 112 (by decide +kernel) (by decide +kernel)), (ya_in 1030 (by decide +kernel) (by decide +kernel))⟩, (ya_in 1028 (by decide +kernel) (by decide +kernel)), (ya_in 1029 (by decide +kernel) (by decide +kernel))⟩
theorem m_X5_bringAt : ya_mV yX5_bringAt Y_X5_bringAt 3 := ⟨⟨⟨by decide +kernel, by decide +kernel, by decide +kernel⟩, (ya_in 112 (by decide +kernel) (by decide +kernel)), (ya_in 1097 (by decide +kernel) (by decide +kernel))⟩, (ya_in 1095 (by decide +kernel) (by decide +kernel)), (ya_in 1096 (by decide +kernel) (by decide +kernel))⟩
theorem m_X7_addFour : ya_mV yX7_addFour Y_X7_addFour 1 := ⟨⟨⟨by decide +kernel, by decide +kernel, by decide +kernel⟩, (ya_in 104 (by decide +kernel) (by decide +kernel)), (ya_in 518 (by decide +kernel) (by decide +kernel))⟩, (ya_in 516 (by decide +kernel) (by decide +kernel)), (ya_in 517 (by decide +kernel) (by decide +kernel))⟩
theorem m_X8_turnYear : ya_mV yX8_turnYear Y_X8_turnYear 0 := ⟨⟨⟨by decide +kernel, by decide +kernel, by decide +kernel⟩, (ya_in 107 (by decide +kernel) (by decide +kernel)), (ya_in 1080 (by decide +kernel) (by decide +kernel))⟩, (ya_in 1078 (by decide +kernel) (by decide +kernel)), (ya_in 1079 (by decide +kernel) (by decide +kernel))⟩
theorem m_X10_forget : ya_mV yX10_forget Y_X10_forget 0 := ⟨⟨⟨by decide +kernel, by decide +kernel, by decide +kernel⟩, (ya_in 111 (by decide +kernel) (by decide +kernel)), (ya_in 797 (by decide +kernel) (by decide +kernel))⟩, (ya_in 796 (by decide +kernel) (by decide +kernel)), (ya_in 14 (by decide +kernel) (by decide +kernel))⟩
theorem m_X10_begin : ya_mV yX10_begin Y_X10_begin 3 := ⟨⟨⟨by decide +kernel, by decide +kernel, by decide +kernel⟩, (ya_in 111 (by decide +kernel) (by decide +kernel)), (ya_in 804 (by decide +kernel) (by decide +kernel))⟩, (ya_in 803 (by decide +kernel) (by decide +kernel)), (ya_in 15 (by decide +kernel) (by decide +kernel))⟩
theorem m_X10_supplyAt : ya_mV yX10_supplyAt Y_X10_supplyAt 3 := ⟨⟨⟨by decide +kernel, by decide +kernel, by decide +kernel⟩, (ya_in 111 (by decide +kernel) (by decide +kernel)), (ya_in 817 (by decide +kernel) (by decide +kernel))⟩, (ya_in 816 (by decide +kernel) (by decide +kernel)), (ya_in 17 (by decide +kernel) (by decide +kernel))⟩
theorem m_X10_gather : ya_mV yX10_gather Y_X10_gather 4 := ⟨⟨⟨by decide +kernel, by decide +kernel, by decide +kernel⟩, (ya_in 111 (by decide +kernel) (by decide +kernel)), (ya_in 830 (by decide +kernel) (by decide +kernel))⟩, (ya_in 829 (by decide +kernel) (by decide +kernel)), (ya_in 18 (by decide +kernel) (by decide +kernel))⟩
theorem m_X10_draw : ya_mV yX10_draw Y_X10_draw 1 := ⟨⟨⟨by decide +kernel, by decide +kernel, by decide +kernel⟩, (ya_in 111 (by decide +kernel) (by decide +kernel)), (ya_in 839 (by decide +kernel) (by decide +kernel))⟩, (ya_in 838 (by decide +kernel) (by decide +kernel)), (ya_in 20 (by decide +kernel) (by decide +kernel))⟩
theorem m_X10_mix : ya_mV yX10_mix Y_X10_mix 0 := ⟨⟨⟨by decide +kernel, by decide +kernel, by decide +kernel⟩, (ya_in 111 (by decide +kernel) (by decide +kernel)), (ya_in 835 (by decide +kernel) (by decide +kernel))⟩, (ya_in 834 (by decide +kernel) (by decide +kernel)), (ya_in 19 (by decide +kernel) (by decide +kernel))⟩
theorem m_X10_handOut : ya_mV yX10_handOut Y_X10_handOut 3 := ⟨⟨⟨by decide +kernel, by decide +kernel, by decide +kernel⟩, (ya_in 111 (by decide +kernel) (by decide +kernel)), (ya_in 847 (by decide +kernel) (by decide +kernel))⟩, (ya_in 846 (by decide +kernel) (by decide +kernel)), (ya_in 21 (by decide +kernel) (by decide +kernel))⟩
theorem m_X10_takeOldest : ya_mV yX10_takeOldest Y_X10_takeOldest 3 := ⟨⟨⟨by decide +kernel, by decide +kernel, by decide +kernel⟩, (ya_in 111 (by decide +kernel) (by decide +kernel)), (ya_in 855 (by decide +kernel) (by decide +kernel))⟩, (ya_in 854 (by decide +kernel) (by decide +kernel)), (ya_in 23 (by decide +kernel) (by decide +kernel))⟩
theorem m_X10_sell : ya_mV yX10_sell Y_X10_sell 5 := ⟨⟨⟨by decide +kernel, by decide +kernel, by decide +kernel⟩, (ya_in 111 (by decide +kernel) (by decide +kernel)), (ya_in 851 (by decide +kernel) (by decide +kernel))⟩, (ya_in 850 (by decide +kernel) (by decide +kernel)), (ya_in 22 (by decide +kernel) (by decide +kernel))⟩
theorem m_X10_trade : ya_mV yX10_trade Y_X10_trade 3 := ⟨⟨⟨by decide +kernel, by decide +kernel, by decide +kernel⟩, (ya_in 111 (by decide +kernel) (by decide +kernel)), (ya_in 813 (by decide +kernel) (by decide +kernel))⟩, (ya_in 812 (by decide +kernel) (by decide +kernel)), (ya_in 16 (by decide +kernel) (by decide +kernel))⟩
theorem m_X10_run : ya_mV yX10_run Y_X10_run 2 := ⟨⟨⟨by decide +kernel, by decide +kernel, by decide +kernel⟩, (ya_in 111 (by decide +kernel) (by decide +kernel)), (ya_in 793 (by decide +kernel) (by decide +kernel))⟩, (ya_in 791 (by decide +kernel) (by decide +kernel)), (ya_in 792 (by decide +kernel) (by decide +kernel))⟩
theorem m_X10_takings : ya_mV yX10_takings Y_X10_takings 2 := ⟨⟨⟨by decide +kernel, by decide +kernel, by decide +kernel⟩, (ya_in 111 (by decide +kernel) (by decide +kernel)), (ya_in 879 (by decide +kernel) (by decide +kernel))⟩, (ya_in 877 (by decide +kernel) (by decide +kernel)), (ya_in 878 (by decide +kernel) (by decide +kernel))⟩
theorem m_X10_richestDay : ya_mV yX10_richestDay Y_X10_richestDay 1 := ⟨⟨⟨by decide +kernel, by decide +kernel, by decide +kernel⟩, (ya_in 111 (by decide +kernel) (by decide +kernel)), (ya_in 875 (by decide +kernel) (by decide +kernel))⟩, (ya_in 873 (by decide +kernel) (by decide +kernel)), (ya_in 874 (by decide +kernel) (by decide +kernel))⟩
theorem m_X10_daysWithoutSale : ya_mV yX10_daysWithoutSale Y_X10_daysWithoutSale 1 := ⟨⟨⟨by decide +kernel, by decide +kernel, by decide +kernel⟩, (ya_in 111 (by decide +kernel) (by decide +kernel)), (ya_in 911 (by decide +kernel) (by decide +kernel))⟩, (ya_in 909 (by decide +kernel) (by decide +kernel)), (ya_in 910 (by decide +kernel) (by decide +kernel))⟩
theorem m_X11_feed : ya_mV yX11_feed Y_X11_feed 5 := ⟨⟨⟨by decide +kernel, by decide +kernel, by decide +kernel⟩, (ya_in 103 (by decide +kernel) (by decide +kernel)), (ya_in 514 (by decide +kernel) (by decide +kernel))⟩, (ya_in 512 (by decide +kernel) (by decide +kernel)), (ya_in 513 (by decide +kernel) (by decide +kernel))⟩
theorem m_X11_end : ya_mV yX11_end Y_X11_end 1 := ⟨⟨⟨by decide +kernel, by decide +kernel, by decide +kernel⟩, (ya_in 103 (by decide +kernel) (by decide +kernel)), (ya_in 522 (by decide +kernel) (by decide +kernel))⟩, (ya_in 520 (by decide +kernel) (by decide +kernel)), (ya_in 521 (by decide +kernel) (by decide +kernel))⟩
theorem m_X11_market : ya_mV yX11_market Y_X11_market 0 := ⟨⟨⟨by decide +kernel, by decide +kernel, by decide +kernel⟩, (ya_in 103 (by decide +kernel) (by decide +kernel)), (ya_in 526 (by decide +kernel) (by decide +kernel))⟩, (ya_in 524 (by decide +kernel) (by decide +kernel)), (ya_in 525 (by decide +kernel) (by decide +kernel))⟩
theorem m_X11_fault : ya_mV yX11_fault Y_X11_fault 1 := ⟨⟨⟨by decide +kernel, by decide +kernel, by decide +kernel⟩, (ya_in 103 (by decide +kernel) (by decide +kernel)), (ya_in 760 (by decide +kernel) (by decide +kernel))⟩, (ya_in 758 (by decide +kernel) (by decide +kernel)), (ya_in 759 (by decide +kernel) (by decide +kernel))⟩
theorem m_X11_isThing : ya_mV yX11_isThing Y_X11_isThing 1 := ⟨⟨⟨by decide +kernel, by decide +kernel, by decide +kernel⟩, (ya_in 103 (by decide +kernel) (by decide +kernel)), (ya_in 772 (by decide +kernel) (by decide +kernel))⟩, (ya_in 771 (by decide +kernel) (by decide +kernel)), (ya_in 11 (by decide +kernel) (by decide +kernel))⟩
theorem m_X11_isDay : ya_mV yX11_isDay Y_X11_isDay 1 := ⟨⟨⟨by decide +kernel, by decide +kernel, by decide +kernel⟩, (ya_in 103 (by decide +kernel) (by decide +kernel)), (ya_in 776 (by decide +kernel) (by decide +kernel))⟩, (ya_in 775 (by decide +kernel) (by decide +kernel)), (ya_in 12 (by decide +kernel) (by decide +kernel))⟩
theorem m_X11_isThingDay : ya_mV yX11_isThingDay Y_X11_isThingDay 2 := ⟨⟨⟨by decide +kernel, by decide +kernel, by decide +kernel⟩, (ya_in 103 (by decide +kernel) (by decide +kernel)), (ya_in 768 (by decide +kernel) (by decide +kernel))⟩, (ya_in 767 (by decide +kernel) (by decide +kernel)), (ya_in 10 (by decide +kernel) (by decide +kernel))⟩
theorem m_X11_price : ya_mV yX11_price Y_X11_price 2 := ⟨⟨⟨by decide +kernel, by decide +kernel, by decide +kernel⟩, (ya_in 103 (by decide +kernel) (by decide +kernel)), (ya_in 764 (by decide +kernel) (by decide +kernel))⟩, (ya_in 762 (by decide +kernel) (by decide +kernel)), (ya_in 763 (by decide +kernel) (by decide +kernel))⟩
theorem m_X11_old : ya_mV yX11_old Y_X11_old 2 := ⟨⟨⟨by decide +kernel, by decide +kernel, by decide +kernel⟩, (ya_in 103 (by decide +kernel) (by decide +kernel)), (ya_in 781 (by decide +kernel) (by decide +kernel))⟩, (ya_in 779 (by decide +kernel) (by decide +kernel)), (ya_in 780 (by decide +kernel) (by decide +kernel))⟩
theorem m_X11_thisYear : ya_mV yX11_thisYear Y_X11_thisYear 0 := ⟨⟨⟨by decide +kernel, by decide +kernel, by decide +kernel⟩, (ya_in 103 (by decide +kernel) (by decide +kernel)), (ya_in 789 (by decide +kernel) (by decide +kernel))⟩, (ya_in 788 (by decide +kernel) (by decide +kernel)), (ya_in 13 (by decide +kernel) (by decide +kernel))⟩
theorem m_X11_offered : ya_mV yX11_offered Y_X11_offered 2 := ⟨⟨⟨by decide +kernel, by decide +kernel, by decide +kernel⟩, (ya_in 103 (by decide +kernel) (by decide +kernel)), (ya_in 785 (by decide +kernel) (by decide +kernel))⟩, (ya_in 783 (by decide +kernel) (by decide +kernel)), (ya_in 784 (by decide +kernel) (by decide +kernel))⟩
theorem m_X11_asked : ya_mV yX11_asked Y_X11_asked 2 := ⟨⟨⟨by decide +kernel, by decide +kernel, by decide +kernel⟩, (ya_in 103 (by decide +kernel) (by decide +kernel)), (ya_in 859 (by decide +kernel) (by decide +kernel))⟩, (ya_in 857 (by decide +kernel) (by decide +kernel)), (ya_in 858 (by decide +kernel) (by decide +kernel))⟩
theorem m_X11_sold : ya_mV yX11_sold Y_X11_sold 2 := ⟨⟨⟨by decide +kernel, by decide +kernel, by decide +kernel⟩, (ya_in 103 (by decide +kernel) (by decide +kernel)), (ya_in 863 (by decide +kernel) (by decide +kernel))⟩, (ya_in 861 (by decide +kernel) (by decide +kernel)), (ya_in 862 (by decide +kernel) (by decide +kernel))⟩
theorem m_X11_isSeller : ya_mV yX11_isSeller Y_X11_isSeller 1 := ⟨⟨⟨by decide +kernel, by decide +kernel, by decide +kernel⟩, (ya_in 103 (by decide +kernel) (by decide +kernel)), (ya_in 871 (by decide +kernel) (by decide +kernel))⟩, (ya_in 870 (by decide +kernel) (by decide +kernel)), (ya_in 24 (by decide +kernel) (by decide +kernel))⟩
theorem m_X11_seller : ya_mV yX11_seller Y_X11_seller 2 := ⟨⟨⟨by decide +kernel, by decide +kernel, by decide +kernel⟩, (ya_in 103 (by decide +kernel) (by decide +kernel)), (ya_in 867 (by decide +kernel) (by decide +kernel))⟩, (ya_in 865 (by decide +kernel) (by decide +kernel)), (ya_in 866 (by decide +kernel) (by decide +kernel))⟩
theorem m_X11_gets : ya_mV yX11_gets Y_X11_gets 2 := ⟨⟨⟨by decide +kernel, by decide +kernel, by decide +kernel⟩, (ya_in 103 (by decide +kernel) (by decide +kernel)), (ya_in 883 (by decide +kernel) (by decide +kernel))⟩, (ya_in 881 (by decide +kernel) (by decide +kernel)), (ya_in 882 (by decide +kernel) (by decide +kernel))⟩
theorem m_X11_stock : ya_mV yX11_stock Y_X11_stock 2 := ⟨⟨⟨by decide +kernel, by decide +kernel, by decide +kernel⟩, (ya_in 103 (by decide +kernel) (by decide +kernel)), (ya_in 887 (by decide +kernel) (by decide +kernel))⟩, (ya_in 885 (by decide +kernel) (by decide +kernel)), (ya_in 886 (by decide +kernel) (by decide +kernel))⟩
theorem m_X11_isBuyer : ya_mV yX11_isBuyer Y_X11_isBuyer 1 := ⟨⟨⟨by decide +kernel, by decide +kernel, by decide +kernel⟩, (ya_in 103 (by decide +kernel) (by decide +kernel)), (ya_in 895 (by decide +kernel) (by decide +kernel))⟩, (ya_in 894 (by decide +kernel) (by decide +kernel)), (ya_in 25 (by decide +kernel) (by decide +kernel))⟩
theorem m_X11_buyer : ya_mV yX11_buyer Y_X11_buyer 2 := ⟨⟨⟨by decide +kernel, by decide +kernel, by decide +kernel⟩, (ya_in 103 (by decide +kernel) (by decide +kernel)), (ya_in 891 (by decide +kernel) (by decide +kernel))⟩, (ya_in 889 (by decide +kernel) (by decide +kernel)), (ya_in 890 (by decide +kernel) (by decide +kernel))⟩
theorem m_X11_isMarket : ya_mV yX11_isMarket Y_X11_isMarket 0 := ⟨⟨⟨by decide +kernel, by decide +kernel, by decide +kernel⟩, (ya_in 103 (by decide +kernel) (by decide +kernel)), (ya_in 907 (by decide +kernel) (by decide +kernel))⟩, (ya_in 906 (by decide +kernel) (by decide +kernel)), (ya_in 26 (by decide +kernel) (by decide +kernel))⟩
theorem m_X11_rich : ya_mV yX11_rich Y_X11_rich 1 := ⟨⟨⟨by decide +kernel, by decide +kernel, by decide +kernel⟩, (ya_in 103 (by decide +kernel) (by decide +kernel)), (ya_in 903 (by decide +kernel) (by decide +kernel))⟩, (ya_in 901 (by decide +kernel) (by decide +kernel)), (ya_in 902 (by decide +kernel) (by decide +kernel))⟩
theorem m_X11_queue : ya_mV yX11_queue Y_X11_queue 2 := ⟨⟨⟨by decide +kernel, by decide +kernel, by decide +kernel⟩, (ya_in 103 (by decide +kernel) (by decide +kernel)), (ya_in 916 (by decide +kernel) (by decide +kernel))⟩, (ya_in 914 (by decide +kernel) (by decide +kernel)), (ya_in 915 (by decide +kernel) (by decide +kernel))⟩
theorem m_X11_spoils : ya_mV yX11_spoils Y_X11_spoils 2 := ⟨⟨⟨by decide +kernel, by decide +kernel, by decide +kernel⟩, (ya_in 103 (by decide +kernel) (by decide +kernel)), (ya_in 921 (by decide +kernel) (by decide +kernel))⟩, (ya_in 919 (by decide +kernel) (by decide +kernel)), (ya_in 920 (by decide +kernel) (by decide +kernel))⟩
theorem m_X11_clears : ya_mV yX11_clears Y_X11_clears 2 := ⟨⟨⟨by decide +kernel, by decide +kernel, by decide +kernel⟩, (ya_in 103 (by decide +kernel) (by decide +kernel)), (ya_in 925 (by decide +kernel) (by decide +kernel))⟩, (ya_in 923 (by decide +kernel) (by decide +kernel)), (ya_in 924 (by decide +kernel) (by decide +kernel))⟩
theorem m_X11_village : ya_mV yX11_village Y_X11_village 2 := ⟨⟨⟨by decide +kernel, by decide +kernel, by decide +kernel⟩, (ya_in 103 (by decide +kernel) (by decide +kernel)), (ya_in 930 (by decide +kernel) (by decide +kernel))⟩, (ya_in 928 (by decide +kernel) (by decide +kernel)), (ya_in 929 (by decide +kernel) (by decide +kernel))⟩
theorem m_X11_within : ya_mS yX11_within Y_X11_within 3 := ⟨⟨⟨by decide +kernel, by decide +kernel, by decide +kernel⟩, (ya_in 103 (by decide +kernel) (by decide +kernel)), (ya_in 937 (by decide +kernel) (by decide +kernel))⟩, (ya_in 936 (by decide +kernel) (by decide +kernel))⟩
theorem m_J6_bitCount_0f7a4 : ya_mS yJ6_bitCount_0f7a4 Y_J6_bitCount_0f7a4 1 := ⟨⟨⟨by decide +kernel, by decide +kernel, by decide +kernel⟩, (ya_in 123 (by decide +kernel) (by decide +kernel)), (ya_in 953 (by decide +kernel) (by decide +kernel))⟩, (ya_in 952 (by decide +kernel) (by decide +kernel))⟩
theorem m_X11_ordersWithAll : ya_mV yX11_ordersWithAll Y_X11_ordersWithAll 4 := ⟨⟨⟨by decide +kernel, by decide +kernel, by decide +kernel⟩, (ya_in 103 (by decide +kernel) (by decide +kernel)), (ya_in 942 (by decide +kernel) (by decide +kernel))⟩, (ya_in 941 (by decide +kernel) (by decide +kernel)), (ya_in 27 (by decide +kernel) (by decide +kernel))⟩
theorem m_X11_commonDivisor : ya_mS yX11_commonDivisor Y_X11_commonDivisor 2 := ⟨⟨⟨by decide +kernel, by decide +kernel, by decide +kernel⟩, (ya_in 103 (by decide +kernel) (by decide +kernel)), (ya_in 965 (by decide +kernel) (by decide +kernel))⟩, (ya_in 964 (by decide +kernel) (by decide +kernel))⟩
theorem m_X11_chance : ya_mV yX11_chance Y_X11_chance 3 := ⟨⟨⟨by decide +kernel, by decide +kernel, by decide +kernel⟩, (ya_in 103 (by decide +kernel) (by decide +kernel)), (ya_in 934 (by decide +kernel) (by decide +kernel))⟩, (ya_in 932 (by decide +kernel) (by decide +kernel)), (ya_in 933 (by decide +kernel) (by decide +kernel))⟩
theorem m_X11_costsSomeDay : ya_mV yX11_costsSomeDay Y_X11_costsSomeDay 2 := ⟨⟨⟨by decide +kernel, by decide +kernel, by decide +kernel⟩, (ya_in 103 (by decide +kernel) (by decide +kernel)), (ya_in 973 (by decide +kernel) (by decide +kernel))⟩, (ya_in 972 (by decide +kernel) (by decide +kernel)), (ya_in 28 (by decide +kernel) (by decide +kernel))⟩
theorem m_X11_asks : ya_mV yX11_asks Y_X11_asks 1 := ⟨⟨⟨by decide +kernel, by decide +kernel, by decide +kernel⟩, (ya_in 103 (by decide +kernel) (by decide +kernel)), (ya_in 969 (by decide +kernel) (by decide +kernel))⟩, (ya_in 967 (by decide +kernel) (by decide +kernel)), (ya_in 968 (by decide +kernel) (by decide +kernel))⟩
theorem m_X11_hold : ya_mV yX11_hold Y_X11_hold 2 := ⟨⟨⟨by decide +kernel, by decide +kernel, by decide +kernel⟩, (ya_in 103 (by decide +kernel) (by decide +kernel)), (ya_in 977 (by decide +kernel) (by decide +kernel))⟩, (ya_in 975 (by decide +kernel) (by decide +kernel)), (ya_in 976 (by decide +kernel) (by decide +kernel))⟩
theorem m_X11_dearestOf : ya_mV yX11_dearestOf Y_X11_dearestOf 1 := ⟨⟨⟨by decide +kernel, by decide +kernel, by decide +kernel⟩, (ya_in 103 (by decide +kernel) (by decide +kernel)), (ya_in 985 (by decide +kernel) (by decide +kernel))⟩, (ya_in 984 (by decide +kernel) (by decide +kernel)), (ya_in 29 (by decide +kernel) (by decide +kernel))⟩
theorem m_X11_poor : ya_mV yX11_poor Y_X11_poor 1 := ⟨⟨⟨by decide +kernel, by decide +kernel, by decide +kernel⟩, (ya_in 103 (by decide +kernel) (by decide +kernel)), (ya_in 981 (by decide +kernel) (by decide +kernel))⟩, (ya_in 979 (by decide +kernel) (by decide +kernel)), (ya_in 980 (by decide +kernel) (by decide +kernel))⟩
theorem m_X11_years : ya_mV yX11_years Y_X11_years 3 := ⟨⟨⟨by decide +kernel, by decide +kernel, by decide +kernel⟩, (ya_in 103 (by decide +kernel) (by decide +kernel)), (ya_in 993 (by decide +kernel) (by decide +kernel))⟩, (ya_in 991 (by decide +kernel) (by decide +kernel)), (ya_in 992 (by decide +kernel) (by decide +kernel))⟩
theorem m_X11_lots : ya_mV yX11_lots Y_X11_lots 2 := ⟨⟨⟨by decide +kernel, by decide +kernel, by decide +kernel⟩, (ya_in 103 (by decide +kernel) (by decide +kernel)), (ya_in 989 (by decide +kernel) (by decide +kernel))⟩, (ya_in 987 (by decide +kernel) (by decide +kernel)), (ya_in 988 (by decide +kernel) (by decide +kernel))⟩
theorem m_X11_best : ya_mV yX11_best Y_X11_best 1 := ⟨⟨⟨by decide +kernel, by decide +kernel, by decide +kernel⟩, (ya_in 103 (by decide +kernel) (by decide +kernel)), (ya_in 999 (by decide +kernel) (by decide +kernel))⟩, (ya_in 997 (by decide +kernel) (by decide +kernel)), (ya_in 998 (by decide +kernel) (by decide +kernel))⟩
theorem m_X11_worth : ya_mV yX11_worth Y_X11_worth 2 := ⟨⟨⟨by decide +kernel, by decide +kernel, by decide +kernel⟩, (ya_in 103 (by decide +kernel) (by decide +kernel)), (ya_in 1026 (by decide +kernel) (by decide +kernel))⟩, (ya_in 1024 (by decide +kernel) (by decide +kernel)), (ya_in 1025 (by decide +kernel) (by decide +kernel))⟩
theorem m_X11_thursday : ya_mV yX11_thursday Y_X11_thursday 1 := ⟨⟨⟨by decide +kernel, by decide +kernel, by decide +kernel⟩, (ya_in 103 (by decide +kernel) (by decide +kernel)), (ya_in 1035 (by decide +kernel) (by decide +kernel))⟩, (ya_in 1033 (by decide +kernel) (by decide +kernel)), (ya_in 1034 (by decide +kernel) (by decide +kernel))⟩
theorem m_X11_keeping : ya_mV yX11_keeping Y_X11_keeping 2 := ⟨⟨⟨by decide +kernel, by decide +kernel, by decide +kernel⟩, (ya_in 103 (by decide +kernel) (by decide +kernel)), (ya_in 1039 (by decide +kernel) (by decide +kernel))⟩, (ya_in 1037 (by decide +kernel) (by decide +kernel)), (ya_in 1038 (by decide +kernel) (by decide +kernel))⟩
theorem m_X11_enough : ya_mV yX11_enough Y_X11_enough 1 := ⟨⟨⟨by decide +kernel, by decide +kernel, by decide +kernel⟩, (ya_in 103 (by decide +kernel) (by decide +kernel)), (ya_in 1043 (by decide +kernel) (by decide +kernel))⟩, (ya_in 1041 (by decide +kernel) (by decide +kernel)), (ya_in 1042 (by decide +kernel) (by decide +kernel))⟩
theorem m_X11_cheapest : ya_mV yX11_cheapest Y_X11_cheapest 1 := ⟨⟨⟨by decide +kernel, by decide +kernel, by decide +kernel⟩, (ya_in 103 (by decide +kernel) (by decide +kernel)), (ya_in 1048 (by decide +kernel) (by decide +kernel))⟩, (ya_in 1046 (by decide +kernel) (by decide +kernel)), (ya_in 1047 (by decide +kernel) (by decide +kernel))⟩
theorem m_X11_buys : ya_mV yX11_buys Y_X11_buys 2 := ⟨⟨⟨by decide +kernel, by decide +kernel, by decide +kernel⟩, (ya_in 103 (by decide +kernel) (by decide +kernel)), (ya_in 1059 (by decide +kernel) (by decide +kernel))⟩, (ya_in 1057 (by decide +kernel) (by decide +kernel)), (ya_in 1058 (by decide +kernel) (by decide +kernel))⟩
theorem m_X11_crowd : ya_mV yX11_crowd Y_X11_crowd 1 := ⟨⟨⟨by decide +kernel, by decide +kernel, by decide +kernel⟩, (ya_in 103 (by decide +kernel) (by decide +kernel)), (ya_in 1063 (by decide +kernel) (by decide +kernel))⟩, (ya_in 1061 (by decide +kernel) (by decide +kernel)), (ya_in 1062 (by decide +kernel) (by decide +kernel))⟩
theorem m_X11_mark : ya_mV yX11_mark Y_X11_mark 3 := ⟨⟨⟨by decide +kernel, by decide +kernel, by decide +kernel⟩, (ya_in 103 (by decide +kernel) (by decide +kernel)), (ya_in 1067 (by decide +kernel) (by decide +kernel))⟩, (ya_in 1065 (by decide +kernel) (by decide +kernel)), (ya_in 1066 (by decide +kernel) (by decide +kernel))⟩
theorem m_X11_markedOtherwise : ya_mV yX11_markedOtherwise Y_X11_markedOtherwise 0 := ⟨⟨⟨by decide +kernel, by decide +kernel, by decide +kernel⟩, (ya_in 103 (by decide +kernel) (by decide +kernel)), (ya_in 1076 (by decide +kernel) (by decide +kernel))⟩, (ya_in 1075 (by decide +kernel) (by decide +kernel)), (ya_in 32 (by decide +kernel) (by decide +kernel))⟩
theorem m_X11_turn : ya_mV yX11_turn Y_X11_turn 0 := ⟨⟨⟨by decide +kernel, by decide +kernel, by decide +kernel⟩, (ya_in 103 (by decide +kernel) (by decide +kernel)), (ya_in 1072 (by decide +kernel) (by decide +kernel))⟩, (ya_in 1070 (by decide +kernel) (by decide +kernel)), (ya_in 1071 (by decide +kernel) (by decide +kernel))⟩
theorem m_X11_wantedFor : ya_mV yX11_wantedFor Y_X11_wantedFor 3 := ⟨⟨⟨by decide +kernel, by decide +kernel, by decide +kernel⟩, (ya_in 103 (by decide +kernel) (by decide +kernel)), (ya_in 1093 (by decide +kernel) (by decide +kernel))⟩, (ya_in 1092 (by decide +kernel) (by decide +kernel)), (ya_in 34 (by decide +kernel) (by decide +kernel))⟩
theorem m_X11_bringAt : ya_mV yX11_bringAt Y_X11_bringAt 3 := ⟨⟨⟨by decide +kernel, by decide +kernel, by decide +kernel⟩, (ya_in 103 (by decide +kernel) (by decide +kernel)), (ya_in 1089 (by decide +kernel) (by decide +kernel))⟩, (ya_in 1088 (by decide +kernel) (by decide +kernel)), (ya_in 33 (by decide +kernel) (by decide +kernel))⟩
theorem m_X11_made : ya_mV yX11_made Y_X11_made 3 := ⟨⟨⟨by decide +kernel, by decide +kernel, by decide +kernel⟩, (ya_in 103 (by decide +kernel) (by decide +kernel)), (ya_in 1084 (by decide +kernel) (by decide +kernel))⟩, (ya_in 1082 (by decide +kernel) (by decide +kernel)), (ya_in 1083 (by decide +kernel) (by decide +kernel))⟩
theorem m_X11_least : ya_mV yX11_least Y_X11_least 3 := ⟨⟨⟨by decide +kernel, by decide +kernel, by decide +kernel⟩, (ya_in 103 (by decide +kernel) (by decide +kernel)), (ya_in 1101 (by decide +kernel) (by decide +kernel))⟩, (ya_in 1099 (by decide +kernel) (by decide +kernel)), (ya_in 1100 (by decide +kernel) (by decide +kernel))⟩
theorem m_X11_most : ya_mV yX11_most Y_X11_most 1 := ⟨⟨⟨by decide +kernel, by decide +kernel, by decide +kernel⟩, (ya_in 103 (by decide +kernel) (by decide +kernel)), (ya_in 1105 (by decide +kernel) (by decide +kernel))⟩, (ya_in 1103 (by decide +kernel) (by decide +kernel)), (ya_in 1104 (by decide +kernel) (by decide +kernel))⟩
theorem m_X11_leap : ya_mV yX11_leap Y_X11_leap 3 := ⟨⟨⟨by decide +kernel, by decide +kernel, by decide +kernel⟩, (ya_in 103 (by decide +kernel) (by decide +kernel)), (ya_in 1109 (by decide +kernel) (by decide +kernel))⟩, (ya_in 1107 (by decide +kernel) (by decide +kernel)), (ya_in 1108 (by decide +kernel) (by decide +kernel))⟩
theorem m_X11_passingGain : ya_mV yX11_passingGain Y_X11_passingGain 4 := ⟨⟨⟨by decide +kernel, by decide +kernel, by decide +kernel⟩, (ya_in 103 (by decide +kernel) (by decide +kernel)), (ya_in 1117 (by decide +kernel) (by decide +kernel))⟩, (ya_in 1116 (by decide +kernel) (by decide +kernel)), (ya_in 35 (by decide +kernel) (by decide +kernel))⟩
theorem m_X11_passingPart : ya_mS yX11_passingPart Y_X11_passingPart 2 := ⟨⟨⟨by decide +kernel, by decide +kernel, by decide +kernel⟩, (ya_in 103 (by decide +kernel) (by decide +kernel)), (ya_in 1120 (by decide +kernel) (by decide +kernel))⟩, (ya_in 1119 (by decide +kernel) (by decide +kernel))⟩
theorem m_X11_passing : ya_mV yX11_passing Y_X11_passing 2 := ⟨⟨⟨by decide +kernel, by decide +kernel, by decide +kernel⟩, (ya_in 103 (by decide +kernel) (by decide +kernel)), (ya_in 1113 (by decide +kernel) (by decide +kernel))⟩, (ya_in 1111 (by decide +kernel) (by decide +kernel)), (ya_in 1112 (by decide +kernel) (by decide +kernel))⟩
theorem m_X11_like : ya_mV yX11_like Y_X11_like 5 := ⟨⟨⟨by decide +kernel, by decide +kernel, by decide +kernel⟩, (ya_in 103 (by decide +kernel) (by decide +kernel)), (ya_in 1124 (by decide +kernel) (by decide +kernel))⟩, (ya_in 1122 (by decide +kernel) (by decide +kernel)), (ya_in 1123 (by decide +kernel) (by decide +kernel))⟩
theorem m_X11_dearestDay : ya_mV yX11_dearestDay Y_X11_dearestDay 1 := ⟨⟨⟨by decide +kernel, by decide +kernel, by decide +kernel⟩, (ya_in 103 (by decide +kernel) (by decide +kernel)), (ya_in 1132 (by decide +kernel) (by decide +kernel))⟩, (ya_in 1131 (by decide +kernel) (by decide +kernel)), (ya_in 36 (by decide +kernel) (by decide +kernel))⟩
theorem m_X11_cheapestDay : ya_mV yX11_cheapestDay Y_X11_cheapestDay 1 := ⟨⟨⟨by decide +kernel, by decide +kernel, by decide +kernel⟩, (ya_in 103 (by decide +kernel) (by decide +kernel)), (ya_in 1136 (by decide +kernel) (by decide +kernel))⟩, (ya_in 1135 (by decide +kernel) (by decide +kernel)), (ya_in 37 (by decide +kernel) (by decide +kernel))⟩
theorem m_X11_sameAsAhead : ya_mV yX11_sameAsAhead Y_X11_sameAsAhead 2 := ⟨⟨⟨by decide +kernel, by decide +kernel, by decide +kernel⟩, (ya_in 103 (by decide +kernel) (by decide +kernel)), (ya_in 1144 (by decide +kernel) (by decide +kernel))⟩, (ya_in 1143 (by decide +kernel) (by decide +kernel)), (ya_in 39 (by decide +kernel) (by decide +kernel))⟩
theorem m_X11_priceChanges : ya_mV yX11_priceChanges Y_X11_priceChanges 1 := ⟨⟨⟨by decide +kernel, by decide +kernel, by decide +kernel⟩, (ya_in 103 (by decide +kernel) (by decide +kernel)), (ya_in 1140 (by decide +kernel) (by decide +kernel))⟩, (ya_in 1139 (by decide +kernel) (by decide +kernel)), (ya_in 38 (by decide +kernel) (by decide +kernel))⟩
theorem m_X11_longestAtOnePrice : ya_mV yX11_longestAtOnePrice Y_X11_longestAtOnePrice 1 := ⟨⟨⟨by decide +kernel, by decide +kernel, by decide +kernel⟩, (ya_in 103 (by decide +kernel) (by decide +kernel)), (ya_in 1148 (by decide +kernel) (by decide +kernel))⟩, (ya_in 1147 (by decide +kernel) (by decide +kernel)), (ya_in 40 (by decide +kernel) (by decide +kernel))⟩
theorem m_X11_shape : ya_mV yX11_shape Y_X11_shape 2 := ⟨⟨⟨by decide +kernel, by decide +kernel, by decide +kernel⟩, (ya_in 103 (by decide +kernel) (by decide +kernel)), (ya_in 1128 (by decide +kernel) (by decide +kernel))⟩, (ya_in 1126 (by decide +kernel) (by decide +kernel)), (ya_in 1127 (by decide +kernel) (by decide +kernel))⟩
theorem m_X11_dearer : ya_mV yX11_dearer Y_X11_dearer 2 := ⟨⟨⟨by decide +kernel, by decide +kernel, by decide +kernel⟩, (ya_in 103 (by decide +kernel) (by decide +kernel)), (ya_in 1152 (by decide +kernel) (by decide +kernel))⟩, (ya_in 1150 (by decide +kernel) (by decide +kernel)), (ya_in 1151 (by decide +kernel) (by decide +kernel))⟩
theorem m_X11_come : ya_mV yX11_come Y_X11_come 3 := ⟨⟨⟨by decide +kernel, by decide +kernel, by decide +kernel⟩, (ya_in 103 (by decide +kernel) (by decide +kernel)), (ya_in 1156 (by decide +kernel) (by decide +kernel))⟩, (ya_in 1154 (by decide +kernel) (by decide +kernel)), (ya_in 1155 (by decide +kernel) (by decide +kernel))⟩
theorem m_X11_isSlot : ya_mS yX11_isSlot Y_X11_isSlot 1 := ⟨⟨⟨by decide +kernel, by decide +kernel, by decide +kernel⟩, (ya_in 103 (by decide +kernel) (by decide +kernel)), (ya_in 1167 (by decide +kernel) (by decide +kernel))⟩, (ya_in 1166 (by decide +kernel) (by decide +kernel))⟩
theorem m_X11_refuseCrowds : ya_mV yX11_refuseCrowds Y_X11_refuseCrowds 1 := ⟨⟨⟨by decide +kernel, by decide +kernel, by decide +kernel⟩, (ya_in 103 (by decide +kernel) (by decide +kernel)), (ya_in 1164 (by decide +kernel) (by decide +kernel))⟩, (ya_in 1163 (by decide +kernel) (by decide +kernel)), (ya_in 41 (by decide +kernel) (by decide +kernel))⟩
theorem m_X11_crowdsAgree : ya_mV yX11_crowdsAgree Y_X11_crowdsAgree 4 := ⟨⟨⟨by decide +kernel, by decide +kernel, by decide +kernel⟩, (ya_in 103 (by decide +kernel) (by decide +kernel)), (ya_in 1171 (by decide +kernel) (by decide +kernel))⟩, (ya_in 1170 (by decide +kernel) (by decide +kernel)), (ya_in 42 (by decide +kernel) (by decide +kernel))⟩
theorem m_X11_agree : ya_mV yX11_agree Y_X11_agree 3 := ⟨⟨⟨by decide +kernel, by decide +kernel, by decide +kernel⟩, (ya_in 103 (by decide +kernel) (by decide +kernel)), (ya_in 1160 (by decide +kernel) (by decide +kernel))⟩, (ya_in 1158 (by decide +kernel) (by decide +kernel)), (ya_in 1159 (by decide +kernel) (by decide +kernel))⟩
theorem m_X11_told : ya_mV yX11_told Y_X11_told 4 := ⟨⟨⟨by decide +kernel, by decide +kernel, by decide +kernel⟩, (ya_in 103 (by decide +kernel) (by decide +kernel)), (ya_in 1175 (by decide +kernel) (by decide +kernel))⟩, (ya_in 1173 (by decide +kernel) (by decide +kernel)), (ya_in 1174 (by decide +kernel) (by decide +kernel))⟩
theorem m_X11_odd : ya_mV yX11_odd Y_X11_odd 1 := ⟨⟨⟨by decide +kernel, by decide +kernel, by decide +kernel⟩, (ya_in 103 (by decide +kernel) (by decide +kernel)), (ya_in 1179 (by decide +kernel) (by decide +kernel))⟩, (ya_in 1177 (by decide +kernel) (by decide +kernel)), (ya_in 1178 (by decide +kernel) (by decide +kernel))⟩
theorem m_X11_rowsThere : ya_mV yX11_rowsThere Y_X11_rowsThere 0 := ⟨⟨⟨by decide +kernel, by decide +kernel, by decide +kernel⟩, (ya_in 103 (by decide +kernel) (by decide +kernel)), (ya_in 1189 (by decide +kernel) (by decide +kernel))⟩, (ya_in 1188 (by decide +kernel) (by decide +kernel)), (ya_in 43 (by decide +kernel) (by decide +kernel))⟩
theorem m_X11_count : ya_mV yX11_count Y_X11_count 1 := ⟨⟨⟨by decide +kernel, by decide +kernel, by decide +kernel⟩, (ya_in 103 (by decide +kernel) (by decide +kernel)), (ya_in 1185 (by decide +kernel) (by decide +kernel))⟩, (ya_in 1183 (by decide +kernel) (by decide +kernel)), (ya_in 1184 (by decide +kernel) (by decide +kernel))⟩
theorem m_X11_image : ya_mV yX11_image Y_X11_image 1 := ⟨⟨⟨by decide +kernel, by decide +kernel, by decide +kernel⟩, (ya_in 103 (by decide +kernel) (by decide +kernel)), (ya_in 1193 (by decide +kernel) (by decide +kernel))⟩, (ya_in 1191 (by decide +kernel) (by decide +kernel)), (ya_in 1192 (by decide +kernel) (by decide +kernel))⟩
theorem m_X11_restore : ya_mV yX11_restore Y_X11_restore 1 := ⟨⟨⟨by decide +kernel, by decide +kernel, by decide +kernel⟩, (ya_in 103 (by decide +kernel) (by decide +kernel)), (ya_in 1197 (by decide +kernel) (by decide +kernel))⟩, (ya_in 1195 (by decide +kernel) (by decide +kernel)), (ya_in 1196 (by decide +kernel) (by decide +kernel))⟩
theorem m_X11_row : ya_mV yX11_row Y_X11_row 3 := ⟨⟨⟨by decide +kernel, by decide +kernel, by decide +kernel⟩, (ya_in 103 (by decide +kernel) (by decide +kernel)), (ya_in 1201 (by decide +kernel) (by decide +kernel))⟩, (ya_in 1199 (by decide +kernel) (by decide +kernel)), (ya_in 1200 (by decide +kernel) (by decide +kernel))⟩
theorem m_X11_write : ya_mV yX11_write Y_X11_write 3 := ⟨⟨⟨by decide +kernel, by decide +kernel, by decide +kernel⟩, (ya_in 103 (by decide +kernel) (by decide +kernel)), (ya_in 1231 (by decide +kernel) (by decide +kernel))⟩, (ya_in 1229 (by decide +kernel) (by decide +kernel)), (ya_in 1230 (by decide +kernel) (by decide +kernel))⟩
theorem m_X11_paste : ya_mV yX11_paste Y_X11_paste 5 := ⟨⟨⟨by decide +kernel, by decide +kernel, by decide +kernel⟩, (ya_in 103 (by decide +kernel) (by decide +kernel)), (ya_in 1239 (by decide +kernel) (by decide +kernel))⟩, (ya_in 1237 (by decide +kernel) (by decide +kernel)), (ya_in 1238 (by decide +kernel) (by decide +kernel))⟩
theorem m_X12_in : ya_mS yX12_in Y_X12_in 3 := ⟨⟨⟨by decide +kernel, by decide +kernel, by decide +kernel⟩, (ya_in 114 (by decide +kernel) (by decide +kernel)), (ya_in 1364 (by decide +kernel) (by decide +kernel))⟩, (ya_in 1363 (by decide +kernel) (by decide +kernel))⟩
theorem m_X12_image : ya_mV yX12_image Y_X12_image 1 := ⟨⟨⟨by decide +kernel, by decide +kernel, by decide +kernel⟩, (ya_in 114 (by decide +kernel) (by decide +kernel)), (ya_in 1360 (by decide +kernel) (by decide +kernel))⟩, (ya_in 1358 (by decide +kernel) (by decide +kernel)), (ya_in 1359 (by decide +kernel) (by decide +kernel))⟩
theorem m_X12_restore : ya_mV yX12_restore Y_X12_restore 1 := ⟨⟨⟨by decide +kernel, by decide +kernel, by decide +kernel⟩, (ya_in 114 (by decide +kernel) (by decide +kernel)), (ya_in 1368 (by decide +kernel) (by decide +kernel))⟩, (ya_in 1366 (by decide +kernel) (by decide +kernel)), (ya_in 1367 (by decide +kernel) (by decide +kernel))⟩
theorem m_X12_isMarket : ya_mV yX12_isMarket Y_X12_isMarket 0 := ⟨⟨⟨by decide +kernel, by decide +kernel, by decide +kernel⟩, (ya_in 114 (by decide +kernel) (by decide +kernel)), (ya_in 1619 (by decide +kernel) (by decide +kernel))⟩, (ya_in 1618 (by decide +kernel) (by decide +kernel)), (ya_in 83 (by decide +kernel) (by decide +kernel))⟩
theorem m_X12_isThing : ya_mV yX12_isThing Y_X12_isThing 1 := ⟨⟨⟨by decide +kernel, by decide +kernel, by decide +kernel⟩, (ya_in 114 (by decide +kernel) (by decide +kernel)), (ya_in 1490 (by decide +kernel) (by decide +kernel))⟩, (ya_in 1489 (by decide +kernel) (by decide +kernel)), (ya_in 61 (by decide +kernel) (by decide +kernel))⟩
theorem m_X12_isDay : ya_mV yX12_isDay Y_X12_isDay 1 := ⟨⟨⟨by decide +kernel, by decide +kernel, by decide +kernel⟩, (ya_in 114 (by decide +kernel) (by decide +kernel)), (ya_in 1494 (by decide +kernel) (by decide +kernel))⟩, (ya_in 1493 (by decide +kernel) (by decide +kernel)), (ya_in 62 (by decide +kernel) (by decide +kernel))⟩
theorem m_X12_isSeller : ya_mV yX12_isSeller Y_X12_isSeller 1 := ⟨⟨⟨by decide +kernel, by decide +kernel, by decide +kernel⟩, (ya_in 114 (by decide +kernel) (by decide +kernel)), (ya_in 1586 (by decide +kernel) (by decide +kernel))⟩, (ya_in 1585 (by decide +kernel) (by decide +kernel)), (ya_in 79 (by decide +kernel) (by decide +kernel))⟩
theorem m_X12_isBuyer : ya_mV yX12_isBuyer Y_X12_isBuyer 1 := ⟨⟨⟨by decide +kernel, by decide +kernel, by decide +kernel⟩, (ya_in 114 (by decide +kernel) (by decide +kernel)), (ya_in 1611 (by decide +kernel) (by decide +kernel))⟩, (ya_in 1610 (by decide +kernel) (by decide +kernel)), (ya_in 82 (by decide +kernel) (by decide +kernel))⟩
theorem m_X12_areSo : ya_mV yX12_areSo Y_X12_areSo 2 := ⟨⟨⟨by decide +kernel, by decide +kernel, by decide +kernel⟩, (ya_in 114 (by decide +kernel) (by decide +kernel)), (ya_in 1486 (by decide +kernel) (by decide +kernel))⟩, (ya_in 1485 (by decide +kernel) (by decide +kernel)), (ya_in 60 (by decide +kernel) (by decide +kernel))⟩
theorem m_X12_at : ya_mS yX12_at Y_X12_at 2 := ⟨⟨⟨by decide +kernel, by decide +kernel, by decide +kernel⟩, (ya_in 114 (by decide +kernel) (by decide +kernel)), (ya_in 1454 (by decide +kernel) (by decide +kernel))⟩, (ya_in 1453 (by decide +kernel) (by decide +kernel))⟩
theorem m_X12_priceOf : ya_mV yX12_priceOf Y_X12_priceOf 2 := ⟨⟨⟨by decide +kernel, by decide +kernel, by decide +kernel⟩, (ya_in 114 (by decide +kernel) (by decide +kernel)), (ya_in 1498 (by decide +kernel) (by decide +kernel))⟩, (ya_in 1497 (by decide +kernel) (by decide +kernel)), (ya_in 63 (by decide +kernel) (by decide +kernel))⟩
theorem m_X12_keepsOf : ya_mV yX12_keepsOf Y_X12_keepsOf 1 := ⟨⟨⟨by decide +kernel, by decide +kernel, by decide +kernel⟩, (ya_in 114 (by decide +kernel) (by decide +kernel)), (ya_in 1526 (by decide +kernel) (by decide +kernel))⟩, (ya_in 1525 (by decide +kernel) (by decide +kernel)), (ya_in 68 (by decide +kernel) (by decide +kernel))⟩
theorem m_X12_seller3 : ya_mV yX12_seller3 Y_X12_seller3 2 := ⟨⟨⟨by decide +kernel, by decide +kernel, by decide +kernel⟩, (ya_in 114 (by decide +kernel) (by decide +kernel)), (ya_in 1522 (by decide +kernel) (by decide +kernel))⟩, (ya_in 1521 (by decide +kernel) (by decide +kernel)), (ya_in 67 (by decide +kernel) (by decide +kernel))⟩
theorem m_X12_thingOf : ya_mV yX12_thingOf Y_X12_thingOf 1 := ⟨⟨⟨by decide +kernel, by decide +kernel, by decide +kernel⟩, (ya_in 114 (by decide +kernel) (by decide +kernel)), (ya_in 1518 (by decide +kernel) (by decide +kernel))⟩, (ya_in 1517 (by decide +kernel) (by decide +kernel)), (ya_in 66 (by decide +kernel) (by decide +kernel))⟩
theorem m_X12_of : ya_mV yX12_of Y_X12_of 2 := ⟨⟨⟨by decide +kernel, by decide +kernel, by decide +kernel⟩, (ya_in 114 (by decide +kernel) (by decide +kernel)), (ya_in 1554 (by decide +kernel) (by decide +kernel))⟩, (ya_in 1553 (by decide +kernel) (by decide +kernel)), (ya_in 75 (by decide +kernel) (by decide +kernel))⟩
theorem m_X12_feed : ya_mV yX12_feed Y_X12_feed 5 := ⟨⟨⟨by decide +kernel, by decide +kernel, by decide +kernel⟩, (ya_in 114 (by decide +kernel) (by decide +kernel)), (ya_in 1372 (by decide +kernel) (by decide +kernel))⟩, (ya_in 1370 (by decide +kernel) (by decide +kernel)), (ya_in 1371 (by decide +kernel) (by decide +kernel))⟩
theorem m_X12_end : ya_mV yX12_end Y_X12_end 1 := ⟨⟨⟨by decide +kernel, by decide +kernel, by decide +kernel⟩, (ya_in 114 (by decide +kernel) (by decide +kernel)), (ya_in 1376 (by decide +kernel) (by decide +kernel))⟩, (ya_in 1374 (by decide +kernel) (by decide +kernel)), (ya_in 1375 (by decide +kernel) (by decide +kernel))⟩
theorem m_X12_see : ya_mV yX12_see Y_X12_see 1 := ⟨⟨⟨by decide +kernel, by decide +kernel, by decide +kernel⟩, (ya_in 114 (by decide +kernel) (by decide +kernel)), (ya_in 1392 (by decide +kernel) (by decide +kernel))⟩, (ya_in 1391 (by decide +kernel) (by decide +kernel)), (ya_in 45 (by decide +kernel) (by decide +kernel))⟩
theorem m_X12_advance : ya_mV yX12_advance Y_X12_advance 0 := ⟨⟨⟨by decide +kernel, by decide +kernel, by decide +kernel⟩, (ya_in 114 (by decide +kernel) (by decide +kernel)), (ya_in 1388 (by decide +kernel) (by decide +kernel))⟩, (ya_in 1387 (by decide +kernel) (by decide +kernel)), (ya_in 44 (by decide +kernel) (by decide +kernel))⟩
theorem m_X12_good : ya_mV yX12_good Y_X12_good 0 := ⟨⟨⟨by decide +kernel, by decide +kernel, by decide +kernel⟩, (ya_in 114 (by decide +kernel) (by decide +kernel)), (ya_in 1402 (by decide +kernel) (by decide +kernel))⟩, (ya_in 1401 (by decide +kernel) (by decide +kernel)), (ya_in 46 (by decide +kernel) (by decide +kernel))⟩
theorem m_X12_errs : ya_mV yX12_errs Y_X12_errs 1 := ⟨⟨⟨by decide +kernel, by decide +kernel, by decide +kernel⟩, (ya_in 114 (by decide +kernel) (by decide +kernel)), (ya_in 1425 (by decide +kernel) (by decide +kernel))⟩, (ya_in 1424 (by decide +kernel) (by decide +kernel)), (ya_in 51 (by decide +kernel) (by decide +kernel))⟩
theorem m_X12_is : ya_mV yX12_is Y_X12_is 1 := ⟨⟨⟨by decide +kernel, by decide +kernel, by decide +kernel⟩, (ya_in 114 (by decide +kernel) (by decide +kernel)), (ya_in 1419 (by decide +kernel) (by decide +kernel))⟩, (ya_in 1418 (by decide +kernel) (by decide +kernel)), (ya_in 50 (by decide +kernel) (by decide +kernel))⟩
theorem m_X12_takes : ya_mV yX12_takes Y_X12_takes 1 := ⟨⟨⟨by decide +kernel, by decide +kernel, by decide +kernel⟩, (ya_in 114 (by decide +kernel) (by decide +kernel)), (ya_in 1415 (by decide +kernel) (by decide +kernel))⟩, (ya_in 1414 (by decide +kernel) (by decide +kernel)), (ya_in 49 (by decide +kernel) (by decide +kernel))⟩
theorem m_X12_needs : ya_mV yX12_needs Y_X12_needs 1 := ⟨⟨⟨by decide +kernel, by decide +kernel, by decide +kernel⟩, (ya_in 114 (by decide +kernel) (by decide +kernel)), (ya_in 1411 (by decide +kernel) (by decide +kernel))⟩, (ya_in 1410 (by decide +kernel) (by decide +kernel)), (ya_in 48 (by decide +kernel) (by decide +kernel))⟩
theorem m_X12_number : ya_mV yX12_number Y_X12_number 2 := ⟨⟨⟨by decide +kernel, by decide +kernel, by decide +kernel⟩, (ya_in 114 (by decide +kernel) (by decide +kernel)), (ya_in 1434 (by decide +kernel) (by decide +kernel))⟩, (ya_in 1433 (by decide +kernel) (by decide +kernel)), (ya_in 53 (by decide +kernel) (by decide +kernel))⟩
theorem m_X12_told : ya_mV yX12_told Y_X12_told 3 := ⟨⟨⟨by decide +kernel, by decide +kernel, by decide +kernel⟩, (ya_in 114 (by decide +kernel) (by decide +kernel)), (ya_in 1430 (by decide +kernel) (by decide +kernel))⟩, (ya_in 1429 (by decide +kernel) (by decide +kernel)), (ya_in 52 (by decide +kernel) (by decide +kernel))⟩
theorem m_X12_fault : ya_mV yX12_fault Y_X12_fault 1 := ⟨⟨⟨by decide +kernel, by decide +kernel, by decide +kernel⟩, (ya_in 114 (by decide +kernel) (by decide +kernel)), (ya_in 1380 (by decide +kernel) (by decide +kernel))⟩, (ya_in 1378 (by decide +kernel) (by decide +kernel)), (ya_in 1379 (by decide +kernel) (by decide +kernel))⟩
theorem m_X12_freshThing : ya_mV yX12_freshThing Y_X12_freshThing 0 := ⟨⟨⟨by decide +kernel, by decide +kernel, by decide +kernel⟩, (ya_in 114 (by decide +kernel) (by decide +kernel)), (ya_in 1467 (by decide +kernel) (by decide +kernel))⟩, (ya_in 1466 (by decide +kernel) (by decide +kernel)), (ya_in 58 (by decide +kernel) (by decide +kernel))⟩
theorem m_X12_readThing : ya_mV yX12_readThing Y_X12_readThing 0 := ⟨⟨⟨by decide +kernel, by decide +kernel, by decide +kernel⟩, (ya_in 114 (by decide +kernel) (by decide +kernel)), (ya_in 1449 (by decide +kernel) (by decide +kernel))⟩, (ya_in 1448 (by decide +kernel) (by decide +kernel)), (ya_in 55 (by decide +kernel) (by decide +kernel))⟩
theorem m_X12_readOn : ya_mV yX12_readOn Y_X12_readOn 2 := ⟨⟨⟨by decide +kernel, by decide +kernel, by decide +kernel⟩, (ya_in 114 (by decide +kernel) (by decide +kernel)), (ya_in 1458 (by decide +kernel) (by decide +kernel))⟩, (ya_in 1457 (by decide +kernel) (by decide +kernel)), (ya_in 56 (by decide +kernel) (by decide +kernel))⟩
theorem m_X12_readSeller : ya_mV yX12_readSeller Y_X12_readSeller 0 := ⟨⟨⟨by decide +kernel, by decide +kernel, by decide +kernel⟩, (ya_in 114 (by decide +kernel) (by decide +kernel)), (ya_in 1463 (by decide +kernel) (by decide +kernel))⟩, (ya_in 1462 (by decide +kernel) (by decide +kernel)), (ya_in 57 (by decide +kernel) (by decide +kernel))⟩
theorem m_X12_readBuyer : ya_mV yX12_readBuyer Y_X12_readBuyer 0 := ⟨⟨⟨by decide +kernel, by decide +kernel, by decide +kernel⟩, (ya_in 114 (by decide +kernel) (by decide +kernel)), (ya_in 1473 (by decide +kernel) (by decide +kernel))⟩, (ya_in 1472 (by decide +kernel) (by decide +kernel)), (ya_in 59 (by decide +kernel) (by decide +kernel))⟩
theorem m_X12_readNext : ya_mV yX12_readNext Y_X12_readNext 0 := ⟨⟨⟨by decide +kernel, by decide +kernel, by decide +kernel⟩, (ya_in 114 (by decide +kernel) (by decide +kernel)), (ya_in 1438 (by decide +kernel) (by decide +kernel))⟩, (ya_in 1437 (by decide +kernel) (by decide +kernel)), (ya_in 54 (by decide +kernel) (by decide +kernel))⟩
theorem m_X12_readLine : ya_mV yX12_readLine Y_X12_readLine 0 := ⟨⟨⟨by decide +kernel, by decide +kernel, by decide +kernel⟩, (ya_in 114 (by decide +kernel) (by decide +kernel)), (ya_in 1406 (by decide +kernel) (by decide +kernel))⟩, (ya_in 1405 (by decide +kernel) (by decide +kernel)), (ya_in 47 (by decide +kernel) (by decide +kernel))⟩
theorem m_X12_market : ya_mV yX12_market Y_X12_market 0 := ⟨⟨⟨by decide +kernel, by decide +kernel, by decide +kernel⟩, (ya_in 114 (by decide +kernel) (by decide +kernel)), (ya_in 1384 (by decide +kernel) (by decide +kernel))⟩, (ya_in 1382 (by decide +kernel) (by decide +kernel)), (ya_in 1383 (by decide +kernel) (by decide +kernel))⟩
theorem m_X12_draw : ya_mV yX12_draw Y_X12_draw 1 := ⟨⟨⟨by decide +kernel, by decide +kernel, by decide +kernel⟩, (ya_in 114 (by decide +kernel) (by decide +kernel)), (ya_in 1562 (by decide +kernel) (by decide +kernel))⟩, (ya_in 1561 (by decide +kernel) (by decide +kernel)), (ya_in 77 (by decide +kernel) (by decide +kernel))⟩
theorem m_X12_comesTo : ya_mV yX12_comesTo Y_X12_comesTo 2 := ⟨⟨⟨by decide +kernel, by decide +kernel, by decide +kernel⟩, (ya_in 114 (by decide +kernel) (by decide +kernel)), (ya_in 1530 (by decide +kernel) (by decide +kernel))⟩, (ya_in 1529 (by decide +kernel) (by decide +kernel)), (ya_in 69 (by decide +kernel) (by decide +kernel))⟩
theorem m_X12_stockOf : ya_mV yX12_stockOf Y_X12_stockOf 1 := ⟨⟨⟨by decide +kernel, by decide +kernel, by decide +kernel⟩, (ya_in 114 (by decide +kernel) (by decide +kernel)), (ya_in 1542 (by decide +kernel) (by decide +kernel))⟩, (ya_in 1541 (by decide +kernel) (by decide +kernel)), (ya_in 72 (by decide +kernel) (by decide +kernel))⟩
theorem m_X12_wantsOn : ya_mV yX12_wantsOn Y_X12_wantsOn 3 := ⟨⟨⟨by decide +kernel, by decide +kernel, by decide +kernel⟩, (ya_in 114 (by decide +kernel) (by decide +kernel)), (ya_in 1550 (by decide +kernel) (by decide +kernel))⟩, (ya_in 1549 (by decide +kernel) (by decide +kernel)), (ya_in 74 (by decide +kernel) (by decide +kernel))⟩
theorem m_X12_askedOf : ya_mV yX12_askedOf Y_X12_askedOf 2 := ⟨⟨⟨by decide +kernel, by decide +kernel, by decide +kernel⟩, (ya_in 114 (by decide +kernel) (by decide +kernel)), (ya_in 1546 (by decide +kernel) (by decide +kernel))⟩, (ya_in 1545 (by decide +kernel) (by decide +kernel)), (ya_in 73 (by decide +kernel) (by decide +kernel))⟩
theorem m_X12_spoilsIn : ya_mV yX12_spoilsIn Y_X12_spoilsIn 1 := ⟨⟨⟨by decide +kernel, by decide +kernel, by decide +kernel⟩, (ya_in 114 (by decide +kernel) (by decide +kernel)), (ya_in 1514 (by decide +kernel) (by decide +kernel))⟩, (ya_in 1513 (by decide +kernel) (by decide +kernel)), (ya_in 65 (by decide +kernel) (by decide +kernel))⟩
theorem m_X12_offers : ya_mV yX12_offers Y_X12_offers 3 := ⟨⟨⟨by decide +kernel, by decide +kernel, by decide +kernel⟩, (ya_in 114 (by decide +kernel) (by decide +kernel)), (ya_in 1538 (by decide +kernel) (by decide +kernel))⟩, (ya_in 1537 (by decide +kernel) (by decide +kernel)), (ya_in 71 (by decide +kernel) (by decide +kernel))⟩
theorem m_X12_takes_ : ya_mV yX12_takes_ Y_X12_takes_ 3 := ⟨⟨⟨by decide +kernel, by decide +kernel, by decide +kernel⟩, (ya_in 114 (by decide +kernel) (by decide +kernel)), (ya_in 1570 (by decide +kernel) (by decide +kernel))⟩, (ya_in 1569 (by decide +kernel) (by decide +kernel)), (ya_in 78 (by decide +kernel) (by decide +kernel))⟩
theorem m_X12_standIn : ya_mV yX12_standIn Y_X12_standIn 3 := ⟨⟨⟨by decide +kernel, by decide +kernel, by decide +kernel⟩, (ya_in 114 (by decide +kernel) (by decide +kernel)), (ya_in 1558 (by decide +kernel) (by decide +kernel))⟩, (ya_in 1557 (by decide +kernel) (by decide +kernel)), (ya_in 76 (by decide +kernel) (by decide +kernel))⟩
theorem m_X12_sellsOn : ya_mV yX12_sellsOn Y_X12_sellsOn 2 := ⟨⟨⟨by decide +kernel, by decide +kernel, by decide +kernel⟩, (ya_in 114 (by decide +kernel) (by decide +kernel)), (ya_in 1534 (by decide +kernel) (by decide +kernel))⟩, (ya_in 1533 (by decide +kernel) (by decide +kernel)), (ya_in 70 (by decide +kernel) (by decide +kernel))⟩
theorem m_X12_runs : ya_mV yX12_runs Y_X12_runs 1 := ⟨⟨⟨by decide +kernel, by decide +kernel, by decide +kernel⟩, (ya_in 114 (by decide +kernel) (by decide +kernel)), (ya_in 1510 (by decide +kernel) (by decide +kernel))⟩, (ya_in 1509 (by decide +kernel) (by decide +kernel)), (ya_in 64 (by decide +kernel) (by decide +kernel))⟩
theorem m_X12_price : ya_mV yX12_price Y_X12_price 2 := ⟨⟨⟨by decide +kernel, by decide +kernel, by decide +kernel⟩, (ya_in 114 (by decide +kernel) (by decide +kernel)), (ya_in 1482 (by decide +kernel) (by decide +kernel))⟩, (ya_in 1480 (by decide +kernel) (by decide +kernel)), (ya_in 1481 (by decide +kernel) (by decide +kernel))⟩
theorem m_X12_old : ya_mV yX12_old Y_X12_old 2 := ⟨⟨⟨by decide +kernel, by decide +kernel, by decide +kernel⟩, (ya_in 114 (by decide +kernel) (by decide +kernel)), (ya_in 1502 (by decide +kernel) (by decide +kernel))⟩, (ya_in 1500 (by decide +kernel) (by decide +kernel)), (ya_in 1501 (by decide +kernel) (by decide +kernel))⟩
theorem m_X12_offered : ya_mV yX12_offered Y_X12_offered 2 := ⟨⟨⟨by decide +kernel, by decide +kernel, by decide +kernel⟩, (ya_in 114 (by decide +kernel) (by decide +kernel)), (ya_in 1506 (by decide +kernel) (by decide +kernel))⟩, (ya_in 1504 (by decide +kernel) (by decide +kernel)), (ya_in 1505 (by decide +kernel) (by decide +kernel))⟩
theorem m_X12_asked : ya_mV yX12_asked Y_X12_asked 2 := ⟨⟨⟨by decide +kernel, by decide +kernel, by decide +kernel⟩, (ya_in 114 (by decide +kernel) (by decide +kernel)), (ya_in 1574 (by decide +kernel) (by decide +kernel))⟩, (ya_in 1572 (by decide +kernel) (by decide +kernel)), (ya_in 1573 (by decide +kernel) (by decide +kernel))⟩
theorem m_X12_sold : ya_mV yX12_sold Y_X12_sold 2 := ⟨⟨⟨by decide +kernel, by decide +kernel, by decide +kernel⟩, (ya_in 114 (by decide +kernel) (by decide +kernel)), (ya_in 1578 (by decide +kernel) (by decide +kernel))⟩, (ya_in 1576 (by decide +kernel) (by decide +kernel)), (ya_in 1577 (by decide +kernel) (by decide +kernel))⟩
theorem m_X12_allGets : ya_mV yX12_allGets Y_X12_allGets 1 := ⟨⟨⟨by decide +kernel, by decide +kernel, by decide +kernel⟩, (ya_in 114 (by decide +kernel) (by decide +kernel)), (ya_in 1591 (by decide +kernel) (by decide +kernel))⟩, (ya_in 1590 (by decide +kernel) (by decide +kernel)), (ya_in 80 (by decide +kernel) (by decide +kernel))⟩
theorem m_X12_bestDay : ya_mV yX12_bestDay Y_X12_bestDay 1 := ⟨⟨⟨by decide +kernel, by decide +kernel, by decide +kernel⟩, (ya_in 114 (by decide +kernel) (by decide +kernel)), (ya_in 1595 (by decide +kernel) (by decide +kernel))⟩, (ya_in 1594 (by decide +kernel) (by decide +kernel)), (ya_in 81 (by decide +kernel) (by decide +kernel))⟩
theorem m_X12_seller : ya_mV yX12_seller Y_X12_seller 2 := ⟨⟨⟨by decide +kernel, by decide +kernel, by decide +kernel⟩, (ya_in 114 (by decide +kernel) (by decide +kernel)), (ya_in 1582 (by decide +kernel) (by decide +kernel))⟩, (ya_in 1580 (by decide +kernel) (by decide +kernel)), (ya_in 1581 (by decide +kernel) (by decide +kernel))⟩
theorem m_X12_gets : ya_mV yX12_gets Y_X12_gets 2 := ⟨⟨⟨by decide +kernel, by decide +kernel, by decide +kernel⟩, (ya_in 114 (by decide +kernel) (by decide +kernel)), (ya_in 1599 (by decide +kernel) (by decide +kernel))⟩, (ya_in 1597 (by decide +kernel) (by decide +kernel)), (ya_in 1598 (by decide +kernel) (by decide +kernel))⟩
theorem m_X12_stock : ya_mV yX12_stock Y_X12_stock 2 := ⟨⟨⟨by decide +kernel, by decide +kernel, by decide +kernel⟩, (ya_in 114 (by decide +kernel) (by decide +kernel)), (ya_in 1603 (by decide +kernel) (by decide +kernel))⟩, (ya_in 1601 (by decide +kernel) (by decide +kernel)), (ya_in 1602 (by decide +kernel) (by decide +kernel))⟩
theorem m_X12_buyer : ya_mV yX12_buyer Y_X12_buyer 2 := ⟨⟨⟨by decide +kernel, by decide +kernel, by decide +kernel⟩, (ya_in 114 (by decide +kernel) (by decide +kernel)), (ya_in 1607 (by decide +kernel) (by decide +kernel))⟩, (ya_in 1605 (by decide +kernel) (by decide +kernel)), (ya_in 1606 (by decide +kernel) (by decide +kernel))⟩
theorem m_X12_moneyOn : ya_mV yX12_moneyOn Y_X12_moneyOn 1 := ⟨⟨⟨by decide +kernel, by decide +kernel, by decide +kernel⟩, (ya_in 114 (by decide +kernel) (by decide +kernel)), (ya_in 1624 (by decide +kernel) (by decide +kernel))⟩, (ya_in 1623 (by decide +kernel) (by decide +kernel)), (ya_in 84 (by decide +kernel) (by decide +kernel))⟩
theorem m_X12_soldOn : ya_mV yX12_soldOn Y_X12_soldOn 1 := ⟨⟨⟨by decide +kernel, by decide +kernel, by decide +kernel⟩, (ya_in 114 (by decide +kernel) (by decide +kernel)), (ya_in 1628 (by decide +kernel) (by decide +kernel))⟩, (ya_in 1627 (by decide +kernel) (by decide +kernel)), (ya_in 85 (by decide +kernel) (by decide +kernel))⟩
theorem m_X12_rich : ya_mV yX12_rich Y_X12_rich 1 := ⟨⟨⟨by decide +kernel, by decide +kernel, by decide +kernel⟩, (ya_in 114 (by decide +kernel) (by decide +kernel)), (ya_in 1615 (by decide +kernel) (by decide +kernel))⟩, (ya_in 1613 (by decide +kernel) (by decide +kernel)), (ya_in 1614 (by decide +kernel) (by decide +kernel))⟩
theorem m_X12_canFill : ya_mV yX12_canFill Y_X12_canFill 1 := ⟨⟨⟨by decide +kernel, by decide +kernel, by decide +kernel⟩, (ya_in 114 (by decide +kernel) (by decide +kernel)), (ya_in 1644 (by decide +kernel) (by decide +kernel))⟩, (ya_in 1643 (by decide +kernel) (by decide +kernel)), (ya_in 88 (by decide +kernel) (by decide +kernel))⟩
theorem m_X12_fillsUp : ya_mV yX12_fillsUp Y_X12_fillsUp 3 := ⟨⟨⟨by decide +kernel, by decide +kernel, by decide +kernel⟩, (ya_in 114 (by decide +kernel) (by decide +kernel)), (ya_in 1640 (by decide +kernel) (by decide +kernel))⟩, (ya_in 1639 (by decide +kernel) (by decide +kernel)), (ya_in 87 (by decide +kernel) (by decide +kernel))⟩
theorem m_X12_bestBut : ya_mV yX12_bestBut Y_X12_bestBut 2 := ⟨⟨⟨by decide +kernel, by decide +kernel, by decide +kernel⟩, (ya_in 114 (by decide +kernel) (by decide +kernel)), (ya_in 1636 (by decide +kernel) (by decide +kernel))⟩, (ya_in 1635 (by decide +kernel) (by decide +kernel)), (ya_in 86 (by decide +kernel) (by decide +kernel))⟩
theorem m_X12_best : ya_mV yX12_best Y_X12_best 1 := ⟨⟨⟨by decide +kernel, by decide +kernel, by decide +kernel⟩, (ya_in 114 (by decide +kernel) (by decide +kernel)), (ya_in 1632 (by decide +kernel) (by decide +kernel))⟩, (ya_in 1630 (by decide +kernel) (by decide +kernel)), (ya_in 1631 (by decide +kernel) (by decide +kernel))⟩
theorem m_X12_worth : ya_mV yX12_worth Y_X12_worth 2 := ⟨⟨⟨by decide +kernel, by decide +kernel, by decide +kernel⟩, (ya_in 114 (by decide +kernel) (by decide +kernel)), (ya_in 1649 (by decide +kernel) (by decide +kernel))⟩, (ya_in 1647 (by decide +kernel) (by decide +kernel)), (ya_in 1648 (by decide +kernel) (by decide +kernel))⟩
theorem m_X12_thursday : ya_mV yX12_thursday Y_X12_thursday 1 := ⟨⟨⟨by decide +kernel, by decide +kernel, by decide +kernel⟩, (ya_in 114 (by decide +kernel) (by decide +kernel)), (ya_in 1653 (by decide +kernel) (by decide +kernel))⟩, (ya_in 1651 (by decide +kernel) (by decide +kernel)), (ya_in 1652 (by decide +kernel) (by decide +kernel))⟩
theorem m_X12_setAsks : ya_mV yX12_setAsks Y_X12_setAsks 2 := ⟨⟨⟨by decide +kernel, by decide +kernel, by decide +kernel⟩, (ya_in 114 (by decide +kernel) (by decide +kernel)), (ya_in 1661 (by decide +kernel) (by decide +kernel))⟩, (ya_in 1660 (by decide +kernel) (by decide +kernel)), (ya_in 89 (by decide +kernel) (by decide +kernel))⟩
theorem m_X12_asks : ya_mV yX12_asks Y_X12_asks 1 := ⟨⟨⟨by decide +kernel, by decide +kernel, by decide +kernel⟩, (ya_in 114 (by decide +kernel) (by decide +kernel)), (ya_in 1657 (by decide +kernel) (by decide +kernel))⟩, (ya_in 1655 (by decide +kernel) (by decide +kernel)), (ya_in 1656 (by decide +kernel) (by decide +kernel))⟩
theorem m_X12_hold : ya_mV yX12_hold Y_X12_hold 2 := ⟨⟨⟨by decide +kernel, by decide +kernel, by decide +kernel⟩, (ya_in 114 (by decide +kernel) (by decide +kernel)), (ya_in 1665 (by decide +kernel) (by decide +kernel))⟩, (ya_in 1663 (by decide +kernel) (by decide +kernel)), (ya_in 1664 (by decide +kernel) (by decide +kernel))⟩
theorem m_X12_buyDay : ya_mV yX12_buyDay Y_X12_buyDay 2 := ⟨⟨⟨by decide +kernel, by decide +kernel, by decide +kernel⟩, (ya_in 114 (by decide +kernel) (by decide +kernel)), (ya_in 1674 (by decide +kernel) (by decide +kernel))⟩, (ya_in 1673 (by decide +kernel) (by decide +kernel)), (ya_in 90 (by decide +kernel) (by decide +kernel))⟩
theorem m_X12_buysOn : ya_mV yX12_buysOn Y_X12_buysOn 2 := ⟨⟨⟨by decide +kernel, by decide +kernel, by decide +kernel⟩, (ya_in 114 (by decide +kernel) (by decide +kernel)), (ya_in 1682 (by decide +kernel) (by decide +kernel))⟩, (ya_in 1681 (by decide +kernel) (by decide +kernel)), (ya_in 91 (by decide +kernel) (by decide +kernel))⟩
theorem m_X12_cheapest : ya_mV yX12_cheapest Y_X12_cheapest 1 := ⟨⟨⟨by decide +kernel, by decide +kernel, by decide +kernel⟩, (ya_in 114 (by decide +kernel) (by decide +kernel)), (ya_in 1670 (by decide +kernel) (by decide +kernel))⟩, (ya_in 1668 (by decide +kernel) (by decide +kernel)), (ya_in 1669 (by decide +kernel) (by decide +kernel))⟩
theorem m_X12_buys : ya_mV yX12_buys Y_X12_buys 2 := ⟨⟨⟨by decide +kernel, by decide +kernel, by decide +kernel⟩, (ya_in 114 (by decide +kernel) (by decide +kernel)), (ya_in 1678 (by decide +kernel) (by decide +kernel))⟩, (ya_in 1676 (by decide +kernel) (by decide +kernel)), (ya_in 1677 (by decide +kernel) (by decide +kernel))⟩
theorem m_X12_crowd : ya_mV yX12_crowd Y_X12_crowd 1 := ⟨⟨⟨by decide +kernel, by decide +kernel, by decide +kernel⟩, (ya_in 114 (by decide +kernel) (by decide +kernel)), (ya_in 1686 (by decide +kernel) (by decide +kernel))⟩, (ya_in 1684 (by decide +kernel) (by decide +kernel)), (ya_in 1685 (by decide +kernel) (by decide +kernel))⟩
theorem m_X12_mark : ya_mV yX12_mark Y_X12_mark 3 := ⟨⟨⟨by decide +kernel, by decide +kernel, by decide +kernel⟩, (ya_in 114 (by decide +kernel) (by decide +kernel)), (ya_in 1690 (by decide +kernel) (by decide +kernel))⟩, (ya_in 1688 (by decide +kernel) (by decide +kernel)), (ya_in 1689 (by decide +kernel) (by decide +kernel))⟩
theorem m_X12_isMarked : ya_mV yX12_isMarked Y_X12_isMarked 1 := ⟨⟨⟨by decide +kernel, by decide +kernel, by decide +kernel⟩, (ya_in 114 (by decide +kernel) (by decide +kernel)), (ya_in 1702 (by decide +kernel) (by decide +kernel))⟩, (ya_in 1701 (by decide +kernel) (by decide +kernel)), (ya_in 93 (by decide +kernel) (by decide +kernel))⟩
theorem m_X12_markedMany : ya_mV yX12_markedMany Y_X12_markedMany 0 := ⟨⟨⟨by decide +kernel, by decide +kernel, by decide +kernel⟩, (ya_in 114 (by decide +kernel) (by decide +kernel)), (ya_in 1698 (by decide +kernel) (by decide +kernel))⟩, (ya_in 1697 (by decide +kernel) (by decide +kernel)), (ya_in 92 (by decide +kernel) (by decide +kernel))⟩
theorem m_X12_turn : ya_mV yX12_turn Y_X12_turn 0 := ⟨⟨⟨by decide +kernel, by decide +kernel, by decide +kernel⟩, (ya_in 114 (by decide +kernel) (by decide +kernel)), (ya_in 1694 (by decide +kernel) (by decide +kernel))⟩, (ya_in 1692 (by decide +kernel) (by decide +kernel)), (ya_in 1693 (by decide +kernel) (by decide +kernel))⟩
theorem m_X12_madeBy : ya_mV yX12_madeBy Y_X12_madeBy 3 := ⟨⟨⟨by decide +kernel, by decide +kernel, by decide +kernel⟩, (ya_in 114 (by decide +kernel) (by decide +kernel)), (ya_in 1710 (by decide +kernel) (by decide +kernel))⟩, (ya_in 1709 (by decide +kernel) (by decide +kernel)), (ya_in 94 (by decide +kernel) (by decide +kernel))⟩
theorem m_X12_made : ya_mV yX12_made Y_X12_made 3 := ⟨⟨⟨by decide +kernel, by decide +kernel, by decide +kernel⟩, (ya_in 114 (by decide +kernel) (by decide +kernel)), (ya_in 1706 (by decide +kernel) (by decide +kernel))⟩, (ya_in 1704 (by decide +kernel) (by decide +kernel)), (ya_in 1705 (by decide +kernel) (by decide +kernel))⟩
theorem m_X12_least : ya_mV yX12_least Y_X12_least 3 := ⟨⟨⟨by decide +kernel, by decide +kernel, by decide +kernel⟩, (ya_in 114 (by decide +kernel) (by decide +kernel)), (ya_in 1715 (by decide +kernel) (by decide +kernel))⟩, (ya_in 1713 (by decide +kernel) (by decide +kernel)), (ya_in 1714 (by decide +kernel) (by decide +kernel))⟩
theorem m_X12_most : ya_mV yX12_most Y_X12_most 1 := ⟨⟨⟨by decide +kernel, by decide +kernel, by decide +kernel⟩, (ya_in 114 (by decide +kernel) (by decide +kernel)), (ya_in 1720 (by decide +kernel) (by decide +kernel))⟩, (ya_in 1718 (by decide +kernel) (by decide +kernel)), (ya_in 1719 (by decide +kernel) (by decide +kernel))⟩
theorem m_X12_leap : ya_mV yX12_leap Y_X12_leap 3 := ⟨⟨⟨by decide +kernel, by decide +kernel, by decide +kernel⟩, (ya_in 114 (by decide +kernel) (by decide +kernel)), (ya_in 1724 (by decide +kernel) (by decide +kernel))⟩, (ya_in 1722 (by decide +kernel) (by decide +kernel)), (ya_in 1723 (by decide +kernel) (by decide +kernel))⟩
theorem m_X12_comeAt : ya_mV yX12_comeAt Y_X12_comeAt 3 := ⟨⟨⟨by decide +kernel, by decide +kernel, by decide +kernel⟩, (ya_in 114 (by decide +kernel) (by decide +kernel)), (ya_in 1732 (by decide +kernel) (by decide +kernel))⟩, (ya_in 1731 (by decide +kernel) (by decide +kernel)), (ya_in 95 (by decide +kernel) (by decide +kernel))⟩
theorem m_X12_come : ya_mV yX12_come Y_X12_come 3 := ⟨⟨⟨by decide +kernel, by decide +kernel, by decide +kernel⟩, (ya_in 114 (by decide +kernel) (by decide +kernel)), (ya_in 1728 (by decide +kernel) (by decide +kernel))⟩, (ya_in 1726 (by decide +kernel) (by decide +kernel)), (ya_in 1727 (by decide +kernel) (by decide +kernel))⟩
theorem m_X12_numberAt : ya_mV yX12_numberAt Y_X12_numberAt 2 := ⟨⟨⟨by decide +kernel, by decide +kernel, by decide +kernel⟩, (ya_in 114 (by decide +kernel) (by decide +kernel)), (ya_in 1747 (by decide +kernel) (by decide +kernel))⟩, (ya_in 1746 (by decide +kernel) (by decide +kernel)), (ya_in 97 (by decide +kernel) (by decide +kernel))⟩
theorem m_X12_isSlot : ya_mS yX12_isSlot Y_X12_isSlot 1 := ⟨⟨⟨by decide +kernel, by decide +kernel, by decide +kernel⟩, (ya_in 114 (by decide +kernel) (by decide +kernel)), (ya_in 1743 (by decide +kernel) (by decide +kernel))⟩, (ya_in 1742 (by decide +kernel) (by decide +kernel))⟩
theorem m_X12_asksCrowds : ya_mV yX12_asksCrowds Y_X12_asksCrowds 2 := ⟨⟨⟨by decide +kernel, by decide +kernel, by decide +kernel⟩, (ya_in 114 (by decide +kernel) (by decide +kernel)), (ya_in 1740 (by decide +kernel) (by decide +kernel))⟩, (ya_in 1739 (by decide +kernel) (by decide +kernel)), (ya_in 96 (by decide +kernel) (by decide +kernel))⟩
theorem m_X12_agrees : ya_mV yX12_agrees Y_X12_agrees 4 := ⟨⟨⟨by decide +kernel, by decide +kernel, by decide +kernel⟩, (ya_in 114 (by decide +kernel) (by decide +kernel)), (ya_in 1751 (by decide +kernel) (by decide +kernel))⟩, (ya_in 1750 (by decide +kernel) (by decide +kernel)), (ya_in 98 (by decide +kernel) (by decide +kernel))⟩
theorem m_X12_agree : ya_mV yX12_agree Y_X12_agree 3 := ⟨⟨⟨by decide +kernel, by decide +kernel, by decide +kernel⟩, (ya_in 114 (by decide +kernel) (by decide +kernel)), (ya_in 1736 (by decide +kernel) (by decide +kernel))⟩, (ya_in 1734 (by decide +kernel) (by decide +kernel)), (ya_in 1735 (by decide +kernel) (by decide +kernel))⟩
theorem m_X12_told_ : ya_mV yX12_told_ Y_X12_told_ 4 := ⟨⟨⟨by decide +kernel, by decide +kernel, by decide +kernel⟩, (ya_in 114 (by decide +kernel) (by decide +kernel)), (ya_in 1755 (by decide +kernel) (by decide +kernel))⟩, (ya_in 1753 (by decide +kernel) (by decide +kernel)), (ya_in 1754 (by decide +kernel) (by decide +kernel))⟩
theorem m_X12_odd : ya_mV yX12_odd Y_X12_odd 1 := ⟨⟨⟨by decide +kernel, by decide +kernel, by decide +kernel⟩, (ya_in 114 (by decide +kernel) (by decide +kernel)), (ya_in 1759 (by decide +kernel) (by decide +kernel))⟩, (ya_in 1757 (by decide +kernel) (by decide +kernel)), (ya_in 1758 (by decide +kernel) (by decide +kernel))⟩
theorem m_X12_passing : ya_mV yX12_passing Y_X12_passing 2 := ⟨⟨⟨by decide +kernel, by decide +kernel, by decide +kernel⟩, (ya_in 114 (by decide +kernel) (by decide +kernel)), (ya_in 1763 (by decide +kernel) (by decide +kernel))⟩, (ya_in 1761 (by decide +kernel) (by decide +kernel)), (ya_in 1762 (by decide +kernel) (by decide +kernel))⟩
theorem m_X12_like : ya_mV yX12_like Y_X12_like 5 := ⟨⟨⟨by decide +kernel, by decide +kernel, by decide +kernel⟩, (ya_in 114 (by decide +kernel) (by decide +kernel)), (ya_in 1767 (by decide +kernel) (by decide +kernel))⟩, (ya_in 1765 (by decide +kernel) (by decide +kernel)), (ya_in 1766 (by decide +kernel) (by decide +kernel))⟩
theorem m_X12_queue : ya_mV yX12_queue Y_X12_queue 2 := ⟨⟨⟨by decide +kernel, by decide +kernel, by decide +kernel⟩, (ya_in 114 (by decide +kernel) (by decide +kernel)), (ya_in 1772 (by decide +kernel) (by decide +kernel))⟩, (ya_in 1770 (by decide +kernel) (by decide +kernel)), (ya_in 1771 (by decide +kernel) (by decide +kernel))⟩
theorem m_X12_spoils : ya_mV yX12_spoils Y_X12_spoils 2 := ⟨⟨⟨by decide +kernel, by decide +kernel, by decide +kernel⟩, (ya_in 114 (by decide +kernel) (by decide +kernel)), (ya_in 1776 (by decide +kernel) (by decide +kernel))⟩, (ya_in 1774 (by decide +kernel) (by decide +kernel)), (ya_in 1775 (by decide +kernel) (by decide +kernel))⟩
theorem m_X12_shape : ya_mV yX12_shape Y_X12_shape 2 := ⟨⟨⟨by decide +kernel, by decide +kernel, by decide +kernel⟩, (ya_in 114 (by decide +kernel) (by decide +kernel)), (ya_in 1780 (by decide +kernel) (by decide +kernel))⟩, (ya_in 1778 (by decide +kernel) (by decide +kernel)), (ya_in 1779 (by decide +kernel) (by decide +kernel))⟩
theorem m_X12_dearer : ya_mV yX12_dearer Y_X12_dearer 2 := ⟨⟨⟨by decide +kernel, by decide +kernel, by decide +kernel⟩, (ya_in 114 (by decide +kernel) (by decide +kernel)), (ya_in 1784 (by decide +kernel) (by decide +kernel))⟩, (ya_in 1782 (by decide +kernel) (by decide +kernel)), (ya_in 1783 (by decide +kernel) (by decide +kernel))⟩
theorem m_X12_bestKeeping : ya_mV yX12_bestKeeping Y_X12_bestKeeping 2 := ⟨⟨⟨by decide +kernel, by decide +kernel, by decide +kernel⟩, (ya_in 114 (by decide +kernel) (by decide +kernel)), (ya_in 1793 (by decide +kernel) (by decide +kernel))⟩, (ya_in 1792 (by decide +kernel) (by decide +kernel)), (ya_in 99 (by decide +kernel) (by decide +kernel))⟩
theorem m_X12_keeping : ya_mV yX12_keeping Y_X12_keeping 2 := ⟨⟨⟨by decide +kernel, by decide +kernel, by decide +kernel⟩, (ya_in 114 (by decide +kernel) (by decide +kernel)), (ya_in 1788 (by decide +kernel) (by decide +kernel))⟩, (ya_in 1786 (by decide +kernel) (by decide +kernel)), (ya_in 1787 (by decide +kernel) (by decide +kernel))⟩
theorem m_X12_enough : ya_mV yX12_enough Y_X12_enough 1 := ⟨⟨⟨by decide +kernel, by decide +kernel, by decide +kernel⟩, (ya_in 114 (by decide +kernel) (by decide +kernel)), (ya_in 1797 (by decide +kernel) (by decide +kernel))⟩, (ya_in 1795 (by decide +kernel) (by decide +kernel)), (ya_in 1796 (by decide +kernel) (by decide +kernel))⟩
theorem m_X12_clears : ya_mV yX12_clears Y_X12_clears 2 := ⟨⟨⟨by decide +kernel, by decide +kernel, by decide +kernel⟩, (ya_in 114 (by decide +kernel) (by decide +kernel)), (ya_in 1801 (by decide +kernel) (by decide +kernel))⟩, (ya_in 1799 (by decide +kernel) (by decide +kernel)), (ya_in 1800 (by decide +kernel) (by decide +kernel))⟩
theorem m_X12_poor : ya_mV yX12_poor Y_X12_poor 1 := ⟨⟨⟨by decide +kernel, by decide +kernel, by decide +kernel⟩, (ya_in 114 (by decide +kernel) (by decide +kernel)), (ya_in 1805 (by decide +kernel) (by decide +kernel))⟩, (ya_in 1803 (by decide +kernel) (by decide +kernel)), (ya_in 1804 (by decide +kernel) (by decide +kernel))⟩
theorem m_X12_villageOn : ya_mV yX12_villageOn Y_X12_villageOn 2 := ⟨⟨⟨by decide +kernel, by decide +kernel, by decide +kernel⟩, (ya_in 114 (by decide +kernel) (by decide +kernel)), (ya_in 1813 (by decide +kernel) (by decide +kernel))⟩, (ya_in 1812 (by decide +kernel) (by decide +kernel)), (ya_in 100 (by decide +kernel) (by decide +kernel))⟩
theorem m_X12_village : ya_mV yX12_village Y_X12_village 2 := ⟨⟨⟨by decide +kernel, by decide +kernel, by decide +kernel⟩, (ya_in 114 (by decide +kernel) (by decide +kernel)), (ya_in 1809 (by decide +kernel) (by decide +kernel))⟩, (ya_in 1807 (by decide +kernel) (by decide +kernel)), (ya_in 1808 (by decide +kernel) (by decide +kernel))⟩
theorem m_X12_factorial : ya_mS yX12_factorial Y_X12_factorial 1 := ⟨⟨⟨by decide +kernel, by decide +kernel, by decide +kernel⟩, (ya_in 114 (by decide +kernel) (by decide +kernel)), (ya_in 1820 (by decide +kernel) (by decide +kernel))⟩, (ya_in 1819 (by decide +kernel) (by decide +kernel))⟩
theorem m_X12_orders : ya_mV yX12_orders Y_X12_orders 3 := ⟨⟨⟨by decide +kernel, by decide +kernel, by decide +kernel⟩, (ya_in 114 (by decide +kernel) (by decide +kernel)), (ya_in 1824 (by decide +kernel) (by decide +kernel))⟩, (ya_in 1823 (by decide +kernel) (by decide +kernel)), (ya_in 101 (by decide +kernel) (by decide +kernel))⟩
theorem m_X12_divisor : ya_mS yX12_divisor Y_X12_divisor 2 := ⟨⟨⟨by decide +kernel, by decide +kernel, by decide +kernel⟩, (ya_in 114 (by decide +kernel) (by decide +kernel)), (ya_in 1827 (by decide +kernel) (by decide +kernel))⟩, (ya_in 1826 (by decide +kernel) (by decide +kernel))⟩
theorem m_X12_chance : ya_mV yX12_chance Y_X12_chance 3 := ⟨⟨⟨by decide +kernel, by decide +kernel, by decide +kernel⟩, (ya_in 114 (by decide +kernel) (by decide +kernel)), (ya_in 1817 (by decide +kernel) (by decide +kernel))⟩, (ya_in 1815 (by decide +kernel) (by decide +kernel)), (ya_in 1816 (by decide +kernel) (by decide +kernel))⟩
theorem m_X12_isSeed : ya_mS yX12_isSeed Y_X12_isSeed 1 := ⟨⟨⟨by decide +kernel, by decide +kernel, by decide +kernel⟩, (ya_in 114 (by decide +kernel) (by decide +kernel)), (ya_in 1834 (by decide +kernel) (by decide +kernel))⟩, (ya_in 1833 (by decide +kernel) (by decide +kernel))⟩
theorem m_X12_lots : ya_mV yX12_lots Y_X12_lots 2 := ⟨⟨⟨by decide +kernel, by decide +kernel, by decide +kernel⟩, (ya_in 114 (by decide +kernel) (by decide +kernel)), (ya_in 1831 (by decide +kernel) (by decide +kernel))⟩, (ya_in 1829 (by decide +kernel) (by decide +kernel)), (ya_in 1830 (by decide +kernel) (by decide +kernel))⟩
theorem m_X12_years : ya_mV yX12_years Y_X12_years 3 := ⟨⟨⟨by decide +kernel, by decide +kernel, by decide +kernel⟩, (ya_in 114 (by decide +kernel) (by decide +kernel)), (ya_in 1839 (by decide +kernel) (by decide +kernel))⟩, (ya_in 1837 (by decide +kernel) (by decide +kernel)), (ya_in 1838 (by decide +kernel) (by decide +kernel))⟩
theorem m_X12_count : ya_mV yX12_count Y_X12_count 1 := ⟨⟨⟨by decide +kernel, by decide +kernel, by decide +kernel⟩, (ya_in 114 (by decide +kernel) (by decide +kernel)), (ya_in 1844 (by decide +kernel) (by decide +kernel))⟩, (ya_in 1842 (by decide +kernel) (by decide +kernel)), (ya_in 1843 (by decide +kernel) (by decide +kernel))⟩
theorem m_X12_cut : ya_mS yX12_cut Y_X12_cut 2 := ⟨⟨⟨by decide +kernel, by decide +kernel, by decide +kernel⟩, (ya_in 114 (by decide +kernel) (by decide +kernel)), (ya_in 1855 (by decide +kernel) (by decide +kernel))⟩, (ya_in 1854 (by decide +kernel) (by decide +kernel))⟩
theorem m_X12_row : ya_mV yX12_row Y_X12_row 3 := ⟨⟨⟨by decide +kernel, by decide +kernel, by decide +kernel⟩, (ya_in 114 (by decide +kernel) (by decide +kernel)), (ya_in 1848 (by decide +kernel) (by decide +kernel))⟩, (ya_in 1846 (by decide +kernel) (by decide +kernel)), (ya_in 1847 (by decide +kernel) (by decide +kernel))⟩
theorem m_X12_write : ya_mV yX12_write Y_X12_write 3 := ⟨⟨⟨by decide +kernel, by decide +kernel, by decide +kernel⟩, (ya_in 114 (by decide +kernel) (by decide +kernel)), (ya_in 1852 (by decide +kernel) (by decide +kernel))⟩, (ya_in 1850 (by decide +kernel) (by decide +kernel)), (ya_in 1851 (by decide +kernel) (by decide +kernel))⟩
theorem m_X12_paste : ya_mV yX12_paste Y_X12_paste 5 := ⟨⟨⟨by decide +kernel, by decide +kernel, by decide +kernel⟩, (ya_in 114 (by decide +kernel) (by decide +kernel)), (ya_in 1859 (by decide +kernel) (by decide +kernel))⟩, (ya_in 1857 (by decide +kernel) (by decide +kernel)), (ya_in 1858 (by decide +kernel) (by decide +kernel))⟩
