/-! ===== methods and what the tables say of them ===== -/
abbrev m_X0_many : XM := (yX0_many, cX0_many, 4, (Option.some Jvm.ClassFile.FieldType.int), RX0, 2)
abbrev m_X0_replaced : XM := (yX0_replaced, cX0_replaced, 5, (Option.some Jvm.ClassFile.FieldType.int), RX0, 3)
abbrev m_X0_total : XM := (yX0_total, cX0_total, 5, (Option.some Jvm.ClassFile.FieldType.int), RX0, 2)
abbrev m_X0_together : XM := (yX0_together, cX0_together, 4, (Option.some Jvm.ClassFile.FieldType.int), RX0, 2)
abbrev m_X0_isWithin : XM := (yX0_isWithin, cX0_isWithin, 4, (Option.some Jvm.ClassFile.FieldType.boolean), RX0, 2)
abbrev m_X0_dearer : XM := (yX0_dearer, cX0_dearer, 8, (Option.some Jvm.ClassFile.FieldType.int), RX0, 4)
abbrev m_X1_init : XM := (yX1_init, cX1_init, 1, (Option.none : Option Jvm.ClassFile.FieldType), RX1, 0)
abbrev m_X1_begin : XM := (yX1_begin, cX1_begin, 2, (Option.none : Option Jvm.ClassFile.FieldType), RX1, 1)
abbrev m_X1_mayWish : XM := (yX1_mayWish, cX1_mayWish, 7, (Option.some Jvm.ClassFile.FieldType.boolean), RX1, 4)
abbrev m_X1_wishedByAllies : XM := (yX1_wishedByAllies, cX1_wishedByAllies, 6, (Option.some Jvm.ClassFile.FieldType.int), RX1, 3)
abbrev m_X1_greatestWish : XM := (yX1_greatestWish, cX1_greatestWish, 5, (Option.some Jvm.ClassFile.FieldType.int), RX1, 3)
abbrev m_X1_hasWaived : XM := (yX1_hasWaived, cX1_hasWaived, 2, (Option.some Jvm.ClassFile.FieldType.boolean), RX1, 1)
abbrev m_X1_useWaiver : XM := (yX1_useWaiver, cX1_useWaiver, 2, (Option.none : Option Jvm.ClassFile.FieldType), RX1, 1)
abbrev m_X1_closeRound : XM := (yX1_closeRound, cX1_closeRound, 4, (Option.some Jvm.ClassFile.FieldType.boolean), RX1, 2)
abbrev m_X1_undoContradictions : XM := (yX1_undoContradictions, cX1_undoContradictions, 3, (Option.none : Option Jvm.ClassFile.FieldType), RX1, 1)
abbrev m_X1_contradictedRound : XM := (yX1_contradictedRound, cX1_contradictedRound, 3, (Option.some Jvm.ClassFile.FieldType.int), RX1, 1)
abbrev m_X1_lowerEligible : XM := (yX1_lowerEligible, cX1_lowerEligible, 4, (Option.none : Option Jvm.ClassFile.FieldType), RX1, 1)
abbrev m_X1_moveHeld : XM := (yX1_moveHeld, cX1_moveHeld, 7, (Option.none : Option Jvm.ClassFile.FieldType), RX1, 2)
abbrev m_X1_raisePrices : XM := (yX1_raisePrices, cX1_raisePrices, 6, (Option.some Jvm.ClassFile.FieldType.boolean), RX1, 2)
abbrev m_X1_runLog : XM := (yX1_runLog, cX1_runLog, 9, (Option.none : Option Jvm.ClassFile.FieldType), RX1, 6)
abbrev m_X1_lastValue : XM := (yX1_lastValue, cX1_lastValue, 2, (Option.some Jvm.ClassFile.FieldType.int), RX1, 1)
abbrev m_X1_allPrices : XM := (yX1_allPrices, cX1_allPrices, 3, (Option.some Jvm.ClassFile.FieldType.int), RX1, 0)
abbrev m_X1_allContradictions : XM := (yX1_allContradictions, cX1_allContradictions, 3, (Option.some Jvm.ClassFile.FieldType.int), RX1, 0)
abbrev m_X2_init : XM := (yX2_init, cX2_init, 2, (Option.none : Option Jvm.ClassFile.FieldType), RX2, 0)
abbrev m_X2_isOut : XM := (yX2_isOut, cX2_isOut, 2, (Option.some Jvm.ClassFile.FieldType.boolean), RX2, 1)
abbrev m_X2_winners : XM := (yX2_winners, cX2_winners, 3, (Option.some Jvm.ClassFile.FieldType.int), RX2, 0)
abbrev m_X2_amountWon : XM := (yX2_amountWon, cX2_amountWon, 3, (Option.some Jvm.ClassFile.FieldType.int), RX2, 1)
abbrev m_X2_blocksWon : XM := (yX2_blocksWon, cX2_blocksWon, 4, (Option.some Jvm.ClassFile.FieldType.int), RX2, 2)
abbrev m_X2_add : XM := (yX2_add, cX2_add, 6, (Option.none : Option Jvm.ClassFile.FieldType), RX2, 4)
abbrev m_X2_leaveOut : XM := (yX2_leaveOut, cX2_leaveOut, 2, (Option.none : Option Jvm.ClassFile.FieldType), RX2, 1)
abbrev m_X2_pickFrom : XM := (yX2_pickFrom, cX2_pickFrom, 7, (Option.none : Option Jvm.ClassFile.FieldType), RX2, 6)
abbrev m_X2_fits : XM := (yX2_fits, cX2_fits, 8, (Option.some Jvm.ClassFile.FieldType.boolean), RX2, 3)
abbrev m_X2_take : XM := (yX2_take, cX2_take, 4, (Option.none : Option Jvm.ClassFile.FieldType), RX2, 3)
abbrev m_X2_giveBack : XM := (yX2_giveBack, cX2_giveBack, 4, (Option.none : Option Jvm.ClassFile.FieldType), RX2, 3)
abbrev m_X2_moveTaken : XM := (yX2_moveTaken, cX2_moveTaken, 9, (Option.none : Option Jvm.ClassFile.FieldType), RX2, 4)
abbrev m_X2_keepIfBetter : XM := (yX2_keepIfBetter, cX2_keepIfBetter, 3, (Option.none : Option Jvm.ClassFile.FieldType), RX2, 2)
abbrev m_X2_isAhead : XM := (yX2_isAhead, cX2_isAhead, 3, (Option.some Jvm.ClassFile.FieldType.boolean), RX2, 2)
abbrev m_X2_findWinners : XM := (yX2_findWinners, cX2_findWinners, 4, (Option.none : Option Jvm.ClassFile.FieldType), RX2, 0)
abbrev m_X2_worthOf : XM := (yX2_worthOf, cX2_worthOf, 4, (Option.some Jvm.ClassFile.FieldType.int), RX2, 1)
abbrev m_X2_signals : XM := (yX2_signals, cX2_signals, 5, (Option.some Jvm.ClassFile.FieldType.int), RX2, 1)
abbrev m_X2_isSignal : XM := (yX2_isSignal, cX2_isSignal, 6, (Option.some Jvm.ClassFile.FieldType.boolean), RX2, 3)
abbrev m_X2_asksFor : XM := (yX2_asksFor, cX2_asksFor, 4, (Option.some Jvm.ClassFile.FieldType.boolean), RX2, 2)
abbrev m_X3_init : XM := (yX3_init, cX3_init, 2, (Option.none : Option Jvm.ClassFile.FieldType), RX3, 0)
abbrev m_X3_give : XM := (yX3_give, cX3_give, 8, (Option.none : Option Jvm.ClassFile.FieldType), RX3, 2)
abbrev m_X3_giveByTurn : XM := (yX3_giveByTurn, cX3_giveByTurn, 11, (Option.none : Option Jvm.ClassFile.FieldType), RX3, 4)
abbrev m_X3_clashesOf : XM := (yX3_clashesOf, cX3_clashesOf, 5, (Option.some Jvm.ClassFile.FieldType.int), RX3, 2)
abbrev m_X3_clashesBetween : XM := (yX3_clashesBetween, cX3_clashesBetween, 4, (Option.some Jvm.ClassFile.FieldType.int), RX3, 2)
abbrev m_X3_draw : XM := (yX3_draw, cX3_draw, 6, (Option.none : Option Jvm.ClassFile.FieldType), RX3, 3)
abbrev m_X3_agreeWith : XM := (yX3_agreeWith, cX3_agreeWith, 7, (Option.some Jvm.ClassFile.FieldType.boolean), RX3, 2)
abbrev m_X3_heldBy : XM := (yX3_heldBy, cX3_heldBy, 5, (Option.some Jvm.ClassFile.FieldType.int), RX3, 2)
abbrev m_X4_init : XM := (yX4_init, cX4_init, 1, (Option.none : Option Jvm.ClassFile.FieldType), RX4, 0)
abbrev m_X4_find : XM := (yX4_find, cX4_find, 4, (Option.none : Option Jvm.ClassFile.FieldType), RX4, 1)
abbrev m_X4_harmOf : XM := (yX4_harmOf, cX4_harmOf, 3, (Option.some Jvm.ClassFile.FieldType.int), RX4, 2)
abbrev m_X4_objection : XM := (yX4_objection, cX4_objection, 7, (Option.some Jvm.ClassFile.FieldType.int), RX4, 3)
abbrev m_X4_strongest : XM := (yX4_strongest, cX4_strongest, 6, (Option.some Jvm.ClassFile.FieldType.int), RX4, 1)
abbrev m_X4_raiseOutside : XM := (yX4_raiseOutside, cX4_raiseOutside, 9, (Option.none : Option Jvm.ClassFile.FieldType), RX4, 2)
abbrev m_X4_raiseEach : XM := (yX4_raiseEach, cX4_raiseEach, 6, (Option.some Jvm.ClassFile.FieldType.int), RX4, 3)
abbrev m_X4_roomOutside : XM := (yX4_roomOutside, cX4_roomOutside, 3, (Option.some Jvm.ClassFile.FieldType.int), RX4, 2)
abbrev m_X5_init : XM := (yX5_init, cX5_init, 1, (Option.none : Option Jvm.ClassFile.FieldType), RX5, 0)
abbrev m_X5_add : XM := (yX5_add, cX5_add, 4, (Option.some Jvm.ClassFile.FieldType.int), RX5, 2)
abbrev m_X5_countIn : XM := (yX5_countIn, cX5_countIn, 4, (Option.some Jvm.ClassFile.FieldType.int), RX5, 1)
abbrev m_X5_pack : XM := (yX5_pack, cX5_pack, 4, (Option.some Jvm.ClassFile.FieldType.boolean), RX5, 3)
abbrev m_X5_channelOf : XM := (yX5_channelOf, cX5_channelOf, 3, (Option.some Jvm.ClassFile.FieldType.int), RX5, 1)
abbrev m_X5_cheapest : XM := (yX5_cheapest, cX5_cheapest, 8, (Option.some Jvm.ClassFile.FieldType.int), RX5, 2)
abbrev m_X5_asksOf : XM := (yX5_asksOf, cX5_asksOf, 4, (Option.some Jvm.ClassFile.FieldType.int), RX5, 1)
abbrev m_X5_findDisturbed : XM := (yX5_findDisturbed, cX5_findDisturbed, 5, (Option.none : Option Jvm.ClassFile.FieldType), RX5, 1)
abbrev m_X5_packAgain : XM := (yX5_packAgain, cX5_packAgain, 3, (Option.some Jvm.ClassFile.FieldType.boolean), RX5, 2)
abbrev m_X5_packFrom : XM := (yX5_packFrom, cX5_packFrom, 7, (Option.some Jvm.ClassFile.FieldType.boolean), RX5, 5)
abbrev m_X6_init : XM := (yX6_init, cX6_init, 1, (Option.none : Option Jvm.ClassFile.FieldType), RX6, 0)
abbrev m_X6_addRegion : XM := (yX6_addRegion, cX6_addRegion, 5, (Option.some Jvm.ClassFile.FieldType.int), RX6, 3)
abbrev m_X6_addBorder : XM := (yX6_addBorder, cX6_addBorder, 5, (Option.some Jvm.ClassFile.FieldType.int), RX6, 2)
abbrev m_X6_addBidder : XM := (yX6_addBidder, cX6_addBidder, 6, (Option.some Jvm.ClassFile.FieldType.int), RX6, 4)
abbrev m_X6_areNeighbours : XM := (yX6_areNeighbours, cX6_areNeighbours, 3, (Option.some Jvm.ClassFile.FieldType.boolean), RX6, 2)
abbrev m_X6_areAllies : XM := (yX6_areAllies, cX6_areAllies, 3, (Option.some Jvm.ClassFile.FieldType.boolean), RX6, 2)
abbrev m_X6_isCode : XM := (yX6_isCode, cX6_isCode, 4, (Option.some Jvm.ClassFile.FieldType.boolean), RX6, 1)
abbrev m_X6_mayOffer : XM := (yX6_mayOffer, cX6_mayOffer, 4, (Option.some Jvm.ClassFile.FieldType.boolean), RX6, 3)
abbrev m_X6_isWithinCap : XM := (yX6_isWithinCap, cX6_isWithinCap, 3, (Option.some Jvm.ClassFile.FieldType.boolean), RX6, 1)
abbrev m_X7_init : XM := (yX7_init, cX7_init, 1, (Option.none : Option Jvm.ClassFile.FieldType), RX7, 0)
abbrev m_X7_region : XM := (yX7_region, cX7_region, 5, (Option.some Jvm.ClassFile.FieldType.int), RX7, 3)
abbrev m_X7_border : XM := (yX7_border, cX7_border, 3, (Option.some Jvm.ClassFile.FieldType.int), RX7, 2)
abbrev m_X7_bidder : XM := (yX7_bidder, cX7_bidder, 6, (Option.some Jvm.ClassFile.FieldType.int), RX7, 4)
abbrev m_X7_rules : XM := (yX7_rules, cX7_rules, 4, (Option.some Jvm.ClassFile.FieldType.int), RX7, 2)
abbrev m_X7_step : XM := (yX7_step, cX7_step, 3, (Option.some Jvm.ClassFile.FieldType.int), RX7, 1)
abbrev m_X7_open : XM := (yX7_open, cX7_open, 1, (Option.some Jvm.ClassFile.FieldType.int), RX7, 0)
abbrev m_X7_wish : XM := (yX7_wish, cX7_wish, 4, (Option.some Jvm.ClassFile.FieldType.int), RX7, 3)
abbrev m_X7_waive : XM := (yX7_waive, cX7_waive, 2, (Option.some Jvm.ClassFile.FieldType.int), RX7, 1)
abbrev m_X7_close : XM := (yX7_close, cX7_close, 3, (Option.some Jvm.ClassFile.FieldType.int), RX7, 1)
abbrev m_X7_offer : XM := (yX7_offer, cX7_offer, 5, (Option.some Jvm.ClassFile.FieldType.int), RX7, 3)
abbrev m_X7_settle : XM := (yX7_settle, cX7_settle, 2, (Option.some Jvm.ClassFile.FieldType.int), RX7, 1)
abbrev m_X7_fail : XM := (yX7_fail, cX7_fail, 3, (Option.some Jvm.ClassFile.FieldType.int), RX7, 1)
abbrev m_X7_station : XM := (yX7_station, cX7_station, 3, (Option.some Jvm.ClassFile.FieldType.int), RX7, 2)
abbrev m_X7_ask : XM := (yX7_ask, cX7_ask, 4, (Option.some Jvm.ClassFile.FieldType.int), RX7, 2)
abbrev m_X7_packs : XM := (yX7_packs, cX7_packs, 3, (Option.some Jvm.ClassFile.FieldType.boolean), RX7, 2)
abbrev m_X7_channel : XM := (yX7_channel, cX7_channel, 4, (Option.some Jvm.ClassFile.FieldType.int), RX7, 3)
abbrev m_X7_clear : XM := (yX7_clear, cX7_clear, 2, (Option.some Jvm.ClassFile.FieldType.int), RX7, 1)
abbrev m_X7_ofRegion : XM := (yX7_ofRegion, cX7_ofRegion, 3, (Option.some Jvm.ClassFile.FieldType.int), RX7, 2)
abbrev m_X7_ofBidder : XM := (yX7_ofBidder, cX7_ofBidder, 3, (Option.some Jvm.ClassFile.FieldType.int), RX7, 2)
abbrev m_X7_wants : XM := (yX7_wants, cX7_wants, 4, (Option.some Jvm.ClassFile.FieldType.int), RX7, 3)
abbrev m_X7_priceIn : XM := (yX7_priceIn, cX7_priceIn, 3, (Option.some Jvm.ClassFile.FieldType.int), RX7, 2)
abbrev m_X7_codeIn : XM := (yX7_codeIn, cX7_codeIn, 4, (Option.some Jvm.ClassFile.FieldType.int), RX7, 3)
abbrev m_X7_ofPackage : XM := (yX7_ofPackage, cX7_ofPackage, 4, (Option.some Jvm.ClassFile.FieldType.int), RX7, 3)
abbrev m_X7_wins : XM := (yX7_wins, cX7_wins, 2, (Option.some Jvm.ClassFile.FieldType.int), RX7, 1)
abbrev m_X7_pays : XM := (yX7_pays, cX7_pays, 3, (Option.some Jvm.ClassFile.FieldType.int), RX7, 2)
abbrev m_X7_holder : XM := (yX7_holder, cX7_holder, 3, (Option.some Jvm.ClassFile.FieldType.int), RX7, 2)
abbrev m_X7_chart : XM := (yX7_chart, cX7_chart, 3, (Option.some (Jvm.ClassFile.FieldType.object "java/lang/String")), RX7, 1)
abbrev m_X7_sale : XM := (yX7_sale, cX7_sale, 2, (Option.some Jvm.ClassFile.FieldType.int), RX7, 1)
abbrev m_X7_worth : XM := (yX7_worth, cX7_worth, 2, (Option.some Jvm.ClassFile.FieldType.int), RX7, 1)
abbrev m_X7_wouldPay : XM := (yX7_wouldPay, cX7_wouldPay, 3, (Option.some Jvm.ClassFile.FieldType.int), RX7, 2)
abbrev m_X7_objects : XM := (yX7_objects, cX7_objects, 3, (Option.some Jvm.ClassFile.FieldType.int), RX7, 2)
abbrev m_X7_most : XM := (yX7_most, cX7_most, 3, (Option.some Jvm.ClassFile.FieldType.int), RX7, 2)
abbrev m_X7_contradicts : XM := (yX7_contradicts, cX7_contradicts, 2, (Option.some Jvm.ClassFile.FieldType.int), RX7, 1)
abbrev m_X7_anew : XM := (yX7_anew, cX7_anew, 5, (Option.some Jvm.ClassFile.FieldType.int), RX7, 4)
abbrev m_X7_knock : XM := (yX7_knock, cX7_knock, 1, (Option.some Jvm.ClassFile.FieldType.int), RX7, 0)
abbrev m_X7_isSound : XM := (yX7_isSound, cX7_isSound, 1, (Option.some Jvm.ClassFile.FieldType.boolean), RX7, 0)
abbrev m_X7_digest : XM := (yX7_digest, cX7_digest, 5, (Option.some Jvm.ClassFile.FieldType.long), RX7, 0)
abbrev m_X7_needBetween : XM := (yX7_needBetween, cX7_needBetween, 3, (Option.none : Option Jvm.ClassFile.FieldType), RX7, 3)
abbrev m_X7_needSet : XM := (yX7_needSet, cX7_needSet, 2, (Option.none : Option Jvm.ClassFile.FieldType), RX7, 2)
abbrev m_X7_needStage : XM := (yX7_needStage, cX7_needStage, 2, (Option.none : Option Jvm.ClassFile.FieldType), RX7, 1)
abbrev m_X7_needRegion : XM := (yX7_needRegion, cX7_needRegion, 2, (Option.none : Option Jvm.ClassFile.FieldType), RX7, 1)
abbrev m_X7_needBidder : XM := (yX7_needBidder, cX7_needBidder, 2, (Option.none : Option Jvm.ClassFile.FieldType), RX7, 1)
abbrev m_X7_needStation : XM := (yX7_needStation, cX7_needStation, 2, (Option.none : Option Jvm.ClassFile.FieldType), RX7, 1)
abbrev m_X7_needRound : XM := (yX7_needRound, cX7_needRound, 2, (Option.none : Option Jvm.ClassFile.FieldType), RX7, 1)
abbrev m_X7_endClock : XM := (yX7_endClock, cX7_endClock, 3, (Option.none : Option Jvm.ClassFile.FieldType), RX7, 0)
abbrev m_X7_paymentOf : XM := (yX7_paymentOf, cX7_paymentOf, 2, (Option.some Jvm.ClassFile.FieldType.int), RX7, 1)
abbrev m_X7_dueOf : XM := (yX7_dueOf, cX7_dueOf, 2, (Option.some Jvm.ClassFile.FieldType.int), RX7, 1)
abbrev m_X7_allDue : XM := (yX7_allDue, cX7_allDue, 3, (Option.some Jvm.ClassFile.FieldType.int), RX7, 0)
abbrev m_X7_roundNow : XM := (yX7_roundNow, cX7_roundNow, 1, (Option.some Jvm.ClassFile.FieldType.int), RX7, 0)
abbrev m_X7_regionFact : XM := (yX7_regionFact, cX7_regionFact, 3, (Option.some Jvm.ClassFile.FieldType.int), RX7, 2)
abbrev m_X7_bidderFact : XM := (yX7_bidderFact, cX7_bidderFact, 3, (Option.some Jvm.ClassFile.FieldType.int), RX7, 2)
abbrev m_X7_saleFact : XM := (yX7_saleFact, cX7_saleFact, 2, (Option.some Jvm.ClassFile.FieldType.int), RX7, 1)
abbrev m_X7_isClockSound : XM := (yX7_isClockSound, cX7_isClockSound, 2, (Option.some Jvm.ClassFile.FieldType.boolean), RX7, 0)
abbrev m_X7_isSettlementSound : XM := (yX7_isSettlementSound, cX7_isSettlementSound, 2, (Option.some Jvm.ClassFile.FieldType.boolean), RX7, 0)
abbrev m_X7_isReplaySame : XM := (yX7_isReplaySame, cX7_isReplaySame, 2, (Option.some Jvm.ClassFile.FieldType.boolean), RX7, 0)
abbrev m_X7_mixed : XM := (yX7_mixed, cX7_mixed, 4, (Option.some Jvm.ClassFile.FieldType.long), RX7, 2)
abbrev m_X7_withRegion : XM := (yX7_withRegion, cX7_withRegion, 8, (Option.some Jvm.ClassFile.FieldType.long), RX7, 3)
abbrev m_X7_withBidder : XM := (yX7_withBidder, cX7_withBidder, 7, (Option.some Jvm.ClassFile.FieldType.long), RX7, 2)
abbrev m_X7_withLastRound : XM := (yX7_withLastRound, cX7_withLastRound, 7, (Option.some Jvm.ClassFile.FieldType.long), RX7, 1)
abbrev m_X8_init : XM := (yX8_init, cX8_init, 1, (Option.none : Option Jvm.ClassFile.FieldType), RX8, 0)
abbrev m_X9_init : XM := (yX9_init, cX9_init, 1, (Option.none : Option Jvm.ClassFile.FieldType), RX9, 0)
abbrev m_X9_many : XM := (yX9_many, cX9_many, 1, (Option.some Jvm.ClassFile.FieldType.int), RX9, 0)
abbrev m_X9_code : XM := (yX9_code, cX9_code, 2, (Option.some Jvm.ClassFile.FieldType.int), RX9, 1)
abbrev m_X9_amount : XM := (yX9_amount, cX9_amount, 2, (Option.some Jvm.ClassFile.FieldType.int), RX9, 1)
abbrev m_X10_init : XM := (yX10_init, cX10_init, 4, (Option.none : Option Jvm.ClassFile.FieldType), RX10, 1)
abbrev m_X10_pick : XM := (yX10_pick, cX10_pick, 6, (Option.none : Option Jvm.ClassFile.FieldType), RX10, 3)
abbrev m_X10_canTake : XM := (yX10_canTake, cX10_canTake, 6, (Option.some Jvm.ClassFile.FieldType.boolean), RX10, 2)
abbrev m_X10_take : XM := (yX10_take, cX10_take, 6, (Option.none : Option Jvm.ClassFile.FieldType), RX10, 3)
abbrev m_X10_amount : XM := (yX10_amount, cX10_amount, 2, (Option.some Jvm.ClassFile.FieldType.int), RX10, 1)
abbrev m_X10_winners : XM := (yX10_winners, cX10_winners, 3, (Option.some Jvm.ClassFile.FieldType.int), RX10, 0)
abbrev m_X10_worth : XM := (yX10_worth, cX10_worth, 2, (Option.some Jvm.ClassFile.FieldType.int), RX10, 1)
abbrev m_X10_all : XM := (yX10_all, cX10_all, 1, (Option.some Jvm.ClassFile.FieldType.int), RX10, 0)
abbrev m_X10_objection : XM := (yX10_objection, cX10_objection, 5, (Option.some Jvm.ClassFile.FieldType.int), RX10, 2)
abbrev m_X10_payments : XM := (yX10_payments, cX10_payments, 5, (Option.some (Jvm.ClassFile.FieldType.array Jvm.ClassFile.FieldType.int)), RX10, 1)
abbrev m_X10_raise : XM := (yX10_raise, cX10_raise, 7, (Option.none : Option Jvm.ClassFile.FieldType), RX10, 3)
abbrev m_X11_init : XM := (yX11_init, cX11_init, 3, (Option.none : Option Jvm.ClassFile.FieldType), RX11, 1)
abbrev m_X11_heldIn : XM := (yX11_heldIn, cX11_heldIn, 4, (Option.some Jvm.ClassFile.FieldType.int), RX11, 1)
abbrev m_X11_wishedIn : XM := (yX11_wishedIn, cX11_wishedIn, 4, (Option.some Jvm.ClassFile.FieldType.int), RX11, 1)
abbrev m_X11_contradicts : XM := (yX11_contradicts, cX11_contradicts, 5, (Option.some Jvm.ClassFile.FieldType.int), RX11, 1)
abbrev m_X11_close : XM := (yX11_close, cX11_close, 5, (Option.none : Option Jvm.ClassFile.FieldType), RX11, 1)
abbrev m_X12_init : XM := (yX12_init, cX12_init, 1, (Option.none : Option Jvm.ClassFile.FieldType), RX12, 0)
abbrev m_X13_init : XM := (yX13_init, cX13_init, 1, (Option.none : Option Jvm.ClassFile.FieldType), RX13, 0)
abbrev m_X14_init : XM := (yX14_init, cX14_init, 1, (Option.none : Option Jvm.ClassFile.FieldType), RX14, 0)
abbrev m_X14_thrown : XM := (yX14_thrown, cX14_thrown, 1, (Option.some Jvm.ClassFile.FieldType.int), RX14, 0)
abbrev m_X14_refuse : XM := (yX14_refuse, cX14_refuse, 2, (Option.some Jvm.ClassFile.FieldType.int), RX14, 1)
abbrev m_X14_is : XM := (yX14_is, cX14_is, 3, (Option.some Jvm.ClassFile.FieldType.boolean), RX14, 3)
abbrev m_X14_codes : XM := (yX14_codes, cX14_codes, 0, (Option.some (Jvm.ClassFile.FieldType.array Jvm.ClassFile.FieldType.int)), RX14, 0)
abbrev m_X14_power : XM := (yX14_power, cX14_power, 3, (Option.some Jvm.ClassFile.FieldType.int), RX14, 1)
abbrev m_X14_of : XM := (yX14_of, cX14_of, 2, (Option.some Jvm.ClassFile.FieldType.int), RX14, 2)
abbrev m_X14_with : XM := (yX14_with, cX14_with, 3, (Option.some Jvm.ClassFile.FieldType.int), RX14, 3)
abbrev m_X14_points : XM := (yX14_points, cX14_points, 4, (Option.some Jvm.ClassFile.FieldType.int), RX14, 1)
abbrev m_X14_isRegion : XM := (yX14_isRegion, cX14_isRegion, 2, (Option.some Jvm.ClassFile.FieldType.boolean), RX14, 1)
abbrev m_X14_isBidder : XM := (yX14_isBidder, cX14_isBidder, 2, (Option.some Jvm.ClassFile.FieldType.boolean), RX14, 1)
abbrev m_X14_areStations : XM := (yX14_areStations, cX14_areStations, 2, (Option.some Jvm.ClassFile.FieldType.boolean), RX14, 1)
abbrev m_X14_areBidders : XM := (yX14_areBidders, cX14_areBidders, 2, (Option.some Jvm.ClassFile.FieldType.boolean), RX14, 1)
abbrev m_X14_region : XM := (yX14_region, cX14_region, 5, (Option.some Jvm.ClassFile.FieldType.int), RX14, 3)
abbrev m_X14_border : XM := (yX14_border, cX14_border, 6, (Option.some Jvm.ClassFile.FieldType.int), RX14, 2)
abbrev m_X14_bidder : XM := (yX14_bidder, cX14_bidder, 6, (Option.some Jvm.ClassFile.FieldType.int), RX14, 4)
abbrev m_X14_rules : XM := (yX14_rules, cX14_rules, 4, (Option.some Jvm.ClassFile.FieldType.int), RX14, 2)
abbrev m_X14_step : XM := (yX14_step, cX14_step, 3, (Option.some Jvm.ClassFile.FieldType.int), RX14, 1)
abbrev m_X14_open : XM := (yX14_open, cX14_open, 4, (Option.some Jvm.ClassFile.FieldType.int), RX14, 0)
abbrev m_X14_canWish : XM := (yX14_canWish, cX14_canWish, 8, (Option.some Jvm.ClassFile.FieldType.boolean), RX14, 3)
abbrev m_X14_wish : XM := (yX14_wish, cX14_wish, 4, (Option.some Jvm.ClassFile.FieldType.int), RX14, 3)
abbrev m_X14_waive : XM := (yX14_waive, cX14_waive, 2, (Option.some Jvm.ClassFile.FieldType.int), RX14, 1)
abbrev m_X14_close : XM := (yX14_close, cX14_close, 3, (Option.some Jvm.ClassFile.FieldType.int), RX14, 1)
abbrev m_X14_closeOne : XM := (yX14_closeOne, cX14_closeOne, 5, (Option.none : Option Jvm.ClassFile.FieldType), RX14, 0)
abbrev m_X14_addPackage : XM := (yX14_addPackage, cX14_addPackage, 3, (Option.none : Option Jvm.ClassFile.FieldType), RX14, 3)
abbrev m_X14_offer : XM := (yX14_offer, cX14_offer, 9, (Option.some Jvm.ClassFile.FieldType.int), RX14, 3)
abbrev m_X14_keep : XM := (yX14_keep, cX14_keep, 8, (Option.none : Option Jvm.ClassFile.FieldType), RX14, 0)
abbrev m_X14_holds : XM := (yX14_holds, cX14_holds, 8, (Option.some Jvm.ClassFile.FieldType.int), RX14, 3)
abbrev m_X14_clashes : XM := (yX14_clashes, cX14_clashes, 10, (Option.some Jvm.ClassFile.FieldType.int), RX14, 4)
abbrev m_X14_settle : XM := (yX14_settle, cX14_settle, 2, (Option.some Jvm.ClassFile.FieldType.int), RX14, 1)
abbrev m_X14_winnersKept : XM := (yX14_winnersKept, cX14_winnersKept, 3, (Option.some Jvm.ClassFile.FieldType.int), RX14, 0)
abbrev m_X14_fail : XM := (yX14_fail, cX14_fail, 3, (Option.some Jvm.ClassFile.FieldType.int), RX14, 1)
abbrev m_X14_station : XM := (yX14_station, cX14_station, 3, (Option.some Jvm.ClassFile.FieldType.int), RX14, 2)
abbrev m_X14_ask : XM := (yX14_ask, cX14_ask, 3, (Option.some Jvm.ClassFile.FieldType.int), RX14, 2)
abbrev m_X14_areDisturbing : XM := (yX14_areDisturbing, cX14_areDisturbing, 5, (Option.some Jvm.ClassFile.FieldType.boolean), RX14, 2)
abbrev m_X14_canPack : XM := (yX14_canPack, cX14_canPack, 7, (Option.some Jvm.ClassFile.FieldType.boolean), RX14, 3)
abbrev m_X14_isFree : XM := (yX14_isFree, cX14_isFree, 4, (Option.some Jvm.ClassFile.FieldType.boolean), RX14, 2)
abbrev m_X14_packs : XM := (yX14_packs, cX14_packs, 3, (Option.some Jvm.ClassFile.FieldType.boolean), RX14, 2)
abbrev m_X14_channel : XM := (yX14_channel, cX14_channel, 7, (Option.some Jvm.ClassFile.FieldType.int), RX14, 3)
abbrev m_X14_isFits : XM := (yX14_isFits, cX14_isFits, 6, (Option.some Jvm.ClassFile.FieldType.boolean), RX14, 4)
abbrev m_X14_clearNow : XM := (yX14_clearNow, cX14_clearNow, 9, (Option.some Jvm.ClassFile.FieldType.int), RX14, 1)
abbrev m_X14_clear : XM := (yX14_clear, cX14_clear, 2, (Option.some Jvm.ClassFile.FieldType.int), RX14, 1)
abbrev m_X14_ofRegionNow : XM := (yX14_ofRegionNow, cX14_ofRegionNow, 4, (Option.some Jvm.ClassFile.FieldType.int), RX14, 2)
abbrev m_X14_stationsIn : XM := (yX14_stationsIn, cX14_stationsIn, 4, (Option.some Jvm.ClassFile.FieldType.int), RX14, 1)
abbrev m_X14_ofRegion : XM := (yX14_ofRegion, cX14_ofRegion, 3, (Option.some Jvm.ClassFile.FieldType.int), RX14, 2)
abbrev m_X14_heldCode : XM := (yX14_heldCode, cX14_heldCode, 2, (Option.some Jvm.ClassFile.FieldType.int), RX14, 1)
abbrev m_X14_wishedCode : XM := (yX14_wishedCode, cX14_wishedCode, 2, (Option.some Jvm.ClassFile.FieldType.int), RX14, 1)
abbrev m_X14_ofBidderNow : XM := (yX14_ofBidderNow, cX14_ofBidderNow, 4, (Option.some Jvm.ClassFile.FieldType.int), RX14, 2)
abbrev m_X14_ofBidder : XM := (yX14_ofBidder, cX14_ofBidder, 3, (Option.some Jvm.ClassFile.FieldType.int), RX14, 2)
abbrev m_X14_wants : XM := (yX14_wants, cX14_wants, 4, (Option.some Jvm.ClassFile.FieldType.int), RX14, 3)
abbrev m_X14_isRound : XM := (yX14_isRound, cX14_isRound, 2, (Option.some Jvm.ClassFile.FieldType.boolean), RX14, 1)
abbrev m_X14_priceIn : XM := (yX14_priceIn, cX14_priceIn, 3, (Option.some Jvm.ClassFile.FieldType.int), RX14, 2)
abbrev m_X14_codeIn : XM := (yX14_codeIn, cX14_codeIn, 4, (Option.some Jvm.ClassFile.FieldType.int), RX14, 3)
abbrev m_X14_ofPackage : XM := (yX14_ofPackage, cX14_ofPackage, 4, (Option.some Jvm.ClassFile.FieldType.int), RX14, 3)
abbrev m_X14_winsNow : XM := (yX14_winsNow, cX14_winsNow, 3, (Option.some Jvm.ClassFile.FieldType.int), RX14, 2)
abbrev m_X14_wins : XM := (yX14_wins, cX14_wins, 2, (Option.some Jvm.ClassFile.FieldType.int), RX14, 1)
abbrev m_X14_due : XM := (yX14_due, cX14_due, 2, (Option.some Jvm.ClassFile.FieldType.int), RX14, 1)
abbrev m_X14_paid : XM := (yX14_paid, cX14_paid, 2, (Option.some Jvm.ClassFile.FieldType.int), RX14, 1)
abbrev m_X14_pays : XM := (yX14_pays, cX14_pays, 3, (Option.some Jvm.ClassFile.FieldType.int), RX14, 2)
abbrev m_X14_holderNow : XM := (yX14_holderNow, cX14_holderNow, 3, (Option.some Jvm.ClassFile.FieldType.int), RX14, 2)
abbrev m_X14_holder : XM := (yX14_holder, cX14_holder, 3, (Option.some Jvm.ClassFile.FieldType.int), RX14, 2)
abbrev m_X14_chartNow : XM := (yX14_chartNow, cX14_chartNow, 5, (Option.some (Jvm.ClassFile.FieldType.object "java/lang/String")), RX14, 1)
abbrev m_X14_chart : XM := (yX14_chart, cX14_chart, 2, (Option.some (Jvm.ClassFile.FieldType.object "java/lang/String")), RX14, 1)
abbrev m_X14_signals : XM := (yX14_signals, cX14_signals, 4, (Option.some Jvm.ClassFile.FieldType.int), RX14, 0)
abbrev m_X14_isSignal : XM := (yX14_isSignal, cX14_isSignal, 8, (Option.some Jvm.ClassFile.FieldType.boolean), RX14, 2)
abbrev m_X14_saleNow : XM := (yX14_saleNow, cX14_saleNow, 6, (Option.some Jvm.ClassFile.FieldType.int), RX14, 2)
abbrev m_X14_sale : XM := (yX14_sale, cX14_sale, 2, (Option.some Jvm.ClassFile.FieldType.int), RX14, 1)
abbrev m_X14_worth : XM := (yX14_worth, cX14_worth, 2, (Option.some Jvm.ClassFile.FieldType.int), RX14, 1)
abbrev m_X14_wouldPay : XM := (yX14_wouldPay, cX14_wouldPay, 3, (Option.some Jvm.ClassFile.FieldType.int), RX14, 2)
abbrev m_X14_objects : XM := (yX14_objects, cX14_objects, 4, (Option.some Jvm.ClassFile.FieldType.int), RX14, 2)
abbrev m_X14_most : XM := (yX14_most, cX14_most, 4, (Option.some Jvm.ClassFile.FieldType.int), RX14, 2)
abbrev m_X14_contradicts : XM := (yX14_contradicts, cX14_contradicts, 2, (Option.some Jvm.ClassFile.FieldType.int), RX14, 1)
abbrev m_X14_runAnew : XM := (yX14_runAnew, cX14_runAnew, 7, (Option.some (Jvm.ClassFile.FieldType.object "WavesaleModel$Clock")), RX14, 4)
abbrev m_X14_anew : XM := (yX14_anew, cX14_anew, 10, (Option.some Jvm.ClassFile.FieldType.int), RX14, 4)
abbrev m_X14_knock : XM := (yX14_knock, cX14_knock, 1, (Option.some Jvm.ClassFile.FieldType.int), RX14, 0)
abbrev m_X14_isSoundNow : XM := (yX14_isSoundNow, cX14_isSoundNow, 3, (Option.some Jvm.ClassFile.FieldType.boolean), RX14, 0)
abbrev m_X14_areNamed : XM := (yX14_areNamed, cX14_areNamed, 6, (Option.some Jvm.ClassFile.FieldType.boolean), RX14, 0)
abbrev m_X14_isLogged : XM := (yX14_isLogged, cX14_isLogged, 3, (Option.some Jvm.ClassFile.FieldType.boolean), RX14, 0)
abbrev m_X14_isSound : XM := (yX14_isSound, cX14_isSound, 1, (Option.some Jvm.ClassFile.FieldType.boolean), RX14, 0)
abbrev m_X14_add : XM := (yX14_add, cX14_add, 3, (Option.none : Option Jvm.ClassFile.FieldType), RX14, 1)
abbrev m_X14_digest : XM := (yX14_digest, cX14_digest, 6, (Option.some Jvm.ClassFile.FieldType.long), RX14, 0)
abbrev m_J5_init_d00df : XM := (yJ5_init_d00df, cJ5_init_d00df, 2, (Option.none : Option Jvm.ClassFile.FieldType), RJ5, 1)
abbrev m_J5_length_8abf5 : XM := (yJ5_length_8abf5, cJ5_length_8abf5, 1, (Option.some Jvm.ClassFile.FieldType.int), RJ5, 0)
abbrev m_J5_ensureCapacityInternal_d00df : XM := (yJ5_ensureCapacityInternal_d00df, cJ5_ensureCapacityInternal_d00df, 3, (Option.none : Option Jvm.ClassFile.FieldType), RJ5, 1)
abbrev m_J5_newCapacity_0f7a4 : XM := (yJ5_newCapacity_0f7a4, cJ5_newCapacity_0f7a4, 6, (Option.some Jvm.ClassFile.FieldType.int), RJ5, 1)
abbrev m_J5_inflate_da8c8 : XM := (yJ5_inflate_da8c8, cJ5_inflate_da8c8, 2, (Option.none : Option Jvm.ClassFile.FieldType), RJ5, 0)
abbrev m_J5_setLength_d00df : XM := (yJ5_setLength_d00df, cJ5_setLength_d00df, 2, (Option.none : Option Jvm.ClassFile.FieldType), RJ5, 1)
abbrev m_J5_append_cf1ce : XM := (yJ5_append_cf1ce, cJ5_append_cf1ce, 3, (Option.some (Jvm.ClassFile.FieldType.object "java/lang/AbstractStringBuilder")), RJ5, 1)
abbrev m_J5_appendNull_278bc : XM := (yJ5_appendNull_278bc, cJ5_appendNull_278bc, 3, (Option.some (Jvm.ClassFile.FieldType.object "java/lang/AbstractStringBuilder")), RJ5, 0)
abbrev m_J5_append_3fe6f : XM := (yJ5_append_3fe6f, cJ5_append_3fe6f, 2, (Option.some (Jvm.ClassFile.FieldType.object "java/lang/AbstractStringBuilder")), RJ5, 1)
abbrev m_J5_append_c97b9 : XM := (yJ5_append_c97b9, cJ5_append_c97b9, 4, (Option.some (Jvm.ClassFile.FieldType.object "java/lang/AbstractStringBuilder")), RJ5, 1)
abbrev m_J5_getValue_6d5f1 : XM := (yJ5_getValue_6d5f1, cJ5_getValue_6d5f1, 1, (Option.some (Jvm.ClassFile.FieldType.array Jvm.ClassFile.FieldType.byte)), RJ5, 0)
abbrev m_J5_isLatin1_aae02 : XM := (yJ5_isLatin1_aae02, cJ5_isLatin1_aae02, 1, (Option.some Jvm.ClassFile.FieldType.boolean), RJ5, 0)
abbrev m_J5_inflateIfNeededFor_a7421 : XM := (yJ5_inflateIfNeededFor_a7421, cJ5_inflateIfNeededFor_a7421, 2, (Option.none : Option Jvm.ClassFile.FieldType), RJ5, 1)
abbrev m_J5_putStringAt_47b60 : XM := (yJ5_putStringAt_47b60, cJ5_putStringAt_47b60, 3, (Option.none : Option Jvm.ClassFile.FieldType), RJ5, 2)
abbrev m_Jx00060_init_d00df : XM := (yJx00060_init_d00df, cJx00060_init_d00df, 2, (Option.none : Option Jvm.ClassFile.FieldType), RJx00060, 1)
abbrev m_J6_getChars_ba4f3 : XM := (yJ6_getChars_ba4f3, cJ6_getChars_ba4f3, 7, (Option.some Jvm.ClassFile.FieldType.int), RJ6, 3)
abbrev m_J6_stringSize_0f7a4 : XM := (yJ6_stringSize_0f7a4, cJ6_stringSize_0f7a4, 4, (Option.some Jvm.ClassFile.FieldType.int), RJ6, 1)
abbrev m_J6_valueOf_2dffe : XM := (yJ6_valueOf_2dffe, cJ6_valueOf_2dffe, 1, (Option.some (Jvm.ClassFile.FieldType.object "java/lang/Integer")), RJ6, 1)
abbrev m_J6_init_d00df : XM := (yJ6_init_d00df, cJ6_init_d00df, 2, (Option.none : Option Jvm.ClassFile.FieldType), RJ6, 1)
abbrev m_J6_intValue_8abf5 : XM := (yJ6_intValue_8abf5, cJ6_intValue_8abf5, 1, (Option.some Jvm.ClassFile.FieldType.int), RJ6, 0)
abbrev m_J6_bitCount_0f7a4 : XM := (yJ6_bitCount_0f7a4, cJ6_bitCount_0f7a4, 1, (Option.some Jvm.ClassFile.FieldType.int), RJ6, 1)
abbrev m_J9_max_7cf53 : XM := (yJ9_max_7cf53, cJ9_max_7cf53, 2, (Option.some Jvm.ClassFile.FieldType.int), RJ9, 2)
abbrev m_J9_min_7cf53 : XM := (yJ9_min_7cf53, cJ9_min_7cf53, 2, (Option.some Jvm.ClassFile.FieldType.int), RJ9, 2)
abbrev m_Jxd2413_init_da8c8 : XM := (yJxd2413_init_da8c8, cJxd2413_init_da8c8, 1, (Option.none : Option Jvm.ClassFile.FieldType), RJxd2413, 0)
abbrev m_J0_init_81219 : XM := (yJ0_init_81219, cJ0_init_81219, 2, (Option.none : Option Jvm.ClassFile.FieldType), RJ0, 1)
abbrev m_J0_length_8abf5 : XM := (yJ0_length_8abf5, cJ0_length_8abf5, 1, (Option.some Jvm.ClassFile.FieldType.int), RJ0, 0)
abbrev m_J0_equals_9ea2d : XM := (yJ0_equals_9ea2d, cJ0_equals_9ea2d, 3, (Option.some Jvm.ClassFile.FieldType.boolean), RJ0, 1)
abbrev m_J0_getBytes_840e7 : XM := (yJ0_getBytes_840e7, cJ0_getBytes_840e7, 4, (Option.none : Option Jvm.ClassFile.FieldType), RJ0, 3)
abbrev m_J0_init_db425 : XM := (yJ0_init_db425, cJ0_init_db425, 5, (Option.none : Option Jvm.ClassFile.FieldType), RJ0, 2)
abbrev m_J0_coder_7d493 : XM := (yJ0_coder_7d493, cJ0_coder_7d493, 1, (Option.some Jvm.ClassFile.FieldType.byte), RJ0, 0)
abbrev m_J0_checkIndex_df160 : XM := (yJ0_checkIndex_df160, cJ0_checkIndex_df160, 2, (Option.none : Option Jvm.ClassFile.FieldType), RJ0, 2)
abbrev m_J0_checkBoundsOffCount_cabcc : XM := (yJ0_checkBoundsOffCount_cabcc, cJ0_checkBoundsOffCount_cabcc, 3, (Option.some Jvm.ClassFile.FieldType.int), RJ0, 3)
abbrev m_J0_checkBoundsBeginEnd_23922 : XM := (yJ0_checkBoundsBeginEnd_23922, cJ0_checkBoundsBeginEnd_23922, 3, (Option.none : Option Jvm.ClassFile.FieldType), RJ0, 3)
abbrev m_J4_init_da8c8 : XM := (yJ4_init_da8c8, cJ4_init_da8c8, 1, (Option.none : Option Jvm.ClassFile.FieldType), RJ4, 0)
abbrev m_J4_append_15ec4 : XM := (yJ4_append_15ec4, cJ4_append_15ec4, 2, (Option.some (Jvm.ClassFile.FieldType.object "java/lang/StringBuilder")), RJ4, 1)
abbrev m_J4_append_cf468 : XM := (yJ4_append_cf468, cJ4_append_cf468, 2, (Option.some (Jvm.ClassFile.FieldType.object "java/lang/StringBuilder")), RJ4, 1)
abbrev m_J4_append_bf812 : XM := (yJ4_append_bf812, cJ4_append_bf812, 2, (Option.some (Jvm.ClassFile.FieldType.object "java/lang/StringBuilder")), RJ4, 1)
abbrev m_J4_toString_0e30d : XM := (yJ4_toString_0e30d, cJ4_toString_0e30d, 1, (Option.some (Jvm.ClassFile.FieldType.object "java/lang/String")), RJ4, 0)
abbrev m_J4_setLength_d00df : XM := (yJ4_setLength_d00df, cJ4_setLength_d00df, 2, (Option.none : Option Jvm.ClassFile.FieldType), RJ4, 1)
abbrev m_J4_length_8abf5 : XM := (yJ4_length_8abf5, cJ4_length_8abf5, 1, (Option.some Jvm.ClassFile.FieldType.int), RJ4, 0)
abbrev m_Jx7c733_init_d00df : XM := (yJx7c733_init_d00df, cJx7c733_init_d00df, 2, (Option.none : Option Jvm.ClassFile.FieldType), RJx7c733, 1)
abbrev m_J1_canEncode_fc78d : XM := (yJ1_canEncode_fc78d, cJ1_canEncode_fc78d, 1, (Option.some Jvm.ClassFile.FieldType.boolean), RJ1, 1)
abbrev m_J1_equals_b5fdf : XM := (yJ1_equals_b5fdf, cJ1_equals_b5fdf, 3, (Option.some Jvm.ClassFile.FieldType.boolean), RJ1, 2)
abbrev m_J1_fillNull_b72d1 : XM := (yJ1_fillNull_b72d1, cJ1_fillNull_b72d1, 3, (Option.none : Option Jvm.ClassFile.FieldType), RJ1, 3)
abbrev m_J1_inflate_0e8fd : XM := (yJ1_inflate_0e8fd, cJ1_inflate_0e8fd, 5, (Option.none : Option Jvm.ClassFile.FieldType), RJ1, 5)
abbrev m_J2_newBytesFor_77867 : XM := (yJ2_newBytesFor_77867, cJ2_newBytesFor_77867, 1, (Option.some (Jvm.ClassFile.FieldType.array Jvm.ClassFile.FieldType.byte)), RJ2, 1)
abbrev m_J2_newBytesLength_0f7a4 : XM := (yJ2_newBytesLength_0f7a4, cJ2_newBytesLength_0f7a4, 1, (Option.some Jvm.ClassFile.FieldType.int), RJ2, 1)
abbrev m_J2_putChar_b72d1 : XM := (yJ2_putChar_b72d1, cJ2_putChar_b72d1, 3, (Option.none : Option Jvm.ClassFile.FieldType), RJ2, 3)
abbrev m_J2_getChar_3b067 : XM := (yJ2_getChar_3b067, cJ2_getChar_3b067, 2, (Option.some Jvm.ClassFile.FieldType.char), RJ2, 2)
abbrev m_J2_length_9d52b : XM := (yJ2_length_9d52b, cJ2_length_9d52b, 1, (Option.some Jvm.ClassFile.FieldType.int), RJ2, 1)
abbrev m_J2_coderFromArrayLen_85cad : XM := (yJ2_coderFromArrayLen_85cad, cJ2_coderFromArrayLen_85cad, 2, (Option.some Jvm.ClassFile.FieldType.byte), RJ2, 2)
abbrev m_J2_compress_39247 : XM := (yJ2_compress_39247, cJ2_compress_39247, 6, (Option.some (Jvm.ClassFile.FieldType.array Jvm.ClassFile.FieldType.byte)), RJ2, 3)
abbrev m_J2_compress_5af95 : XM := (yJ2_compress_5af95, cJ2_compress_5af95, 7, (Option.some Jvm.ClassFile.FieldType.int), RJ2, 5)
abbrev m_J2_fillNull_b72d1 : XM := (yJ2_fillNull_b72d1, cJ2_fillNull_b72d1, 3, (Option.none : Option Jvm.ClassFile.FieldType), RJ2, 3)
abbrev m_J2_putCharSB_b72d1 : XM := (yJ2_putCharSB_b72d1, cJ2_putCharSB_b72d1, 3, (Option.none : Option Jvm.ClassFile.FieldType), RJ2, 3)
abbrev m_J2_getChars_46870 : XM := (yJ2_getChars_46870, cJ2_getChars_46870, 5, (Option.some Jvm.ClassFile.FieldType.int), RJ2, 4)
abbrev m_J2_putCharsAt_cd4e5 : XM := (yJ2_putCharsAt_cd4e5, cJ2_putCharsAt_cd4e5, 7, (Option.some Jvm.ClassFile.FieldType.int), RJ2, 6)
abbrev m_J2_inflate_0e8fd : XM := (yJ2_inflate_0e8fd, cJ2_inflate_0e8fd, 6, (Option.none : Option Jvm.ClassFile.FieldType), RJ2, 5)
abbrev m_J2_getChars_ba4f3 : XM := (yJ2_getChars_ba4f3, cJ2_getChars_ba4f3, 7, (Option.some Jvm.ClassFile.FieldType.int), RJ2, 3)
abbrev m_J2_checkIndex_2214a : XM := (yJ2_checkIndex_2214a, cJ2_checkIndex_2214a, 2, (Option.none : Option Jvm.ClassFile.FieldType), RJ2, 2)
abbrev m_J2_checkBoundsBeginEnd_d044e : XM := (yJ2_checkBoundsBeginEnd_d044e, cJ2_checkBoundsBeginEnd_d044e, 3, (Option.none : Option Jvm.ClassFile.FieldType), RJ2, 3)
abbrev m_J2_checkBoundsOffCount_d044e : XM := (yJ2_checkBoundsOffCount_d044e, cJ2_checkBoundsOffCount_d044e, 3, (Option.none : Option Jvm.ClassFile.FieldType), RJ2, 3)
abbrev m_Jxa1e45_init_da8c8 : XM := (yJxa1e45_init_da8c8, cJxa1e45_init_da8c8, 1, (Option.none : Option Jvm.ClassFile.FieldType), RJxa1e45, 0)
abbrev m_Jxc12de_init_da8c8 : XM := (yJxc12de_init_da8c8, cJxc12de_init_da8c8, 1, (Option.none : Option Jvm.ClassFile.FieldType), RJxc12de, 0)
abbrev m_Jx35411_init_45d68 : XM := (yJx35411_init_45d68, cJx35411_init_45d68, 2, (Option.none : Option Jvm.ClassFile.FieldType), RJx35411, 1)
abbrev m_Jx35411_hasNext_aae02 : XM := (yJx35411_hasNext_aae02, cJx35411_hasNext_aae02, 1, (Option.some Jvm.ClassFile.FieldType.boolean), RJx35411, 0)
abbrev m_Jx35411_next_0502b : XM := (yJx35411_next_0502b, cJx35411_next_0502b, 3, (Option.some (Jvm.ClassFile.FieldType.object "java/lang/Object")), RJx35411, 0)
abbrev m_Jx35411_checkForComodification_da8c8 : XM := (yJx35411_checkForComodification_da8c8, cJx35411_checkForComodification_da8c8, 1, (Option.none : Option Jvm.ClassFile.FieldType), RJx35411, 0)
abbrev m_Jx4a65c_init_da8c8 : XM := (yJx4a65c_init_da8c8, cJx4a65c_init_da8c8, 1, (Option.none : Option Jvm.ClassFile.FieldType), RJx4a65c, 0)
abbrev m_Jx4a65c_grow_92f84 : XM := (yJx4a65c_grow_92f84, cJx4a65c_grow_92f84, 4, (Option.some (Jvm.ClassFile.FieldType.array (Jvm.ClassFile.FieldType.object "java/lang/Object"))), RJx4a65c, 1)
abbrev m_Jx4a65c_grow_d5877 : XM := (yJx4a65c_grow_d5877, cJx4a65c_grow_d5877, 1, (Option.some (Jvm.ClassFile.FieldType.array (Jvm.ClassFile.FieldType.object "java/lang/Object"))), RJx4a65c, 0)
abbrev m_Jx4a65c_size_8abf5 : XM := (yJx4a65c_size_8abf5, cJx4a65c_size_8abf5, 1, (Option.some Jvm.ClassFile.FieldType.int), RJx4a65c, 0)
abbrev m_Jx4a65c_isEmpty_aae02 : XM := (yJx4a65c_isEmpty_aae02, cJx4a65c_isEmpty_aae02, 1, (Option.some Jvm.ClassFile.FieldType.boolean), RJx4a65c, 0)
abbrev m_Jx4a65c_elementData_915e3 : XM := (yJx4a65c_elementData_915e3, cJx4a65c_elementData_915e3, 2, (Option.some (Jvm.ClassFile.FieldType.object "java/lang/Object")), RJx4a65c, 1)
abbrev m_Jx4a65c_get_915e3 : XM := (yJx4a65c_get_915e3, cJx4a65c_get_915e3, 2, (Option.some (Jvm.ClassFile.FieldType.object "java/lang/Object")), RJx4a65c, 1)
abbrev m_Jx4a65c_set_bcc79 : XM := (yJx4a65c_set_bcc79, cJx4a65c_set_bcc79, 4, (Option.some (Jvm.ClassFile.FieldType.object "java/lang/Object")), RJx4a65c, 2)
abbrev m_Jx4a65c_add_72be8 : XM := (yJx4a65c_add_72be8, cJx4a65c_add_72be8, 4, (Option.none : Option Jvm.ClassFile.FieldType), RJx4a65c, 3)
abbrev m_Jx4a65c_add_9ea2d : XM := (yJx4a65c_add_9ea2d, cJx4a65c_add_9ea2d, 2, (Option.some Jvm.ClassFile.FieldType.boolean), RJx4a65c, 1)
abbrev m_Jx4a65c_iterator_32c93 : XM := (yJx4a65c_iterator_32c93, cJx4a65c_iterator_32c93, 1, (Option.some (Jvm.ClassFile.FieldType.object "java/util/Iterator")), RJx4a65c, 0)
abbrev m_J7_rangeCheck_23922 : XM := (yJ7_rangeCheck_23922, cJ7_rangeCheck_23922, 3, (Option.none : Option Jvm.ClassFile.FieldType), RJ7, 3)
abbrev m_J7_fill_53178 : XM := (yJ7_fill_53178, cJ7_fill_53178, 4, (Option.none : Option Jvm.ClassFile.FieldType), RJ7, 2)
abbrev m_J7_fill_eb02e : XM := (yJ7_fill_eb02e, cJ7_fill_eb02e, 5, (Option.none : Option Jvm.ClassFile.FieldType), RJ7, 4)
abbrev m_J7_copyOf_1904c : XM := (yJ7_copyOf_1904c, cJ7_copyOf_1904c, 2, (Option.some (Jvm.ClassFile.FieldType.array (Jvm.ClassFile.FieldType.object "java/lang/Object"))), RJ7, 2)
abbrev m_J7_copyOf_6403c : XM := (yJ7_copyOf_6403c, cJ7_copyOf_6403c, 4, (Option.some (Jvm.ClassFile.FieldType.array (Jvm.ClassFile.FieldType.object "java/lang/Object"))), RJ7, 3)
abbrev m_J7_copyOf_9075b : XM := (yJ7_copyOf_9075b, cJ7_copyOf_9075b, 3, (Option.some (Jvm.ClassFile.FieldType.array Jvm.ClassFile.FieldType.byte)), RJ7, 2)
abbrev m_J7_checkLength_df160 : XM := (yJ7_checkLength_df160, cJ7_checkLength_df160, 2, (Option.none : Option Jvm.ClassFile.FieldType), RJ7, 2)
abbrev m_J7_copyOfRange_39247 : XM := (yJ7_copyOfRange_39247, cJ7_copyOfRange_39247, 3, (Option.some (Jvm.ClassFile.FieldType.array Jvm.ClassFile.FieldType.byte)), RJ7, 3)
abbrev m_J7_copyOfRangeByte_39247 : XM := (yJ7_copyOfRangeByte_39247, cJ7_copyOfRangeByte_39247, 5, (Option.some (Jvm.ClassFile.FieldType.array Jvm.ClassFile.FieldType.byte)), RJ7, 3)
abbrev m_J15_checkIndex_7cf53 : XM := (yJ15_checkIndex_7cf53, cJ15_checkIndex_7cf53, 2, (Option.some Jvm.ClassFile.FieldType.int), RJ15, 2)
abbrev m_J8_newLength_cabcc : XM := (yJ8_newLength_cabcc, cJ8_newLength_cabcc, 4, (Option.some Jvm.ClassFile.FieldType.int), RJ8, 3)
abbrev m_J8_hugeLength_7cf53 : XM := (yJ8_hugeLength_7cf53, cJ8_hugeLength_7cf53, 3, (Option.some Jvm.ClassFile.FieldType.int), RJ8, 2)
abbrev m_J3_checkIndex_8e157 : XM := (yJ3_checkIndex_8e157, cJ3_checkIndex_8e157, 3, (Option.some Jvm.ClassFile.FieldType.int), RJ3, 3)
abbrev m_J3_checkFromToIndex_8c36e : XM := (yJ3_checkFromToIndex_8c36e, cJ3_checkFromToIndex_8c36e, 4, (Option.some Jvm.ClassFile.FieldType.int), RJ3, 4)
abbrev m_J3_checkFromIndexSize_8c36e : XM := (yJ3_checkFromIndexSize_8c36e, cJ3_checkFromIndexSize_8c36e, 4, (Option.some Jvm.ClassFile.FieldType.int), RJ3, 4)
abbrev m_L_region : XM := (yL_region, cL_region, 6, (Option.some Jvm.ClassFile.FieldType.int), RL, 5)
abbrev m_L_border : XM := (yL_border, cL_border, 5, (Option.some Jvm.ClassFile.FieldType.int), RL, 4)
abbrev m_L_bidder : XM := (yL_bidder, cL_bidder, 7, (Option.some Jvm.ClassFile.FieldType.int), RL, 6)
abbrev m_L_rules : XM := (yL_rules, cL_rules, 5, (Option.some Jvm.ClassFile.FieldType.int), RL, 4)
abbrev m_L_step : XM := (yL_step, cL_step, 4, (Option.some Jvm.ClassFile.FieldType.int), RL, 3)
abbrev m_L_open : XM := (yL_open, cL_open, 3, (Option.some Jvm.ClassFile.FieldType.int), RL, 2)
abbrev m_L_wish : XM := (yL_wish, cL_wish, 6, (Option.some Jvm.ClassFile.FieldType.int), RL, 5)
abbrev m_L_waive : XM := (yL_waive, cL_waive, 4, (Option.some Jvm.ClassFile.FieldType.int), RL, 3)
abbrev m_L_close : XM := (yL_close, cL_close, 4, (Option.some Jvm.ClassFile.FieldType.int), RL, 3)
abbrev m_L_offer : XM := (yL_offer, cL_offer, 6, (Option.some Jvm.ClassFile.FieldType.int), RL, 5)
abbrev m_L_settle : XM := (yL_settle, cL_settle, 4, (Option.some Jvm.ClassFile.FieldType.int), RL, 3)
abbrev m_L_fail : XM := (yL_fail, cL_fail, 4, (Option.some Jvm.ClassFile.FieldType.int), RL, 3)
abbrev m_L_station : XM := (yL_station, cL_station, 5, (Option.some Jvm.ClassFile.FieldType.int), RL, 4)
abbrev m_L_ask : XM := (yL_ask, cL_ask, 5, (Option.some Jvm.ClassFile.FieldType.int), RL, 4)
abbrev m_L_packs : XM := (yL_packs, cL_packs, 5, (Option.some Jvm.ClassFile.FieldType.int), RL, 4)
abbrev m_L_channel : XM := (yL_channel, cL_channel, 6, (Option.some Jvm.ClassFile.FieldType.int), RL, 5)
abbrev m_L_clear : XM := (yL_clear, cL_clear, 4, (Option.some Jvm.ClassFile.FieldType.int), RL, 3)
abbrev m_L_ofRegion : XM := (yL_ofRegion, cL_ofRegion, 5, (Option.some Jvm.ClassFile.FieldType.int), RL, 4)
abbrev m_L_ofBidder : XM := (yL_ofBidder, cL_ofBidder, 5, (Option.some Jvm.ClassFile.FieldType.int), RL, 4)
abbrev m_L_wants : XM := (yL_wants, cL_wants, 6, (Option.some Jvm.ClassFile.FieldType.int), RL, 5)
abbrev m_L_priceIn : XM := (yL_priceIn, cL_priceIn, 5, (Option.some Jvm.ClassFile.FieldType.int), RL, 4)
abbrev m_L_codeIn : XM := (yL_codeIn, cL_codeIn, 6, (Option.some Jvm.ClassFile.FieldType.int), RL, 5)
abbrev m_L_ofPackage : XM := (yL_ofPackage, cL_ofPackage, 6, (Option.some Jvm.ClassFile.FieldType.int), RL, 5)
abbrev m_L_wins : XM := (yL_wins, cL_wins, 4, (Option.some Jvm.ClassFile.FieldType.int), RL, 3)
abbrev m_L_pays : XM := (yL_pays, cL_pays, 5, (Option.some Jvm.ClassFile.FieldType.int), RL, 4)
abbrev m_L_holder : XM := (yL_holder, cL_holder, 5, (Option.some Jvm.ClassFile.FieldType.int), RL, 4)
abbrev m_L_chart : XM := (yL_chart, cL_chart, 4, (Option.some Jvm.ClassFile.FieldType.int), RL, 3)
abbrev m_L_sale : XM := (yL_sale, cL_sale, 4, (Option.some Jvm.ClassFile.FieldType.int), RL, 3)
abbrev m_L_worth : XM := (yL_worth, cL_worth, 4, (Option.some Jvm.ClassFile.FieldType.int), RL, 3)
abbrev m_L_wouldPay : XM := (yL_wouldPay, cL_wouldPay, 5, (Option.some Jvm.ClassFile.FieldType.int), RL, 4)
abbrev m_L_objects : XM := (yL_objects, cL_objects, 5, (Option.some Jvm.ClassFile.FieldType.int), RL, 4)
abbrev m_L_most : XM := (yL_most, cL_most, 5, (Option.some Jvm.ClassFile.FieldType.int), RL, 4)
abbrev m_L_contradicts : XM := (yL_contradicts, cL_contradicts, 4, (Option.some Jvm.ClassFile.FieldType.int), RL, 3)
abbrev m_L_anew : XM := (yL_anew, cL_anew, 7, (Option.some Jvm.ClassFile.FieldType.int), RL, 6)
theorem xx_nc0 : RX0 ≠ "java/lang/invoke/MethodHandle" ∧ RX0 ≠ "java/lang/invoke/VarHandle" := ⟨by decide +kernel, by decide +kernel⟩
theorem xx_pd0 : (parseMethodDescriptor "(II)I").map (fun d => d.parameters.length) = some 2 := by decide +kernel
theorem xx_pd1 : (parseMethodDescriptor "(III)I").map (fun d => d.parameters.length) = some 3 := by decide +kernel
theorem xx_pd2 : (parseMethodDescriptor "(I[I)I").map (fun d => d.parameters.length) = some 2 := by decide +kernel
theorem xx_pd3 : (parseMethodDescriptor "([II)I").map (fun d => d.parameters.length) = some 2 := by decide +kernel
theorem xx_pd4 : (parseMethodDescriptor "(I[I)Z").map (fun d => d.parameters.length) = some 2 := by decide +kernel
theorem xx_pd5 : (parseMethodDescriptor "(II[I[I)I").map (fun d => d.parameters.length) = some 4 := by decide +kernel
theorem xx_nc1 : RX1 ≠ "java/lang/invoke/MethodHandle" ∧ RX1 ≠ "java/lang/invoke/VarHandle" := ⟨by decide +kernel, by decide +kernel⟩
theorem xx_pd6 : (parseMethodDescriptor "()V").map (fun d => d.parameters.length) = some 0 := by decide +kernel
theorem xx_pd7 : (parseMethodDescriptor "(LWavesale$Terms;)V").map (fun d => d.parameters.length) = some 1 := by decide +kernel
theorem xx_pd8 : (parseMethodDescriptor "(LWavesale$Terms;III)Z").map (fun d => d.parameters.length) = some 4 := by decide +kernel
theorem xx_pd9 : (parseMethodDescriptor "(LWavesale$Terms;II)I").map (fun d => d.parameters.length) = some 3 := by decide +kernel
theorem xx_pd10 : (parseMethodDescriptor "(I)Z").map (fun d => d.parameters.length) = some 1 := by decide +kernel
theorem xx_pd11 : (parseMethodDescriptor "(I)V").map (fun d => d.parameters.length) = some 1 := by decide +kernel
theorem xx_pd12 : (parseMethodDescriptor "(LWavesale$Terms;I)Z").map (fun d => d.parameters.length) = some 2 := by decide +kernel
theorem xx_pd13 : (parseMethodDescriptor "(I)I").map (fun d => d.parameters.length) = some 1 := by decide +kernel
theorem xx_pd14 : (parseMethodDescriptor "(LWavesale$Terms;I)V").map (fun d => d.parameters.length) = some 2 := by decide +kernel
theorem xx_pd15 : (parseMethodDescriptor "(LWavesale$Terms;LWavesale$Clock;IIII)V").map (fun d => d.parameters.length) = some 6 := by decide +kernel
theorem xx_pd16 : (parseMethodDescriptor "()I").map (fun d => d.parameters.length) = some 0 := by decide +kernel
theorem xx_nc2 : RX2 ≠ "java/lang/invoke/MethodHandle" ∧ RX2 ≠ "java/lang/invoke/VarHandle" := ⟨by decide +kernel, by decide +kernel⟩
theorem xx_pd17 : (parseMethodDescriptor "(LWavesale$Terms;III)V").map (fun d => d.parameters.length) = some 4 := by decide +kernel
theorem xx_pd18 : (parseMethodDescriptor "(LWavesale$Market;LWavesale$Terms;IIII)V").map (fun d => d.parameters.length) = some 6 := by decide +kernel
theorem xx_pd19 : (parseMethodDescriptor "(LWavesale$Terms;II)Z").map (fun d => d.parameters.length) = some 3 := by decide +kernel
theorem xx_pd20 : (parseMethodDescriptor "(LWavesale$Terms;II)V").map (fun d => d.parameters.length) = some 3 := by decide +kernel
theorem xx_pd21 : (parseMethodDescriptor "(II)V").map (fun d => d.parameters.length) = some 2 := by decide +kernel
theorem xx_pd22 : (parseMethodDescriptor "([I[I)Z").map (fun d => d.parameters.length) = some 2 := by decide +kernel
theorem xx_pd23 : (parseMethodDescriptor "(LWavesale$Terms;)I").map (fun d => d.parameters.length) = some 1 := by decide +kernel
theorem xx_pd24 : (parseMethodDescriptor "(II)Z").map (fun d => d.parameters.length) = some 2 := by decide +kernel
theorem xx_nc3 : RX3 ≠ "java/lang/invoke/MethodHandle" ∧ RX3 ≠ "java/lang/invoke/VarHandle" := ⟨by decide +kernel, by decide +kernel⟩
theorem xx_pd25 : (parseMethodDescriptor "(LWavesale$Terms;LWavesale$Market;)V").map (fun d => d.parameters.length) = some 2 := by decide +kernel
theorem xx_pd26 : (parseMethodDescriptor "(LWavesale$Terms;LWavesale$Market;II)V").map (fun d => d.parameters.length) = some 4 := by decide +kernel
theorem xx_pd27 : (parseMethodDescriptor "(LWavesale$Terms;I)I").map (fun d => d.parameters.length) = some 2 := by decide +kernel
theorem xx_pd28 : (parseMethodDescriptor "([I[I)I").map (fun d => d.parameters.length) = some 2 := by decide +kernel
theorem xx_pd29 : (parseMethodDescriptor "(LWavesale$Terms;ILjava/lang/StringBuilder;)V").map (fun d => d.parameters.length) = some 3 := by decide +kernel
theorem xx_pd30 : (parseMethodDescriptor "(LWavesale$Terms;LWavesale$Market;)Z").map (fun d => d.parameters.length) = some 2 := by decide +kernel
theorem xx_nc4 : RX4 ≠ "java/lang/invoke/MethodHandle" ∧ RX4 ≠ "java/lang/invoke/VarHandle" := ⟨by decide +kernel, by decide +kernel⟩
theorem xx_pd31 : (parseMethodDescriptor "(LWavesale$Market;)V").map (fun d => d.parameters.length) = some 1 := by decide +kernel
theorem xx_pd32 : (parseMethodDescriptor "(LWavesale$Market;I)I").map (fun d => d.parameters.length) = some 2 := by decide +kernel
theorem xx_pd33 : (parseMethodDescriptor "(LWavesale$Market;II)I").map (fun d => d.parameters.length) = some 3 := by decide +kernel
theorem xx_pd34 : (parseMethodDescriptor "(LWavesale$Market;)I").map (fun d => d.parameters.length) = some 1 := by decide +kernel
theorem xx_nc5 : RX5 ≠ "java/lang/invoke/MethodHandle" ∧ RX5 ≠ "java/lang/invoke/VarHandle" := ⟨by decide +kernel, by decide +kernel⟩
theorem xx_pd35 : (parseMethodDescriptor "(LWavesale$Stations;IIII)Z").map (fun d => d.parameters.length) = some 5 := by decide +kernel
theorem xx_nc6 : RX6 ≠ "java/lang/invoke/MethodHandle" ∧ RX6 ≠ "java/lang/invoke/VarHandle" := ⟨by decide +kernel, by decide +kernel⟩
theorem xx_pd36 : (parseMethodDescriptor "(IIII)I").map (fun d => d.parameters.length) = some 4 := by decide +kernel
theorem xx_pd37 : (parseMethodDescriptor "(III)Z").map (fun d => d.parameters.length) = some 3 := by decide +kernel
theorem xx_nc7 : RX7 ≠ "java/lang/invoke/MethodHandle" ∧ RX7 ≠ "java/lang/invoke/VarHandle" := ⟨by decide +kernel, by decide +kernel⟩
theorem xx_pd38 : (parseMethodDescriptor "(IZ)I").map (fun d => d.parameters.length) = some 2 := by decide +kernel
theorem xx_pd39 : (parseMethodDescriptor "(IIZ)I").map (fun d => d.parameters.length) = some 3 := by decide +kernel
theorem xx_pd40 : (parseMethodDescriptor "(I)Ljava/lang/String;").map (fun d => d.parameters.length) = some 1 := by decide +kernel
theorem xx_pd41 : (parseMethodDescriptor "()Z").map (fun d => d.parameters.length) = some 0 := by decide +kernel
theorem xx_pd42 : (parseMethodDescriptor "()J").map (fun d => d.parameters.length) = some 0 := by decide +kernel
theorem xx_pd43 : (parseMethodDescriptor "(III)V").map (fun d => d.parameters.length) = some 3 := by decide +kernel
theorem xx_pd44 : (parseMethodDescriptor "(JJ)J").map (fun d => d.parameters.length) = some 2 := by decide +kernel
theorem xx_pd45 : (parseMethodDescriptor "(JILjava/lang/StringBuilder;)J").map (fun d => d.parameters.length) = some 3 := by decide +kernel
theorem xx_pd46 : (parseMethodDescriptor "(JI)J").map (fun d => d.parameters.length) = some 2 := by decide +kernel
theorem xx_pd47 : (parseMethodDescriptor "(J)J").map (fun d => d.parameters.length) = some 1 := by decide +kernel
theorem xx_nc8 : RX8 ≠ "java/lang/invoke/MethodHandle" ∧ RX8 ≠ "java/lang/invoke/VarHandle" := ⟨by decide +kernel, by decide +kernel⟩
theorem xx_nc9 : RX9 ≠ "java/lang/invoke/MethodHandle" ∧ RX9 ≠ "java/lang/invoke/VarHandle" := ⟨by decide +kernel, by decide +kernel⟩
theorem xx_nc10 : RX10 ≠ "java/lang/invoke/MethodHandle" ∧ RX10 ≠ "java/lang/invoke/VarHandle" := ⟨by decide +kernel, by decide +kernel⟩
theorem xx_pd48 : (parseMethodDescriptor "(LWavesaleModel;)V").map (fun d => d.parameters.length) = some 1 := by decide +kernel
theorem xx_pd49 : (parseMethodDescriptor "(LWavesaleModel$Bidder;I)Z").map (fun d => d.parameters.length) = some 2 := by decide +kernel
theorem xx_pd50 : (parseMethodDescriptor "(LWavesaleModel$Bidder;II)V").map (fun d => d.parameters.length) = some 3 := by decide +kernel
theorem xx_pd51 : (parseMethodDescriptor "(I)[I").map (fun d => d.parameters.length) = some 1 := by decide +kernel
theorem xx_pd52 : (parseMethodDescriptor "(II[I)V").map (fun d => d.parameters.length) = some 3 := by decide +kernel
theorem xx_nc11 : RX11 ≠ "java/lang/invoke/MethodHandle" ∧ RX11 ≠ "java/lang/invoke/VarHandle" := ⟨by decide +kernel, by decide +kernel⟩
theorem xx_nc12 : RX12 ≠ "java/lang/invoke/MethodHandle" ∧ RX12 ≠ "java/lang/invoke/VarHandle" := ⟨by decide +kernel, by decide +kernel⟩
theorem xx_nc13 : RX13 ≠ "java/lang/invoke/MethodHandle" ∧ RX13 ≠ "java/lang/invoke/VarHandle" := ⟨by decide +kernel, by decide +kernel⟩
theorem xx_nc14 : RX14 ≠ "java/lang/invoke/MethodHandle" ∧ RX14 ≠ "java/lang/invoke/VarHandle" := ⟨by decide +kernel, by decide +kernel⟩
theorem xx_pd53 : (parseMethodDescriptor "()[I").map (fun d => d.parameters.length) = some 0 := by decide +kernel
theorem xx_pd54 : (parseMethodDescriptor "(II[I)Z").map (fun d => d.parameters.length) = some 3 := by decide +kernel
theorem xx_pd55 : (parseMethodDescriptor "(III[I)Z").map (fun d => d.parameters.length) = some 4 := by decide +kernel
theorem xx_pd56 : (parseMethodDescriptor "(ILWavesaleModel$Choice;)I").map (fun d => d.parameters.length) = some 2 := by decide +kernel
theorem xx_pd57 : (parseMethodDescriptor "(IIII)LWavesaleModel$Clock;").map (fun d => d.parameters.length) = some 4 := by decide +kernel
theorem xx_pd58 : (parseMethodDescriptor "(J)V").map (fun d => d.parameters.length) = some 1 := by decide +kernel
theorem xx_nc15 : RJ5 ≠ "java/lang/invoke/MethodHandle" ∧ RJ5 ≠ "java/lang/invoke/VarHandle" := ⟨by decide +kernel, by decide +kernel⟩
theorem xx_pd59 : (parseMethodDescriptor "(Ljava/lang/String;)Ljava/lang/AbstractStringBuilder;").map (fun d => d.parameters.length) = some 1 := by decide +kernel
theorem xx_pd60 : (parseMethodDescriptor "()Ljava/lang/AbstractStringBuilder;").map (fun d => d.parameters.length) = some 0 := by decide +kernel
theorem xx_pd61 : (parseMethodDescriptor "(C)Ljava/lang/AbstractStringBuilder;").map (fun d => d.parameters.length) = some 1 := by decide +kernel
theorem xx_pd62 : (parseMethodDescriptor "(I)Ljava/lang/AbstractStringBuilder;").map (fun d => d.parameters.length) = some 1 := by decide +kernel
theorem xx_pd63 : (parseMethodDescriptor "()[B").map (fun d => d.parameters.length) = some 0 := by decide +kernel
theorem xx_pd64 : (parseMethodDescriptor "(Ljava/lang/String;)V").map (fun d => d.parameters.length) = some 1 := by decide +kernel
theorem xx_pd65 : (parseMethodDescriptor "(ILjava/lang/String;)V").map (fun d => d.parameters.length) = some 2 := by decide +kernel
theorem xx_nc16 : RJx00060 ≠ "java/lang/invoke/MethodHandle" ∧ RJx00060 ≠ "java/lang/invoke/VarHandle" := ⟨by decide +kernel, by decide +kernel⟩
theorem xx_nc17 : RJ6 ≠ "java/lang/invoke/MethodHandle" ∧ RJ6 ≠ "java/lang/invoke/VarHandle" := ⟨by decide +kernel, by decide +kernel⟩
theorem xx_pd66 : (parseMethodDescriptor "(II[B)I").map (fun d => d.parameters.length) = some 3 := by decide +kernel
theorem xx_pd67 : (parseMethodDescriptor "(I)Ljava/lang/Integer;").map (fun d => d.parameters.length) = some 1 := by decide +kernel
theorem xx_nc18 : RJ9 ≠ "java/lang/invoke/MethodHandle" ∧ RJ9 ≠ "java/lang/invoke/VarHandle" := ⟨by decide +kernel, by decide +kernel⟩
theorem xx_nc19 : RJxd2413 ≠ "java/lang/invoke/MethodHandle" ∧ RJxd2413 ≠ "java/lang/invoke/VarHandle" := ⟨by decide +kernel, by decide +kernel⟩
theorem xx_nc20 : RJ0 ≠ "java/lang/invoke/MethodHandle" ∧ RJ0 ≠ "java/lang/invoke/VarHandle" := ⟨by decide +kernel, by decide +kernel⟩
theorem xx_pd68 : (parseMethodDescriptor "(Ljava/lang/StringBuilder;)V").map (fun d => d.parameters.length) = some 1 := by decide +kernel
theorem xx_pd69 : (parseMethodDescriptor "(Ljava/lang/Object;)Z").map (fun d => d.parameters.length) = some 1 := by decide +kernel
theorem xx_pd70 : (parseMethodDescriptor "([BIB)V").map (fun d => d.parameters.length) = some 3 := by decide +kernel
theorem xx_pd71 : (parseMethodDescriptor "(Ljava/lang/AbstractStringBuilder;Ljava/lang/Void;)V").map (fun d => d.parameters.length) = some 2 := by decide +kernel
theorem xx_pd72 : (parseMethodDescriptor "()B").map (fun d => d.parameters.length) = some 0 := by decide +kernel
theorem xx_nc21 : RJ4 ≠ "java/lang/invoke/MethodHandle" ∧ RJ4 ≠ "java/lang/invoke/VarHandle" := ⟨by decide +kernel, by decide +kernel⟩
theorem xx_pd73 : (parseMethodDescriptor "(Ljava/lang/String;)Ljava/lang/StringBuilder;").map (fun d => d.parameters.length) = some 1 := by decide +kernel
theorem xx_pd74 : (parseMethodDescriptor "(C)Ljava/lang/StringBuilder;").map (fun d => d.parameters.length) = some 1 := by decide +kernel
theorem xx_pd75 : (parseMethodDescriptor "(I)Ljava/lang/StringBuilder;").map (fun d => d.parameters.length) = some 1 := by decide +kernel
theorem xx_pd76 : (parseMethodDescriptor "()Ljava/lang/String;").map (fun d => d.parameters.length) = some 0 := by decide +kernel
theorem xx_nc22 : RJx7c733 ≠ "java/lang/invoke/MethodHandle" ∧ RJx7c733 ≠ "java/lang/invoke/VarHandle" := ⟨by decide +kernel, by decide +kernel⟩
theorem xx_nc23 : RJ1 ≠ "java/lang/invoke/MethodHandle" ∧ RJ1 ≠ "java/lang/invoke/VarHandle" := ⟨by decide +kernel, by decide +kernel⟩
theorem xx_pd77 : (parseMethodDescriptor "(C)Z").map (fun d => d.parameters.length) = some 1 := by decide +kernel
theorem xx_pd78 : (parseMethodDescriptor "([B[B)Z").map (fun d => d.parameters.length) = some 2 := by decide +kernel
theorem xx_pd79 : (parseMethodDescriptor "([BII)V").map (fun d => d.parameters.length) = some 3 := by decide +kernel
theorem xx_pd80 : (parseMethodDescriptor "([BI[BII)V").map (fun d => d.parameters.length) = some 5 := by decide +kernel
theorem xx_nc24 : RJ2 ≠ "java/lang/invoke/MethodHandle" ∧ RJ2 ≠ "java/lang/invoke/VarHandle" := ⟨by decide +kernel, by decide +kernel⟩
theorem xx_pd81 : (parseMethodDescriptor "(I)[B").map (fun d => d.parameters.length) = some 1 := by decide +kernel
theorem xx_pd82 : (parseMethodDescriptor "([BI)C").map (fun d => d.parameters.length) = some 2 := by decide +kernel
theorem xx_pd83 : (parseMethodDescriptor "([B)I").map (fun d => d.parameters.length) = some 1 := by decide +kernel
theorem xx_pd84 : (parseMethodDescriptor "([BI)B").map (fun d => d.parameters.length) = some 2 := by decide +kernel
theorem xx_pd85 : (parseMethodDescriptor "([BII)[B").map (fun d => d.parameters.length) = some 3 := by decide +kernel
theorem xx_pd86 : (parseMethodDescriptor "([BI[BII)I").map (fun d => d.parameters.length) = some 5 := by decide +kernel
theorem xx_pd87 : (parseMethodDescriptor "(III[B)I").map (fun d => d.parameters.length) = some 4 := by decide +kernel
theorem xx_pd88 : (parseMethodDescriptor "([BICCCC)I").map (fun d => d.parameters.length) = some 6 := by decide +kernel
theorem xx_pd89 : (parseMethodDescriptor "(I[B)V").map (fun d => d.parameters.length) = some 2 := by decide +kernel
theorem xx_pd90 : (parseMethodDescriptor "(II[B)V").map (fun d => d.parameters.length) = some 3 := by decide +kernel
theorem xx_nc25 : RJxa1e45 ≠ "java/lang/invoke/MethodHandle" ∧ RJxa1e45 ≠ "java/lang/invoke/VarHandle" := ⟨by decide +kernel, by decide +kernel⟩
theorem xx_nc26 : RJxc12de ≠ "java/lang/invoke/MethodHandle" ∧ RJxc12de ≠ "java/lang/invoke/VarHandle" := ⟨by decide +kernel, by decide +kernel⟩
theorem xx_nc27 : RJx35411 ≠ "java/lang/invoke/MethodHandle" ∧ RJx35411 ≠ "java/lang/invoke/VarHandle" := ⟨by decide +kernel, by decide +kernel⟩
theorem xx_pd91 : (parseMethodDescriptor "(Ljava/util/ArrayList;)V").map (fun d => d.parameters.length) = some 1 := by decide +kernel
theorem xx_pd92 : (parseMethodDescriptor "()Ljava/lang/Object;").map (fun d => d.parameters.length) = some 0 := by decide +kernel
theorem xx_nc28 : RJx4a65c ≠ "java/lang/invoke/MethodHandle" ∧ RJx4a65c ≠ "java/lang/invoke/VarHandle" := ⟨by decide +kernel, by decide +kernel⟩
theorem xx_pd93 : (parseMethodDescriptor "(I)[Ljava/lang/Object;").map (fun d => d.parameters.length) = some 1 := by decide +kernel
theorem xx_pd94 : (parseMethodDescriptor "()[Ljava/lang/Object;").map (fun d => d.parameters.length) = some 0 := by decide +kernel
theorem xx_pd95 : (parseMethodDescriptor "(I)Ljava/lang/Object;").map (fun d => d.parameters.length) = some 1 := by decide +kernel
theorem xx_pd96 : (parseMethodDescriptor "(ILjava/lang/Object;)Ljava/lang/Object;").map (fun d => d.parameters.length) = some 2 := by decide +kernel
theorem xx_pd97 : (parseMethodDescriptor "(Ljava/lang/Object;[Ljava/lang/Object;I)V").map (fun d => d.parameters.length) = some 3 := by decide +kernel
theorem xx_pd98 : (parseMethodDescriptor "()Ljava/util/Iterator;").map (fun d => d.parameters.length) = some 0 := by decide +kernel
theorem xx_nc29 : RJ7 ≠ "java/lang/invoke/MethodHandle" ∧ RJ7 ≠ "java/lang/invoke/VarHandle" := ⟨by decide +kernel, by decide +kernel⟩
theorem xx_pd99 : (parseMethodDescriptor "([II)V").map (fun d => d.parameters.length) = some 2 := by decide +kernel
theorem xx_pd100 : (parseMethodDescriptor "([BIIB)V").map (fun d => d.parameters.length) = some 4 := by decide +kernel
theorem xx_pd101 : (parseMethodDescriptor "([Ljava/lang/Object;I)[Ljava/lang/Object;").map (fun d => d.parameters.length) = some 2 := by decide +kernel
theorem xx_pd102 : (parseMethodDescriptor "([Ljava/lang/Object;ILjava/lang/Class;)[Ljava/lang/Object;").map (fun d => d.parameters.length) = some 3 := by decide +kernel
theorem xx_pd103 : (parseMethodDescriptor "([BI)[B").map (fun d => d.parameters.length) = some 2 := by decide +kernel
theorem xx_nc30 : RJ15 ≠ "java/lang/invoke/MethodHandle" ∧ RJ15 ≠ "java/lang/invoke/VarHandle" := ⟨by decide +kernel, by decide +kernel⟩
theorem xx_nc31 : RJ8 ≠ "java/lang/invoke/MethodHandle" ∧ RJ8 ≠ "java/lang/invoke/VarHandle" := ⟨by decide +kernel, by decide +kernel⟩
theorem xx_nc32 : RJ3 ≠ "java/lang/invoke/MethodHandle" ∧ RJ3 ≠ "java/lang/invoke/VarHandle" := ⟨by decide +kernel, by decide +kernel⟩
theorem xx_pd104 : (parseMethodDescriptor "(IILjava/util/function/BiFunction;)I").map (fun d => d.parameters.length) = some 3 := by decide +kernel
theorem xx_pd105 : (parseMethodDescriptor "(IIILjava/util/function/BiFunction;)I").map (fun d => d.parameters.length) = some 4 := by decide +kernel
theorem ac_nat : Cond.native arraycopyName ∈ xx_gws := (gc_Z_2 _ (List.mem_of_getElem? (i := 13) rfl))
theorem ac_sta : Cond.static arraycopyName ∈ xx_gws := (gc_Z_2 _ (List.mem_of_getElem? (i := 12) rfl))
theorem ac_ini : Cond.initialized "java/lang/System" ∈ xx_gws := (gc_Z_0 _ (List.mem_of_getElem? (i := 13) rfl))
theorem oi_2 : Cond.instanceMethod Lib.objectInit ∈ xx_gws := (gc_Z_2 _ (List.mem_of_getElem? (i := 3) rfl))
theorem oi_3 : Cond.code Lib.objectInit ⟨#[0xb1]⟩ 1 none ∈ xx_gws := (gc_Z_2 _ (List.mem_of_getElem? (i := 4) rfl))
theorem ac_int : Cond.arrayClass .int ∈ xx_gws := (gc_Z_2 _ (List.mem_of_getElem? (i := 6) rfl))
theorem ac_byte : Cond.arrayClass .byte ∈ xx_gws := (gc_Z_2 _ (List.mem_of_getElem? (i := 15) rfl))
theorem ac_boolean : Cond.arrayClass .boolean ∈ xx_gws := (gc_Z_3 _ (List.mem_of_getElem? (i := 6) rfl))
theorem cl_J0 : xx_cl 0 RJ0 TJ0 4 tyJ0 := ⟨by decide, rfl, xx_prm [0, 1, 2, 3] rfl gw_CJ0, tyJ0_ok, nmJ0⟩
theorem cl_J4 : xx_cl 1 RJ4 TJ4 4 tyJ4 := ⟨by decide, rfl, xx_prm [0, 1, 2, 3] rfl gw_CJ4, tyJ4_ok, nmJ4⟩
theorem cl_J6 : xx_cl 2 RJ6 TJ6 1 tyJ6 := ⟨by decide, rfl, xx_prm [0] rfl gw_CJ6, tyJ6_ok, nmJ6⟩
theorem cl_Jx00060 : xx_cl 3 RJx00060 TJx00060 6 tyJx00060 := ⟨by decide, rfl, xx_prm [0, 1, 2, 3, 4, 5] rfl gw_CJx00060, tyJx00060_ok, nmJx00060⟩
theorem cl_Jx7c733 : xx_cl 4 RJx7c733 TJx7c733 6 tyJx7c733 := ⟨by decide, rfl, xx_prm [0, 1, 2, 3, 4, 5] rfl gw_CJx7c733, tyJx7c733_ok, nmJx7c733⟩
theorem cl_Jx35411 : xx_cl 5 RJx35411 TJx35411 4 tyJx35411 := ⟨by decide, rfl, xx_prm [0, 1, 2, 3] rfl gw_CJx35411, tyJx35411_ok, nmJx35411⟩
theorem cl_Jx4a65c : xx_cl 6 RJx4a65c TJx4a65c 3 tyJx4a65c := ⟨by decide, rfl, xx_prm [2, 0, 1] rfl gw_CJx4a65c, tyJx4a65c_ok, nmJx4a65c⟩
theorem cl_X1 : xx_cl 7 RX1 TX1 13 tyX1 := ⟨by decide, rfl, xx_prm [0, 1, 2, 3, 4, 5, 6, 7, 8, 9, 10, 11, 12] rfl gw_CX1, tyX1_ok, nmX1⟩
theorem cl_X2 : xx_cl 8 RX2 TX2 11 tyX2 := ⟨by decide, rfl, xx_prm [0, 1, 2, 3, 4, 5, 6, 7, 8, 9, 10] rfl gw_CX2, tyX2_ok, nmX2⟩
theorem cl_X3 : xx_cl 9 RX3 TX3 2 tyX3 := ⟨by decide, rfl, xx_prm [0, 1] rfl gw_CX3, tyX3_ok, nmX3⟩
theorem cl_X4 : xx_cl 10 RX4 TX4 1 tyX4 := ⟨by decide, rfl, xx_prm [0] rfl gw_CX4, tyX4_ok, nmX4⟩
theorem cl_X5 : xx_cl 11 RX5 TX5 5 tyX5 := ⟨by decide, rfl, xx_prm [0, 1, 2, 3, 4] rfl gw_CX5, tyX5_ok, nmX5⟩
theorem cl_X6 : xx_cl 12 RX6 TX6 12 tyX6 := ⟨by decide, rfl, xx_prm [0, 1, 2, 3, 4, 5, 6, 7, 8, 9, 10, 11] rfl gw_CX6, tyX6_ok, nmX6⟩
theorem cl_X7 : xx_cl 13 RX7 TX7 12 tyX7 := ⟨by decide, rfl, xx_prm [0, 1, 2, 3, 4, 5, 6, 7, 8, 9, 10, 11] rfl gw_CX7, tyX7_ok, nmX7⟩
theorem cl_X8 : xx_cl 14 RX8 TX8 2 tyX8 := ⟨by decide, rfl, xx_prm [0, 1] rfl gw_CX8, tyX8_ok, nmX8⟩
theorem cl_X9 : xx_cl 15 RX9 TX9 6 tyX9 := ⟨by decide, rfl, xx_prm [0, 1, 2, 3, 4, 5] rfl gw_CX9, tyX9_ok, nmX9⟩
theorem cl_X10 : xx_cl 16 RX10 TX10 7 tyX10 := ⟨by decide, rfl, xx_prm [0, 1, 2, 3, 4, 5, 6] rfl gw_CX10, tyX10_ok, nmX10⟩
theorem cl_X11 : xx_cl 17 RX11 TX11 11 tyX11 := ⟨by decide, rfl, xx_prm [0, 1, 2, 3, 4, 5, 6, 7, 8, 9, 10] rfl gw_CX11, tyX11_ok, nmX11⟩
theorem cl_X12 : xx_cl 18 RX12 TX12 4 tyX12 := ⟨by decide, rfl, xx_prm [0, 1, 2, 3] rfl gw_CX12, tyX12_ok, nmX12⟩
theorem cl_X13 : xx_cl 19 RX13 TX13 5 tyX13 := ⟨by decide, rfl, xx_prm [0, 1, 2, 3, 4] rfl gw_CX13, tyX13_ok, nmX13⟩
theorem cl_X14 : xx_cl 20 RX14 TX14 17 tyX14 := ⟨by decide, rfl, xx_prm [0, 1, 2, 3, 4, 5, 6, 7, 8, 9, 10, 11, 12, 13, 14, 15, 16] rfl gw_CX14, tyX14_ok, nmX14⟩
theorem ce_X0_many : xx_ce m_X0_many := ⟨(gw_WX0 _ (List.mem_of_getElem? (i := 4) rfl)), (gc_Z_1 _ (List.mem_of_getElem? (i := 8) rfl)), xx_nc0, xx_pd0, Nat.le_of_ble_eq_true rfl⟩
theorem st_X0_many : Cond.static yX0_many ∈ xx_gws := (gw_WX0 _ (List.mem_of_getElem? (i := 3) rfl))
theorem ce_X0_replaced : xx_ce m_X0_replaced := ⟨(gw_WX0 _ (List.mem_of_getElem? (i := 1) rfl)), (gc_Z_1 _ (List.mem_of_getElem? (i := 8) rfl)), xx_nc0, xx_pd1, Nat.le_of_ble_eq_true rfl⟩
theorem st_X0_replaced : Cond.static yX0_replaced ∈ xx_gws := (gw_WX0 _ (List.mem_of_getElem? (i := 0) rfl))
theorem ce_X0_total : xx_ce m_X0_total := ⟨(gw_WX0 _ (List.mem_of_getElem? (i := 8) rfl)), (gc_Z_1 _ (List.mem_of_getElem? (i := 8) rfl)), xx_nc0, xx_pd2, Nat.le_of_ble_eq_true rfl⟩
theorem st_X0_total : Cond.static yX0_total ∈ xx_gws := (gw_WX0 _ (List.mem_of_getElem? (i := 7) rfl))
theorem ce_X0_together : xx_ce m_X0_together := ⟨(gw_WX0 _ (List.mem_of_getElem? (i := 10) rfl)), (gc_Z_1 _ (List.mem_of_getElem? (i := 8) rfl)), xx_nc0, xx_pd3, Nat.le_of_ble_eq_true rfl⟩
theorem st_X0_together : Cond.static yX0_together ∈ xx_gws := (gw_WX0 _ (List.mem_of_getElem? (i := 9) rfl))
theorem ce_X0_isWithin : xx_ce m_X0_isWithin := ⟨(gw_WX0 _ (List.mem_of_getElem? (i := 12) rfl)), (gc_Z_1 _ (List.mem_of_getElem? (i := 8) rfl)), xx_nc0, xx_pd4, Nat.le_of_ble_eq_true rfl⟩
theorem st_X0_isWithin : Cond.static yX0_isWithin ∈ xx_gws := (gw_WX0 _ (List.mem_of_getElem? (i := 11) rfl))
theorem ce_X0_dearer : xx_ce m_X0_dearer := ⟨(gw_WX0 _ (List.mem_of_getElem? (i := 6) rfl)), (gc_Z_1 _ (List.mem_of_getElem? (i := 8) rfl)), xx_nc0, xx_pd5, Nat.le_of_ble_eq_true rfl⟩
theorem st_X0_dearer : Cond.static yX0_dearer ∈ xx_gws := (gw_WX0 _ (List.mem_of_getElem? (i := 5) rfl))
theorem ce_X1_init : xx_ce m_X1_init := ⟨(gc_WX1_0 _ (List.mem_of_getElem? (i := 14) rfl)), (gc_Z_0 _ (List.mem_of_getElem? (i := 2) rfl)), xx_nc1, xx_pd6, Nat.le_of_ble_eq_true rfl⟩
theorem ii_X1_init : yX1_init.name = "<init>" ∧ m_X1_init.2.2.2.1 = none ∧ Cond.instanceMethod yX1_init ∈ xx_gws := ⟨rfl, rfl, (gc_WX1_0 _ (List.mem_of_getElem? (i := 13) rfl))⟩
theorem ce_X1_begin : xx_ce m_X1_begin := ⟨(gc_WX1_2 _ (List.mem_of_getElem? (i := 4) rfl)), (gc_Z_0 _ (List.mem_of_getElem? (i := 2) rfl)), xx_nc1, xx_pd7, Nat.le_of_ble_eq_true rfl⟩
theorem iv_X1_begin : Cond.instanceMethod yX1_begin ∈ xx_gws ∧ Cond.selects yX1_begin.cls yX1_begin yX1_begin ∈ xx_gws := ⟨(gc_WX1_2 _ (List.mem_of_getElem? (i := 2) rfl)), (gc_WX1_2 _ (List.mem_of_getElem? (i := 3) rfl))⟩
theorem ce_X1_mayWish : xx_ce m_X1_mayWish := ⟨(gc_WX1_4 _ (List.mem_of_getElem? (i := 14) rfl)), (gc_Z_0 _ (List.mem_of_getElem? (i := 2) rfl)), xx_nc1, xx_pd8, Nat.le_of_ble_eq_true rfl⟩
theorem iv_X1_mayWish : Cond.instanceMethod yX1_mayWish ∈ xx_gws ∧ Cond.selects yX1_mayWish.cls yX1_mayWish yX1_mayWish ∈ xx_gws := ⟨(gc_WX1_4 _ (List.mem_of_getElem? (i := 12) rfl)), (gc_WX1_4 _ (List.mem_of_getElem? (i := 13) rfl))⟩
theorem ce_X1_wishedByAllies : xx_ce m_X1_wishedByAllies := ⟨(gc_WX1_5 _ (List.mem_of_getElem? (i := 1) rfl)), (gc_Z_0 _ (List.mem_of_getElem? (i := 2) rfl)), xx_nc1, xx_pd9, Nat.le_of_ble_eq_true rfl⟩
theorem iv_X1_wishedByAllies : Cond.instanceMethod yX1_wishedByAllies ∈ xx_gws ∧ Cond.selects yX1_wishedByAllies.cls yX1_wishedByAllies yX1_wishedByAllies ∈ xx_gws := ⟨(gc_WX1_5 _ (List.mem_of_getElem? (i := 0) rfl)), (gc_WX1_0 _ (List.mem_of_getElem? (i := 4) rfl))⟩
theorem ce_X1_greatestWish : xx_ce m_X1_greatestWish := ⟨(gc_WX1_5 _ (List.mem_of_getElem? (i := 11) rfl)), (gc_Z_0 _ (List.mem_of_getElem? (i := 2) rfl)), xx_nc1, xx_pd9, Nat.le_of_ble_eq_true rfl⟩
theorem iv_X1_greatestWish : Cond.instanceMethod yX1_greatestWish ∈ xx_gws ∧ Cond.selects yX1_greatestWish.cls yX1_greatestWish yX1_greatestWish ∈ xx_gws := ⟨(gc_WX1_5 _ (List.mem_of_getElem? (i := 9) rfl)), (gc_WX1_5 _ (List.mem_of_getElem? (i := 10) rfl))⟩
theorem ce_X1_hasWaived : xx_ce m_X1_hasWaived := ⟨(gc_WX1_3 _ (List.mem_of_getElem? (i := 11) rfl)), (gc_Z_0 _ (List.mem_of_getElem? (i := 2) rfl)), xx_nc1, xx_pd10, Nat.le_of_ble_eq_true rfl⟩
theorem iv_X1_hasWaived : Cond.instanceMethod yX1_hasWaived ∈ xx_gws ∧ Cond.selects yX1_hasWaived.cls yX1_hasWaived yX1_hasWaived ∈ xx_gws := ⟨(gc_WX1_3 _ (List.mem_of_getElem? (i := 9) rfl)), (gc_WX1_3 _ (List.mem_of_getElem? (i := 10) rfl))⟩
theorem ce_X1_useWaiver : xx_ce m_X1_useWaiver := ⟨(gc_WX1_5 _ (List.mem_of_getElem? (i := 5) rfl)), (gc_Z_0 _ (List.mem_of_getElem? (i := 2) rfl)), xx_nc1, xx_pd11, Nat.le_of_ble_eq_true rfl⟩
theorem iv_X1_useWaiver : Cond.instanceMethod yX1_useWaiver ∈ xx_gws ∧ Cond.selects yX1_useWaiver.cls yX1_useWaiver yX1_useWaiver ∈ xx_gws := ⟨(gc_WX1_5 _ (List.mem_of_getElem? (i := 3) rfl)), (gc_WX1_5 _ (List.mem_of_getElem? (i := 4) rfl))⟩
theorem ce_X1_closeRound : xx_ce m_X1_closeRound := ⟨(gc_WX1_2 _ (List.mem_of_getElem? (i := 11) rfl)), (gc_Z_0 _ (List.mem_of_getElem? (i := 2) rfl)), xx_nc1, xx_pd12, Nat.le_of_ble_eq_true rfl⟩
theorem iv_X1_closeRound : Cond.instanceMethod yX1_closeRound ∈ xx_gws ∧ Cond.selects yX1_closeRound.cls yX1_closeRound yX1_closeRound ∈ xx_gws := ⟨(gc_WX1_2 _ (List.mem_of_getElem? (i := 9) rfl)), (gc_WX1_2 _ (List.mem_of_getElem? (i := 10) rfl))⟩
theorem ce_X1_undoContradictions : xx_ce m_X1_undoContradictions := ⟨(gc_WX1_2 _ (List.mem_of_getElem? (i := 14) rfl)), (gc_Z_0 _ (List.mem_of_getElem? (i := 2) rfl)), xx_nc1, xx_pd7, Nat.le_of_ble_eq_true rfl⟩
theorem iv_X1_undoContradictions : Cond.instanceMethod yX1_undoContradictions ∈ xx_gws ∧ Cond.selects yX1_undoContradictions.cls yX1_undoContradictions yX1_undoContradictions ∈ xx_gws := ⟨(gc_WX1_2 _ (List.mem_of_getElem? (i := 13) rfl)), (gc_WX1_0 _ (List.mem_of_getElem? (i := 0) rfl))⟩
theorem ce_X1_contradictedRound : xx_ce m_X1_contradictedRound := ⟨(gc_WX1_3 _ (List.mem_of_getElem? (i := 2) rfl)), (gc_Z_0 _ (List.mem_of_getElem? (i := 2) rfl)), xx_nc1, xx_pd13, Nat.le_of_ble_eq_true rfl⟩
theorem iv_X1_contradictedRound : Cond.instanceMethod yX1_contradictedRound ∈ xx_gws ∧ Cond.selects yX1_contradictedRound.cls yX1_contradictedRound yX1_contradictedRound ∈ xx_gws := ⟨(gc_WX1_3 _ (List.mem_of_getElem? (i := 0) rfl)), (gc_WX1_3 _ (List.mem_of_getElem? (i := 1) rfl))⟩
theorem ce_X1_lowerEligible : xx_ce m_X1_lowerEligible := ⟨(gc_WX1_3 _ (List.mem_of_getElem? (i := 6) rfl)), (gc_Z_0 _ (List.mem_of_getElem? (i := 2) rfl)), xx_nc1, xx_pd7, Nat.le_of_ble_eq_true rfl⟩
theorem iv_X1_lowerEligible : Cond.instanceMethod yX1_lowerEligible ∈ xx_gws ∧ Cond.selects yX1_lowerEligible.cls yX1_lowerEligible yX1_lowerEligible ∈ xx_gws := ⟨(gc_WX1_3 _ (List.mem_of_getElem? (i := 5) rfl)), (gc_WX1_0 _ (List.mem_of_getElem? (i := 1) rfl))⟩
theorem ce_X1_moveHeld : xx_ce m_X1_moveHeld := ⟨(gc_WX1_3 _ (List.mem_of_getElem? (i := 14) rfl)), (gc_Z_0 _ (List.mem_of_getElem? (i := 2) rfl)), xx_nc1, xx_pd14, Nat.le_of_ble_eq_true rfl⟩
theorem iv_X1_moveHeld : Cond.instanceMethod yX1_moveHeld ∈ xx_gws ∧ Cond.selects yX1_moveHeld.cls yX1_moveHeld yX1_moveHeld ∈ xx_gws := ⟨(gc_WX1_3 _ (List.mem_of_getElem? (i := 13) rfl)), (gc_WX1_0 _ (List.mem_of_getElem? (i := 2) rfl))⟩
theorem ce_X1_raisePrices : xx_ce m_X1_raisePrices := ⟨(gc_WX1_4 _ (List.mem_of_getElem? (i := 4) rfl)), (gc_Z_0 _ (List.mem_of_getElem? (i := 2) rfl)), xx_nc1, xx_pd12, Nat.le_of_ble_eq_true rfl⟩
theorem iv_X1_raisePrices : Cond.instanceMethod yX1_raisePrices ∈ xx_gws ∧ Cond.selects yX1_raisePrices.cls yX1_raisePrices yX1_raisePrices ∈ xx_gws := ⟨(gc_WX1_4 _ (List.mem_of_getElem? (i := 3) rfl)), (gc_WX1_0 _ (List.mem_of_getElem? (i := 3) rfl))⟩
theorem ce_X1_runLog : xx_ce m_X1_runLog := ⟨(gc_WX1_2 _ (List.mem_of_getElem? (i := 0) rfl)), (gc_Z_0 _ (List.mem_of_getElem? (i := 2) rfl)), xx_nc1, xx_pd15, Nat.le_of_ble_eq_true rfl⟩
theorem iv_X1_runLog : Cond.instanceMethod yX1_runLog ∈ xx_gws ∧ Cond.selects yX1_runLog.cls yX1_runLog yX1_runLog ∈ xx_gws := ⟨(gc_WX1_1 _ (List.mem_of_getElem? (i := 14) rfl)), (gc_WX1_1 _ (List.mem_of_getElem? (i := 15) rfl))⟩
theorem ce_X1_lastValue : xx_ce m_X1_lastValue := ⟨(gc_WX1_5 _ (List.mem_of_getElem? (i := 8) rfl)), (gc_Z_0 _ (List.mem_of_getElem? (i := 2) rfl)), xx_nc1, xx_pd13, Nat.le_of_ble_eq_true rfl⟩
theorem iv_X1_lastValue : Cond.instanceMethod yX1_lastValue ∈ xx_gws ∧ Cond.selects yX1_lastValue.cls yX1_lastValue yX1_lastValue ∈ xx_gws := ⟨(gc_WX1_5 _ (List.mem_of_getElem? (i := 6) rfl)), (gc_WX1_5 _ (List.mem_of_getElem? (i := 7) rfl))⟩
theorem ce_X1_allPrices : xx_ce m_X1_allPrices := ⟨(gc_WX1_4 _ (List.mem_of_getElem? (i := 11) rfl)), (gc_Z_0 _ (List.mem_of_getElem? (i := 2) rfl)), xx_nc1, xx_pd16, Nat.le_of_ble_eq_true rfl⟩
theorem iv_X1_allPrices : Cond.instanceMethod yX1_allPrices ∈ xx_gws ∧ Cond.selects yX1_allPrices.cls yX1_allPrices yX1_allPrices ∈ xx_gws := ⟨(gc_WX1_4 _ (List.mem_of_getElem? (i := 9) rfl)), (gc_WX1_4 _ (List.mem_of_getElem? (i := 10) rfl))⟩
theorem ce_X1_allContradictions : xx_ce m_X1_allContradictions := ⟨(gc_WX1_4 _ (List.mem_of_getElem? (i := 8) rfl)), (gc_Z_0 _ (List.mem_of_getElem? (i := 2) rfl)), xx_nc1, xx_pd16, Nat.le_of_ble_eq_true rfl⟩
theorem iv_X1_allContradictions : Cond.instanceMethod yX1_allContradictions ∈ xx_gws ∧ Cond.selects yX1_allContradictions.cls yX1_allContradictions yX1_allContradictions ∈ xx_gws := ⟨(gc_WX1_4 _ (List.mem_of_getElem? (i := 6) rfl)), (gc_WX1_4 _ (List.mem_of_getElem? (i := 7) rfl))⟩
theorem ce_X2_init : xx_ce m_X2_init := ⟨(gc_WX2_0 _ (List.mem_of_getElem? (i := 15) rfl)), (gc_Z_0 _ (List.mem_of_getElem? (i := 3) rfl)), xx_nc2, xx_pd6, Nat.le_of_ble_eq_true rfl⟩
theorem ii_X2_init : yX2_init.name = "<init>" ∧ m_X2_init.2.2.2.1 = none ∧ Cond.instanceMethod yX2_init ∈ xx_gws := ⟨rfl, rfl, (gc_WX2_0 _ (List.mem_of_getElem? (i := 14) rfl))⟩
theorem ce_X2_isOut : xx_ce m_X2_isOut := ⟨(gc_WX2_3 _ (List.mem_of_getElem? (i := 4) rfl)), (gc_Z_0 _ (List.mem_of_getElem? (i := 3) rfl)), xx_nc2, xx_pd10, Nat.le_of_ble_eq_true rfl⟩
theorem iv_X2_isOut : Cond.instanceMethod yX2_isOut ∈ xx_gws ∧ Cond.selects yX2_isOut.cls yX2_isOut yX2_isOut ∈ xx_gws := ⟨(gc_WX2_3 _ (List.mem_of_getElem? (i := 2) rfl)), (gc_WX2_3 _ (List.mem_of_getElem? (i := 3) rfl))⟩
theorem ce_X2_winners : xx_ce m_X2_winners := ⟨(gc_WX2_2 _ (List.mem_of_getElem? (i := 7) rfl)), (gc_Z_0 _ (List.mem_of_getElem? (i := 3) rfl)), xx_nc2, xx_pd16, Nat.le_of_ble_eq_true rfl⟩
theorem iv_X2_winners : Cond.instanceMethod yX2_winners ∈ xx_gws ∧ Cond.selects yX2_winners.cls yX2_winners yX2_winners ∈ xx_gws := ⟨(gc_WX2_2 _ (List.mem_of_getElem? (i := 5) rfl)), (gc_WX2_2 _ (List.mem_of_getElem? (i := 6) rfl))⟩
theorem ce_X2_amountWon : xx_ce m_X2_amountWon := ⟨(gc_WX2_2 _ (List.mem_of_getElem? (i := 0) rfl)), (gc_Z_0 _ (List.mem_of_getElem? (i := 3) rfl)), xx_nc2, xx_pd13, Nat.le_of_ble_eq_true rfl⟩
theorem iv_X2_amountWon : Cond.instanceMethod yX2_amountWon ∈ xx_gws ∧ Cond.selects yX2_amountWon.cls yX2_amountWon yX2_amountWon ∈ xx_gws := ⟨(gc_WX2_1 _ (List.mem_of_getElem? (i := 14) rfl)), (gc_WX2_1 _ (List.mem_of_getElem? (i := 15) rfl))⟩
theorem ce_X2_blocksWon : xx_ce m_X2_blocksWon := ⟨(gc_WX2_2 _ (List.mem_of_getElem? (i := 3) rfl)), (gc_Z_0 _ (List.mem_of_getElem? (i := 3) rfl)), xx_nc2, xx_pd0, Nat.le_of_ble_eq_true rfl⟩
theorem iv_X2_blocksWon : Cond.instanceMethod yX2_blocksWon ∈ xx_gws ∧ Cond.selects yX2_blocksWon.cls yX2_blocksWon yX2_blocksWon ∈ xx_gws := ⟨(gc_WX2_2 _ (List.mem_of_getElem? (i := 1) rfl)), (gc_WX2_2 _ (List.mem_of_getElem? (i := 2) rfl))⟩
theorem ce_X2_add : xx_ce m_X2_add := ⟨(gc_WX2_3 _ (List.mem_of_getElem? (i := 7) rfl)), (gc_Z_0 _ (List.mem_of_getElem? (i := 3) rfl)), xx_nc2, xx_pd17, Nat.le_of_ble_eq_true rfl⟩
theorem iv_X2_add : Cond.instanceMethod yX2_add ∈ xx_gws ∧ Cond.selects yX2_add.cls yX2_add yX2_add ∈ xx_gws := ⟨(gc_WX2_3 _ (List.mem_of_getElem? (i := 5) rfl)), (gc_WX2_3 _ (List.mem_of_getElem? (i := 6) rfl))⟩
theorem ce_X2_leaveOut : xx_ce m_X2_leaveOut := ⟨(gc_WX2_5 _ (List.mem_of_getElem? (i := 7) rfl)), (gc_Z_0 _ (List.mem_of_getElem? (i := 3) rfl)), xx_nc2, xx_pd11, Nat.le_of_ble_eq_true rfl⟩
theorem iv_X2_leaveOut : Cond.instanceMethod yX2_leaveOut ∈ xx_gws ∧ Cond.selects yX2_leaveOut.cls yX2_leaveOut yX2_leaveOut ∈ xx_gws := ⟨(gc_WX2_5 _ (List.mem_of_getElem? (i := 5) rfl)), (gc_WX2_5 _ (List.mem_of_getElem? (i := 6) rfl))⟩
theorem ce_X2_pickFrom : xx_ce m_X2_pickFrom := ⟨(gc_WX2_4 _ (List.mem_of_getElem? (i := 3) rfl)), (gc_Z_0 _ (List.mem_of_getElem? (i := 3) rfl)), xx_nc2, xx_pd18, Nat.le_of_ble_eq_true rfl⟩
theorem st_X2_pickFrom : Cond.static yX2_pickFrom ∈ xx_gws := (gc_WX2_4 _ (List.mem_of_getElem? (i := 2) rfl))
theorem ce_X2_fits : xx_ce m_X2_fits := ⟨(gc_WX2_3 _ (List.mem_of_getElem? (i := 10) rfl)), (gc_Z_0 _ (List.mem_of_getElem? (i := 3) rfl)), xx_nc2, xx_pd19, Nat.le_of_ble_eq_true rfl⟩
theorem iv_X2_fits : Cond.instanceMethod yX2_fits ∈ xx_gws ∧ Cond.selects yX2_fits.cls yX2_fits yX2_fits ∈ xx_gws := ⟨(gc_WX2_3 _ (List.mem_of_getElem? (i := 9) rfl)), (gc_WX2_0 _ (List.mem_of_getElem? (i := 2) rfl))⟩
theorem ce_X2_take : xx_ce m_X2_take := ⟨(gc_WX2_3 _ (List.mem_of_getElem? (i := 13) rfl)), (gc_Z_0 _ (List.mem_of_getElem? (i := 3) rfl)), xx_nc2, xx_pd20, Nat.le_of_ble_eq_true rfl⟩
theorem iv_X2_take : Cond.instanceMethod yX2_take ∈ xx_gws ∧ Cond.selects yX2_take.cls yX2_take yX2_take ∈ xx_gws := ⟨(gc_WX2_3 _ (List.mem_of_getElem? (i := 12) rfl)), (gc_WX2_0 _ (List.mem_of_getElem? (i := 3) rfl))⟩
theorem ce_X2_giveBack : xx_ce m_X2_giveBack := ⟨(gc_WX2_4 _ (List.mem_of_getElem? (i := 13) rfl)), (gc_Z_0 _ (List.mem_of_getElem? (i := 3) rfl)), xx_nc2, xx_pd20, Nat.le_of_ble_eq_true rfl⟩
theorem iv_X2_giveBack : Cond.instanceMethod yX2_giveBack ∈ xx_gws ∧ Cond.selects yX2_giveBack.cls yX2_giveBack yX2_giveBack ∈ xx_gws := ⟨(gc_WX2_4 _ (List.mem_of_getElem? (i := 12) rfl)), (gc_WX2_0 _ (List.mem_of_getElem? (i := 6) rfl))⟩
theorem ce_X2_moveTaken : xx_ce m_X2_moveTaken := ⟨(gc_WX2_4 _ (List.mem_of_getElem? (i := 0) rfl)), (gc_Z_0 _ (List.mem_of_getElem? (i := 3) rfl)), xx_nc2, xx_pd17, Nat.le_of_ble_eq_true rfl⟩
theorem iv_X2_moveTaken : Cond.instanceMethod yX2_moveTaken ∈ xx_gws ∧ Cond.selects yX2_moveTaken.cls yX2_moveTaken yX2_moveTaken ∈ xx_gws := ⟨(gc_WX2_3 _ (List.mem_of_getElem? (i := 15) rfl)), (gc_WX2_0 _ (List.mem_of_getElem? (i := 4) rfl))⟩
theorem ce_X2_keepIfBetter : xx_ce m_X2_keepIfBetter := ⟨(gc_WX2_4 _ (List.mem_of_getElem? (i := 6) rfl)), (gc_Z_0 _ (List.mem_of_getElem? (i := 3) rfl)), xx_nc2, xx_pd21, Nat.le_of_ble_eq_true rfl⟩
theorem iv_X2_keepIfBetter : Cond.instanceMethod yX2_keepIfBetter ∈ xx_gws ∧ Cond.selects yX2_keepIfBetter.cls yX2_keepIfBetter yX2_keepIfBetter ∈ xx_gws := ⟨(gc_WX2_4 _ (List.mem_of_getElem? (i := 5) rfl)), (gc_WX2_0 _ (List.mem_of_getElem? (i := 5) rfl))⟩
theorem ce_X2_isAhead : xx_ce m_X2_isAhead := ⟨(gc_WX2_4 _ (List.mem_of_getElem? (i := 9) rfl)), (gc_Z_0 _ (List.mem_of_getElem? (i := 3) rfl)), xx_nc2, xx_pd22, Nat.le_of_ble_eq_true rfl⟩
theorem st_X2_isAhead : Cond.static yX2_isAhead ∈ xx_gws := (gc_WX2_4 _ (List.mem_of_getElem? (i := 8) rfl))
theorem ce_X2_findWinners : xx_ce m_X2_findWinners := ⟨(gc_WX2_5 _ (List.mem_of_getElem? (i := 0) rfl)), (gc_Z_0 _ (List.mem_of_getElem? (i := 3) rfl)), xx_nc2, xx_pd6, Nat.le_of_ble_eq_true rfl⟩
theorem iv_X2_findWinners : Cond.instanceMethod yX2_findWinners ∈ xx_gws ∧ Cond.selects yX2_findWinners.cls yX2_findWinners yX2_findWinners ∈ xx_gws := ⟨(gc_WX2_4 _ (List.mem_of_getElem? (i := 15) rfl)), (gc_WX2_0 _ (List.mem_of_getElem? (i := 7) rfl))⟩
theorem ce_X2_worthOf : xx_ce m_X2_worthOf := ⟨(gc_WX2_5 _ (List.mem_of_getElem? (i := 3) rfl)), (gc_Z_0 _ (List.mem_of_getElem? (i := 3) rfl)), xx_nc2, xx_pd13, Nat.le_of_ble_eq_true rfl⟩
theorem iv_X2_worthOf : Cond.instanceMethod yX2_worthOf ∈ xx_gws ∧ Cond.selects yX2_worthOf.cls yX2_worthOf yX2_worthOf ∈ xx_gws := ⟨(gc_WX2_5 _ (List.mem_of_getElem? (i := 2) rfl)), (gc_WX2_0 _ (List.mem_of_getElem? (i := 8) rfl))⟩
theorem ce_X2_signals : xx_ce m_X2_signals := ⟨(gc_WX2_2 _ (List.mem_of_getElem? (i := 10) rfl)), (gc_Z_0 _ (List.mem_of_getElem? (i := 3) rfl)), xx_nc2, xx_pd23, Nat.le_of_ble_eq_true rfl⟩
theorem iv_X2_signals : Cond.instanceMethod yX2_signals ∈ xx_gws ∧ Cond.selects yX2_signals.cls yX2_signals yX2_signals ∈ xx_gws := ⟨(gc_WX2_2 _ (List.mem_of_getElem? (i := 8) rfl)), (gc_WX2_2 _ (List.mem_of_getElem? (i := 9) rfl))⟩
theorem ce_X2_isSignal : xx_ce m_X2_isSignal := ⟨(gc_WX2_2 _ (List.mem_of_getElem? (i := 13) rfl)), (gc_Z_0 _ (List.mem_of_getElem? (i := 3) rfl)), xx_nc2, xx_pd19, Nat.le_of_ble_eq_true rfl⟩
theorem iv_X2_isSignal : Cond.instanceMethod yX2_isSignal ∈ xx_gws ∧ Cond.selects yX2_isSignal.cls yX2_isSignal yX2_isSignal ∈ xx_gws := ⟨(gc_WX2_2 _ (List.mem_of_getElem? (i := 12) rfl)), (gc_WX2_0 _ (List.mem_of_getElem? (i := 0) rfl))⟩
theorem ce_X2_asksFor : xx_ce m_X2_asksFor := ⟨(gc_WX2_3 _ (List.mem_of_getElem? (i := 1) rfl)), (gc_Z_0 _ (List.mem_of_getElem? (i := 3) rfl)), xx_nc2, xx_pd24, Nat.le_of_ble_eq_true rfl⟩
theorem iv_X2_asksFor : Cond.instanceMethod yX2_asksFor ∈ xx_gws ∧ Cond.selects yX2_asksFor.cls yX2_asksFor yX2_asksFor ∈ xx_gws := ⟨(gc_WX2_3 _ (List.mem_of_getElem? (i := 0) rfl)), (gc_WX2_0 _ (List.mem_of_getElem? (i := 1) rfl))⟩
theorem ce_X3_init : xx_ce m_X3_init := ⟨(gc_WX3_0 _ (List.mem_of_getElem? (i := 7) rfl)), (gc_Z_0 _ (List.mem_of_getElem? (i := 6) rfl)), xx_nc3, xx_pd6, Nat.le_of_ble_eq_true rfl⟩
theorem ii_X3_init : yX3_init.name = "<init>" ∧ m_X3_init.2.2.2.1 = none ∧ Cond.instanceMethod yX3_init ∈ xx_gws := ⟨rfl, rfl, (gc_WX3_0 _ (List.mem_of_getElem? (i := 6) rfl))⟩
theorem ce_X3_give : xx_ce m_X3_give := ⟨(gc_WX3_1 _ (List.mem_of_getElem? (i := 11) rfl)), (gc_Z_0 _ (List.mem_of_getElem? (i := 6) rfl)), xx_nc3, xx_pd25, Nat.le_of_ble_eq_true rfl⟩
theorem iv_X3_give : Cond.instanceMethod yX3_give ∈ xx_gws ∧ Cond.selects yX3_give.cls yX3_give yX3_give ∈ xx_gws := ⟨(gc_WX3_1 _ (List.mem_of_getElem? (i := 9) rfl)), (gc_WX3_1 _ (List.mem_of_getElem? (i := 10) rfl))⟩
theorem ce_X3_giveByTurn : xx_ce m_X3_giveByTurn := ⟨(gc_WX3_1 _ (List.mem_of_getElem? (i := 14) rfl)), (gc_Z_0 _ (List.mem_of_getElem? (i := 6) rfl)), xx_nc3, xx_pd26, Nat.le_of_ble_eq_true rfl⟩
theorem iv_X3_giveByTurn : Cond.instanceMethod yX3_giveByTurn ∈ xx_gws ∧ Cond.selects yX3_giveByTurn.cls yX3_giveByTurn yX3_giveByTurn ∈ xx_gws := ⟨(gc_WX3_1 _ (List.mem_of_getElem? (i := 13) rfl)), (gc_WX3_0 _ (List.mem_of_getElem? (i := 1) rfl))⟩
theorem ce_X3_clashesOf : xx_ce m_X3_clashesOf := ⟨(gc_WX3_2 _ (List.mem_of_getElem? (i := 2) rfl)), (gc_Z_0 _ (List.mem_of_getElem? (i := 6) rfl)), xx_nc3, xx_pd27, Nat.le_of_ble_eq_true rfl⟩
theorem iv_X3_clashesOf : Cond.instanceMethod yX3_clashesOf ∈ xx_gws ∧ Cond.selects yX3_clashesOf.cls yX3_clashesOf yX3_clashesOf ∈ xx_gws := ⟨(gc_WX3_2 _ (List.mem_of_getElem? (i := 1) rfl)), (gc_WX3_0 _ (List.mem_of_getElem? (i := 2) rfl))⟩
theorem ce_X3_clashesBetween : xx_ce m_X3_clashesBetween := ⟨(gc_WX3_2 _ (List.mem_of_getElem? (i := 6) rfl)), (gc_Z_0 _ (List.mem_of_getElem? (i := 6) rfl)), xx_nc3, xx_pd28, Nat.le_of_ble_eq_true rfl⟩
theorem st_X3_clashesBetween : Cond.static yX3_clashesBetween ∈ xx_gws := (gc_WX3_2 _ (List.mem_of_getElem? (i := 5) rfl))
theorem ce_X3_draw : xx_ce m_X3_draw := ⟨(gc_WX3_1 _ (List.mem_of_getElem? (i := 6) rfl)), (gc_Z_0 _ (List.mem_of_getElem? (i := 6) rfl)), xx_nc3, xx_pd29, Nat.le_of_ble_eq_true rfl⟩
theorem iv_X3_draw : Cond.instanceMethod yX3_draw ∈ xx_gws ∧ Cond.selects yX3_draw.cls yX3_draw yX3_draw ∈ xx_gws := ⟨(gc_WX3_1 _ (List.mem_of_getElem? (i := 4) rfl)), (gc_WX3_1 _ (List.mem_of_getElem? (i := 5) rfl))⟩
theorem ce_X3_agreeWith : xx_ce m_X3_agreeWith := ⟨(gc_WX3_0 _ (List.mem_of_getElem? (i := 15) rfl)), (gc_Z_0 _ (List.mem_of_getElem? (i := 6) rfl)), xx_nc3, xx_pd30, Nat.le_of_ble_eq_true rfl⟩
theorem iv_X3_agreeWith : Cond.instanceMethod yX3_agreeWith ∈ xx_gws ∧ Cond.selects yX3_agreeWith.cls yX3_agreeWith yX3_agreeWith ∈ xx_gws := ⟨(gc_WX3_0 _ (List.mem_of_getElem? (i := 13) rfl)), (gc_WX3_0 _ (List.mem_of_getElem? (i := 14) rfl))⟩
theorem ce_X3_heldBy : xx_ce m_X3_heldBy := ⟨(gc_WX3_1 _ (List.mem_of_getElem? (i := 2) rfl)), (gc_Z_0 _ (List.mem_of_getElem? (i := 6) rfl)), xx_nc3, xx_pd0, Nat.le_of_ble_eq_true rfl⟩
theorem iv_X3_heldBy : Cond.instanceMethod yX3_heldBy ∈ xx_gws ∧ Cond.selects yX3_heldBy.cls yX3_heldBy yX3_heldBy ∈ xx_gws := ⟨(gc_WX3_1 _ (List.mem_of_getElem? (i := 1) rfl)), (gc_WX3_0 _ (List.mem_of_getElem? (i := 0) rfl))⟩
theorem ce_X4_init : xx_ce m_X4_init := ⟨(gc_WX4_0 _ (List.mem_of_getElem? (i := 7) rfl)), (gc_Z_0 _ (List.mem_of_getElem? (i := 5) rfl)), xx_nc4, xx_pd6, Nat.le_of_ble_eq_true rfl⟩
theorem ii_X4_init : yX4_init.name = "<init>" ∧ m_X4_init.2.2.2.1 = none ∧ Cond.instanceMethod yX4_init ∈ xx_gws := ⟨rfl, rfl, (gc_WX4_0 _ (List.mem_of_getElem? (i := 6) rfl))⟩
theorem ce_X4_find : xx_ce m_X4_find := ⟨(gc_WX4_0 _ (List.mem_of_getElem? (i := 13) rfl)), (gc_Z_0 _ (List.mem_of_getElem? (i := 5) rfl)), xx_nc4, xx_pd31, Nat.le_of_ble_eq_true rfl⟩
theorem iv_X4_find : Cond.instanceMethod yX4_find ∈ xx_gws ∧ Cond.selects yX4_find.cls yX4_find yX4_find ∈ xx_gws := ⟨(gc_WX4_0 _ (List.mem_of_getElem? (i := 11) rfl)), (gc_WX4_0 _ (List.mem_of_getElem? (i := 12) rfl))⟩
theorem ce_X4_harmOf : xx_ce m_X4_harmOf := ⟨(gc_WX4_1 _ (List.mem_of_getElem? (i := 0) rfl)), (gc_Z_0 _ (List.mem_of_getElem? (i := 5) rfl)), xx_nc4, xx_pd32, Nat.le_of_ble_eq_true rfl⟩
theorem st_X4_harmOf : Cond.static yX4_harmOf ∈ xx_gws := (gc_WX4_0 _ (List.mem_of_getElem? (i := 15) rfl))
theorem ce_X4_objection : xx_ce m_X4_objection := ⟨(gc_WX4_1 _ (List.mem_of_getElem? (i := 8) rfl)), (gc_Z_0 _ (List.mem_of_getElem? (i := 5) rfl)), xx_nc4, xx_pd33, Nat.le_of_ble_eq_true rfl⟩
theorem iv_X4_objection : Cond.instanceMethod yX4_objection ∈ xx_gws ∧ Cond.selects yX4_objection.cls yX4_objection yX4_objection ∈ xx_gws := ⟨(gc_WX4_1 _ (List.mem_of_getElem? (i := 6) rfl)), (gc_WX4_1 _ (List.mem_of_getElem? (i := 7) rfl))⟩
theorem ce_X4_strongest : xx_ce m_X4_strongest := ⟨(gc_WX4_1 _ (List.mem_of_getElem? (i := 4) rfl)), (gc_Z_0 _ (List.mem_of_getElem? (i := 5) rfl)), xx_nc4, xx_pd34, Nat.le_of_ble_eq_true rfl⟩
theorem iv_X4_strongest : Cond.instanceMethod yX4_strongest ∈ xx_gws ∧ Cond.selects yX4_strongest.cls yX4_strongest yX4_strongest ∈ xx_gws := ⟨(gc_WX4_1 _ (List.mem_of_getElem? (i := 3) rfl)), (gc_WX4_0 _ (List.mem_of_getElem? (i := 0) rfl))⟩
theorem ce_X4_raiseOutside : xx_ce m_X4_raiseOutside := ⟨(gc_WX4_1 _ (List.mem_of_getElem? (i := 11) rfl)), (gc_Z_0 _ (List.mem_of_getElem? (i := 5) rfl)), xx_nc4, xx_pd21, Nat.le_of_ble_eq_true rfl⟩
theorem iv_X4_raiseOutside : Cond.instanceMethod yX4_raiseOutside ∈ xx_gws ∧ Cond.selects yX4_raiseOutside.cls yX4_raiseOutside yX4_raiseOutside ∈ xx_gws := ⟨(gc_WX4_1 _ (List.mem_of_getElem? (i := 10) rfl)), (gc_WX4_0 _ (List.mem_of_getElem? (i := 1) rfl))⟩
theorem ce_X4_raiseEach : xx_ce m_X4_raiseEach := ⟨(gc_WX4_2 _ (List.mem_of_getElem? (i := 2) rfl)), (gc_Z_0 _ (List.mem_of_getElem? (i := 5) rfl)), xx_nc4, xx_pd1, Nat.le_of_ble_eq_true rfl⟩
theorem iv_X4_raiseEach : Cond.instanceMethod yX4_raiseEach ∈ xx_gws ∧ Cond.selects yX4_raiseEach.cls yX4_raiseEach yX4_raiseEach ∈ xx_gws := ⟨(gc_WX4_2 _ (List.mem_of_getElem? (i := 1) rfl)), (gc_WX4_0 _ (List.mem_of_getElem? (i := 3) rfl))⟩
theorem ce_X4_roomOutside : xx_ce m_X4_roomOutside := ⟨(gc_WX4_1 _ (List.mem_of_getElem? (i := 14) rfl)), (gc_Z_0 _ (List.mem_of_getElem? (i := 5) rfl)), xx_nc4, xx_pd0, Nat.le_of_ble_eq_true rfl⟩
theorem iv_X4_roomOutside : Cond.instanceMethod yX4_roomOutside ∈ xx_gws ∧ Cond.selects yX4_roomOutside.cls yX4_roomOutside yX4_roomOutside ∈ xx_gws := ⟨(gc_WX4_1 _ (List.mem_of_getElem? (i := 13) rfl)), (gc_WX4_0 _ (List.mem_of_getElem? (i := 2) rfl))⟩
theorem ce_X5_init : xx_ce m_X5_init := ⟨(gc_WX5_0 _ (List.mem_of_getElem? (i := 4) rfl)), (gc_Z_0 _ (List.mem_of_getElem? (i := 7) rfl)), xx_nc5, xx_pd6, Nat.le_of_ble_eq_true rfl⟩
theorem ii_X5_init : yX5_init.name = "<init>" ∧ m_X5_init.2.2.2.1 = none ∧ Cond.instanceMethod yX5_init ∈ xx_gws := ⟨rfl, rfl, (gc_WX5_0 _ (List.mem_of_getElem? (i := 3) rfl))⟩
theorem ce_X5_add : xx_ce m_X5_add := ⟨(gc_WX5_2 _ (List.mem_of_getElem? (i := 2) rfl)), (gc_Z_0 _ (List.mem_of_getElem? (i := 7) rfl)), xx_nc5, xx_pd0, Nat.le_of_ble_eq_true rfl⟩
theorem iv_X5_add : Cond.instanceMethod yX5_add ∈ xx_gws ∧ Cond.selects yX5_add.cls yX5_add yX5_add ∈ xx_gws := ⟨(gc_WX5_2 _ (List.mem_of_getElem? (i := 0) rfl)), (gc_WX5_2 _ (List.mem_of_getElem? (i := 1) rfl))⟩
theorem ce_X5_countIn : xx_ce m_X5_countIn := ⟨(gc_WX5_0 _ (List.mem_of_getElem? (i := 13) rfl)), (gc_Z_0 _ (List.mem_of_getElem? (i := 7) rfl)), xx_nc5, xx_pd13, Nat.le_of_ble_eq_true rfl⟩
theorem iv_X5_countIn : Cond.instanceMethod yX5_countIn ∈ xx_gws ∧ Cond.selects yX5_countIn.cls yX5_countIn yX5_countIn ∈ xx_gws := ⟨(gc_WX5_0 _ (List.mem_of_getElem? (i := 11) rfl)), (gc_WX5_0 _ (List.mem_of_getElem? (i := 12) rfl))⟩
theorem ce_X5_pack : xx_ce m_X5_pack := ⟨(gc_WX5_2 _ (List.mem_of_getElem? (i := 5) rfl)), (gc_Z_0 _ (List.mem_of_getElem? (i := 7) rfl)), xx_nc5, xx_pd19, Nat.le_of_ble_eq_true rfl⟩
theorem iv_X5_pack : Cond.instanceMethod yX5_pack ∈ xx_gws ∧ Cond.selects yX5_pack.cls yX5_pack yX5_pack ∈ xx_gws := ⟨(gc_WX5_2 _ (List.mem_of_getElem? (i := 3) rfl)), (gc_WX5_2 _ (List.mem_of_getElem? (i := 4) rfl))⟩
theorem ce_X5_channelOf : xx_ce m_X5_channelOf := ⟨(gc_WX5_2 _ (List.mem_of_getElem? (i := 8) rfl)), (gc_Z_0 _ (List.mem_of_getElem? (i := 7) rfl)), xx_nc5, xx_pd13, Nat.le_of_ble_eq_true rfl⟩
theorem iv_X5_channelOf : Cond.instanceMethod yX5_channelOf ∈ xx_gws ∧ Cond.selects yX5_channelOf.cls yX5_channelOf yX5_channelOf ∈ xx_gws := ⟨(gc_WX5_2 _ (List.mem_of_getElem? (i := 6) rfl)), (gc_WX5_2 _ (List.mem_of_getElem? (i := 7) rfl))⟩
theorem ce_X5_cheapest : xx_ce m_X5_cheapest := ⟨(gc_WX5_1 _ (List.mem_of_getElem? (i := 0) rfl)), (gc_Z_0 _ (List.mem_of_getElem? (i := 7) rfl)), xx_nc5, xx_pd27, Nat.le_of_ble_eq_true rfl⟩
theorem iv_X5_cheapest : Cond.instanceMethod yX5_cheapest ∈ xx_gws ∧ Cond.selects yX5_cheapest.cls yX5_cheapest yX5_cheapest ∈ xx_gws := ⟨(gc_WX5_0 _ (List.mem_of_getElem? (i := 14) rfl)), (gc_WX5_0 _ (List.mem_of_getElem? (i := 15) rfl))⟩
theorem ce_X5_asksOf : xx_ce m_X5_asksOf := ⟨(gc_WX5_1 _ (List.mem_of_getElem? (i := 7) rfl)), (gc_Z_0 _ (List.mem_of_getElem? (i := 7) rfl)), xx_nc5, xx_pd13, Nat.le_of_ble_eq_true rfl⟩
theorem iv_X5_asksOf : Cond.instanceMethod yX5_asksOf ∈ xx_gws ∧ Cond.selects yX5_asksOf.cls yX5_asksOf yX5_asksOf ∈ xx_gws := ⟨(gc_WX5_1 _ (List.mem_of_getElem? (i := 6) rfl)), (gc_WX5_0 _ (List.mem_of_getElem? (i := 1) rfl))⟩
theorem ce_X5_findDisturbed : xx_ce m_X5_findDisturbed := ⟨(gc_WX5_1 _ (List.mem_of_getElem? (i := 3) rfl)), (gc_Z_0 _ (List.mem_of_getElem? (i := 7) rfl)), xx_nc5, xx_pd7, Nat.le_of_ble_eq_true rfl⟩
theorem iv_X5_findDisturbed : Cond.instanceMethod yX5_findDisturbed ∈ xx_gws ∧ Cond.selects yX5_findDisturbed.cls yX5_findDisturbed yX5_findDisturbed ∈ xx_gws := ⟨(gc_WX5_1 _ (List.mem_of_getElem? (i := 2) rfl)), (gc_WX5_0 _ (List.mem_of_getElem? (i := 0) rfl))⟩
theorem ce_X5_packAgain : xx_ce m_X5_packAgain := ⟨(gc_WX5_1 _ (List.mem_of_getElem? (i := 10) rfl)), (gc_Z_0 _ (List.mem_of_getElem? (i := 7) rfl)), xx_nc5, xx_pd24, Nat.le_of_ble_eq_true rfl⟩
theorem iv_X5_packAgain : Cond.instanceMethod yX5_packAgain ∈ xx_gws ∧ Cond.selects yX5_packAgain.cls yX5_packAgain yX5_packAgain ∈ xx_gws := ⟨(gc_WX5_1 _ (List.mem_of_getElem? (i := 9) rfl)), (gc_WX5_0 _ (List.mem_of_getElem? (i := 2) rfl))⟩
theorem ce_X5_packFrom : xx_ce m_X5_packFrom := ⟨(gc_WX5_1 _ (List.mem_of_getElem? (i := 14) rfl)), (gc_Z_0 _ (List.mem_of_getElem? (i := 7) rfl)), xx_nc5, xx_pd35, Nat.le_of_ble_eq_true rfl⟩
theorem st_X5_packFrom : Cond.static yX5_packFrom ∈ xx_gws := (gc_WX5_1 _ (List.mem_of_getElem? (i := 13) rfl))
theorem ce_X6_init : xx_ce m_X6_init := ⟨(gc_WX6_0 _ (List.mem_of_getElem? (i := 2) rfl)), (gc_Z_0 _ (List.mem_of_getElem? (i := 1) rfl)), xx_nc6, xx_pd6, Nat.le_of_ble_eq_true rfl⟩
theorem ii_X6_init : yX6_init.name = "<init>" ∧ m_X6_init.2.2.2.1 = none ∧ Cond.instanceMethod yX6_init ∈ xx_gws := ⟨rfl, rfl, (gc_WX6_0 _ (List.mem_of_getElem? (i := 1) rfl))⟩
theorem ce_X6_addRegion : xx_ce m_X6_addRegion := ⟨(gc_WX6_1 _ (List.mem_of_getElem? (i := 8) rfl)), (gc_Z_0 _ (List.mem_of_getElem? (i := 1) rfl)), xx_nc6, xx_pd1, Nat.le_of_ble_eq_true rfl⟩
theorem iv_X6_addRegion : Cond.instanceMethod yX6_addRegion ∈ xx_gws ∧ Cond.selects yX6_addRegion.cls yX6_addRegion yX6_addRegion ∈ xx_gws := ⟨(gc_WX6_1 _ (List.mem_of_getElem? (i := 6) rfl)), (gc_WX6_1 _ (List.mem_of_getElem? (i := 7) rfl))⟩
theorem ce_X6_addBorder : xx_ce m_X6_addBorder := ⟨(gc_WX6_1 _ (List.mem_of_getElem? (i := 11) rfl)), (gc_Z_0 _ (List.mem_of_getElem? (i := 1) rfl)), xx_nc6, xx_pd0, Nat.le_of_ble_eq_true rfl⟩
theorem iv_X6_addBorder : Cond.instanceMethod yX6_addBorder ∈ xx_gws ∧ Cond.selects yX6_addBorder.cls yX6_addBorder yX6_addBorder ∈ xx_gws := ⟨(gc_WX6_1 _ (List.mem_of_getElem? (i := 9) rfl)), (gc_WX6_1 _ (List.mem_of_getElem? (i := 10) rfl))⟩
theorem ce_X6_addBidder : xx_ce m_X6_addBidder := ⟨(gc_WX6_1 _ (List.mem_of_getElem? (i := 15) rfl)), (gc_Z_0 _ (List.mem_of_getElem? (i := 1) rfl)), xx_nc6, xx_pd36, Nat.le_of_ble_eq_true rfl⟩
theorem iv_X6_addBidder : Cond.instanceMethod yX6_addBidder ∈ xx_gws ∧ Cond.selects yX6_addBidder.cls yX6_addBidder yX6_addBidder ∈ xx_gws := ⟨(gc_WX6_1 _ (List.mem_of_getElem? (i := 13) rfl)), (gc_WX6_1 _ (List.mem_of_getElem? (i := 14) rfl))⟩
theorem ce_X6_areNeighbours : xx_ce m_X6_areNeighbours := ⟨(gc_WX6_1 _ (List.mem_of_getElem? (i := 5) rfl)), (gc_Z_0 _ (List.mem_of_getElem? (i := 1) rfl)), xx_nc6, xx_pd24, Nat.le_of_ble_eq_true rfl⟩
theorem iv_X6_areNeighbours : Cond.instanceMethod yX6_areNeighbours ∈ xx_gws ∧ Cond.selects yX6_areNeighbours.cls yX6_areNeighbours yX6_areNeighbours ∈ xx_gws := ⟨(gc_WX6_1 _ (List.mem_of_getElem? (i := 3) rfl)), (gc_WX6_1 _ (List.mem_of_getElem? (i := 4) rfl))⟩
theorem ce_X6_areAllies : xx_ce m_X6_areAllies := ⟨(gc_WX6_1 _ (List.mem_of_getElem? (i := 2) rfl)), (gc_Z_0 _ (List.mem_of_getElem? (i := 1) rfl)), xx_nc6, xx_pd24, Nat.le_of_ble_eq_true rfl⟩
theorem iv_X6_areAllies : Cond.instanceMethod yX6_areAllies ∈ xx_gws ∧ Cond.selects yX6_areAllies.cls yX6_areAllies yX6_areAllies ∈ xx_gws := ⟨(gc_WX6_1 _ (List.mem_of_getElem? (i := 0) rfl)), (gc_WX6_1 _ (List.mem_of_getElem? (i := 1) rfl))⟩
theorem ce_X6_isCode : xx_ce m_X6_isCode := ⟨(gc_WX6_2 _ (List.mem_of_getElem? (i := 2) rfl)), (gc_Z_0 _ (List.mem_of_getElem? (i := 1) rfl)), xx_nc6, xx_pd10, Nat.le_of_ble_eq_true rfl⟩
theorem iv_X6_isCode : Cond.instanceMethod yX6_isCode ∈ xx_gws ∧ Cond.selects yX6_isCode.cls yX6_isCode yX6_isCode ∈ xx_gws := ⟨(gc_WX6_2 _ (List.mem_of_getElem? (i := 0) rfl)), (gc_WX6_2 _ (List.mem_of_getElem? (i := 1) rfl))⟩
theorem ce_X6_mayOffer : xx_ce m_X6_mayOffer := ⟨(gc_WX6_2 _ (List.mem_of_getElem? (i := 5) rfl)), (gc_Z_0 _ (List.mem_of_getElem? (i := 1) rfl)), xx_nc6, xx_pd37, Nat.le_of_ble_eq_true rfl⟩
theorem iv_X6_mayOffer : Cond.instanceMethod yX6_mayOffer ∈ xx_gws ∧ Cond.selects yX6_mayOffer.cls yX6_mayOffer yX6_mayOffer ∈ xx_gws := ⟨(gc_WX6_2 _ (List.mem_of_getElem? (i := 3) rfl)), (gc_WX6_2 _ (List.mem_of_getElem? (i := 4) rfl))⟩
theorem ce_X6_isWithinCap : xx_ce m_X6_isWithinCap := ⟨(gc_WX6_2 _ (List.mem_of_getElem? (i := 9) rfl)), (gc_Z_0 _ (List.mem_of_getElem? (i := 1) rfl)), xx_nc6, xx_pd10, Nat.le_of_ble_eq_true rfl⟩
theorem iv_X6_isWithinCap : Cond.instanceMethod yX6_isWithinCap ∈ xx_gws ∧ Cond.selects yX6_isWithinCap.cls yX6_isWithinCap yX6_isWithinCap ∈ xx_gws := ⟨(gc_WX6_2 _ (List.mem_of_getElem? (i := 8) rfl)), (gc_WX6_0 _ (List.mem_of_getElem? (i := 0) rfl))⟩
theorem ce_X7_init : xx_ce m_X7_init := ⟨(gc_WX7_1 _ (List.mem_of_getElem? (i := 4) rfl)), (gc_Z_0 _ (List.mem_of_getElem? (i := 0) rfl)), xx_nc7, xx_pd6, Nat.le_of_ble_eq_true rfl⟩
theorem ii_X7_init : yX7_init.name = "<init>" ∧ m_X7_init.2.2.2.1 = none ∧ Cond.instanceMethod yX7_init ∈ xx_gws := ⟨rfl, rfl, (gc_WX7_1 _ (List.mem_of_getElem? (i := 3) rfl))⟩
theorem ce_X7_region : xx_ce m_X7_region := ⟨(gc_WX7_9 _ (List.mem_of_getElem? (i := 2) rfl)), (gc_Z_0 _ (List.mem_of_getElem? (i := 0) rfl)), xx_nc7, xx_pd1, Nat.le_of_ble_eq_true rfl⟩
theorem iv_X7_region : Cond.instanceMethod yX7_region ∈ xx_gws ∧ Cond.selects yX7_region.cls yX7_region yX7_region ∈ xx_gws := ⟨(gc_WX7_9 _ (List.mem_of_getElem? (i := 0) rfl)), (gc_WX7_9 _ (List.mem_of_getElem? (i := 1) rfl))⟩
theorem ce_X7_border : xx_ce m_X7_border := ⟨(gc_WX7_10 _ (List.mem_of_getElem? (i := 1) rfl)), (gc_Z_0 _ (List.mem_of_getElem? (i := 0) rfl)), xx_nc7, xx_pd0, Nat.le_of_ble_eq_true rfl⟩
theorem iv_X7_border : Cond.instanceMethod yX7_border ∈ xx_gws ∧ Cond.selects yX7_border.cls yX7_border yX7_border ∈ xx_gws := ⟨(gc_WX7_9 _ (List.mem_of_getElem? (i := 15) rfl)), (gc_WX7_10 _ (List.mem_of_getElem? (i := 0) rfl))⟩
theorem ce_X7_bidder : xx_ce m_X7_bidder := ⟨(gc_WX7_10 _ (List.mem_of_getElem? (i := 10) rfl)), (gc_Z_0 _ (List.mem_of_getElem? (i := 0) rfl)), xx_nc7, xx_pd36, Nat.le_of_ble_eq_true rfl⟩
theorem iv_X7_bidder : Cond.instanceMethod yX7_bidder ∈ xx_gws ∧ Cond.selects yX7_bidder.cls yX7_bidder yX7_bidder ∈ xx_gws := ⟨(gc_WX7_10 _ (List.mem_of_getElem? (i := 8) rfl)), (gc_WX7_10 _ (List.mem_of_getElem? (i := 9) rfl))⟩
theorem ce_X7_rules : xx_ce m_X7_rules := ⟨(gc_WX7_10 _ (List.mem_of_getElem? (i := 15) rfl)), (gc_Z_0 _ (List.mem_of_getElem? (i := 0) rfl)), xx_nc7, xx_pd38, Nat.le_of_ble_eq_true rfl⟩
theorem iv_X7_rules : Cond.instanceMethod yX7_rules ∈ xx_gws ∧ Cond.selects yX7_rules.cls yX7_rules yX7_rules ∈ xx_gws := ⟨(gc_WX7_10 _ (List.mem_of_getElem? (i := 13) rfl)), (gc_WX7_10 _ (List.mem_of_getElem? (i := 14) rfl))⟩
theorem ce_X7_step : xx_ce m_X7_step := ⟨(gc_WX7_11 _ (List.mem_of_getElem? (i := 2) rfl)), (gc_Z_0 _ (List.mem_of_getElem? (i := 0) rfl)), xx_nc7, xx_pd13, Nat.le_of_ble_eq_true rfl⟩
theorem iv_X7_step : Cond.instanceMethod yX7_step ∈ xx_gws ∧ Cond.selects yX7_step.cls yX7_step yX7_step ∈ xx_gws := ⟨(gc_WX7_11 _ (List.mem_of_getElem? (i := 0) rfl)), (gc_WX7_11 _ (List.mem_of_getElem? (i := 1) rfl))⟩
theorem ce_X7_open : xx_ce m_X7_open := ⟨(gc_WX7_11 _ (List.mem_of_getElem? (i := 5) rfl)), (gc_Z_0 _ (List.mem_of_getElem? (i := 0) rfl)), xx_nc7, xx_pd16, Nat.le_of_ble_eq_true rfl⟩
theorem iv_X7_open : Cond.instanceMethod yX7_open ∈ xx_gws ∧ Cond.selects yX7_open.cls yX7_open yX7_open ∈ xx_gws := ⟨(gc_WX7_11 _ (List.mem_of_getElem? (i := 3) rfl)), (gc_WX7_11 _ (List.mem_of_getElem? (i := 4) rfl))⟩
theorem ce_X7_wish : xx_ce m_X7_wish := ⟨(gc_WX7_11 _ (List.mem_of_getElem? (i := 9) rfl)), (gc_Z_0 _ (List.mem_of_getElem? (i := 0) rfl)), xx_nc7, xx_pd1, Nat.le_of_ble_eq_true rfl⟩
theorem iv_X7_wish : Cond.instanceMethod yX7_wish ∈ xx_gws ∧ Cond.selects yX7_wish.cls yX7_wish yX7_wish ∈ xx_gws := ⟨(gc_WX7_11 _ (List.mem_of_getElem? (i := 7) rfl)), (gc_WX7_11 _ (List.mem_of_getElem? (i := 8) rfl))⟩
theorem ce_X7_waive : xx_ce m_X7_waive := ⟨(gc_WX7_12 _ (List.mem_of_getElem? (i := 1) rfl)), (gc_Z_0 _ (List.mem_of_getElem? (i := 0) rfl)), xx_nc7, xx_pd13, Nat.le_of_ble_eq_true rfl⟩
theorem iv_X7_waive : Cond.instanceMethod yX7_waive ∈ xx_gws ∧ Cond.selects yX7_waive.cls yX7_waive yX7_waive ∈ xx_gws := ⟨(gc_WX7_11 _ (List.mem_of_getElem? (i := 15) rfl)), (gc_WX7_12 _ (List.mem_of_getElem? (i := 0) rfl))⟩
theorem ce_X7_close : xx_ce m_X7_close := ⟨(gc_WX7_12 _ (List.mem_of_getElem? (i := 6) rfl)), (gc_Z_0 _ (List.mem_of_getElem? (i := 0) rfl)), xx_nc7, xx_pd13, Nat.le_of_ble_eq_true rfl⟩
theorem iv_X7_close : Cond.instanceMethod yX7_close ∈ xx_gws ∧ Cond.selects yX7_close.cls yX7_close yX7_close ∈ xx_gws := ⟨(gc_WX7_12 _ (List.mem_of_getElem? (i := 4) rfl)), (gc_WX7_12 _ (List.mem_of_getElem? (i := 5) rfl))⟩
theorem ce_X7_offer : xx_ce m_X7_offer := ⟨(gc_WX7_13 _ (List.mem_of_getElem? (i := 0) rfl)), (gc_Z_0 _ (List.mem_of_getElem? (i := 0) rfl)), xx_nc7, xx_pd1, Nat.le_of_ble_eq_true rfl⟩
theorem iv_X7_offer : Cond.instanceMethod yX7_offer ∈ xx_gws ∧ Cond.selects yX7_offer.cls yX7_offer yX7_offer ∈ xx_gws := ⟨(gc_WX7_12 _ (List.mem_of_getElem? (i := 14) rfl)), (gc_WX7_12 _ (List.mem_of_getElem? (i := 15) rfl))⟩
theorem ce_X7_settle : xx_ce m_X7_settle := ⟨(gc_WX7_13 _ (List.mem_of_getElem? (i := 5) rfl)), (gc_Z_0 _ (List.mem_of_getElem? (i := 0) rfl)), xx_nc7, xx_pd13, Nat.le_of_ble_eq_true rfl⟩
theorem iv_X7_settle : Cond.instanceMethod yX7_settle ∈ xx_gws ∧ Cond.selects yX7_settle.cls yX7_settle yX7_settle ∈ xx_gws := ⟨(gc_WX7_13 _ (List.mem_of_getElem? (i := 3) rfl)), (gc_WX7_13 _ (List.mem_of_getElem? (i := 4) rfl))⟩
theorem ce_X7_fail : xx_ce m_X7_fail := ⟨(gc_WX7_13 _ (List.mem_of_getElem? (i := 9) rfl)), (gc_Z_0 _ (List.mem_of_getElem? (i := 0) rfl)), xx_nc7, xx_pd13, Nat.le_of_ble_eq_true rfl⟩
theorem iv_X7_fail : Cond.instanceMethod yX7_fail ∈ xx_gws ∧ Cond.selects yX7_fail.cls yX7_fail yX7_fail ∈ xx_gws := ⟨(gc_WX7_13 _ (List.mem_of_getElem? (i := 7) rfl)), (gc_WX7_13 _ (List.mem_of_getElem? (i := 8) rfl))⟩
theorem ce_X7_station : xx_ce m_X7_station := ⟨(gc_WX7_13 _ (List.mem_of_getElem? (i := 13) rfl)), (gc_Z_0 _ (List.mem_of_getElem? (i := 0) rfl)), xx_nc7, xx_pd0, Nat.le_of_ble_eq_true rfl⟩
theorem iv_X7_station : Cond.instanceMethod yX7_station ∈ xx_gws ∧ Cond.selects yX7_station.cls yX7_station yX7_station ∈ xx_gws := ⟨(gc_WX7_13 _ (List.mem_of_getElem? (i := 11) rfl)), (gc_WX7_13 _ (List.mem_of_getElem? (i := 12) rfl))⟩
theorem ce_X7_ask : xx_ce m_X7_ask := ⟨(gc_WX7_14 _ (List.mem_of_getElem? (i := 1) rfl)), (gc_Z_0 _ (List.mem_of_getElem? (i := 0) rfl)), xx_nc7, xx_pd0, Nat.le_of_ble_eq_true rfl⟩
theorem iv_X7_ask : Cond.instanceMethod yX7_ask ∈ xx_gws ∧ Cond.selects yX7_ask.cls yX7_ask yX7_ask ∈ xx_gws := ⟨(gc_WX7_13 _ (List.mem_of_getElem? (i := 15) rfl)), (gc_WX7_14 _ (List.mem_of_getElem? (i := 0) rfl))⟩
theorem ce_X7_packs : xx_ce m_X7_packs := ⟨(gc_WX7_14 _ (List.mem_of_getElem? (i := 7) rfl)), (gc_Z_0 _ (List.mem_of_getElem? (i := 0) rfl)), xx_nc7, xx_pd24, Nat.le_of_ble_eq_true rfl⟩
theorem iv_X7_packs : Cond.instanceMethod yX7_packs ∈ xx_gws ∧ Cond.selects yX7_packs.cls yX7_packs yX7_packs ∈ xx_gws := ⟨(gc_WX7_14 _ (List.mem_of_getElem? (i := 5) rfl)), (gc_WX7_14 _ (List.mem_of_getElem? (i := 6) rfl))⟩
theorem ce_X7_channel : xx_ce m_X7_channel := ⟨(gc_WX7_14 _ (List.mem_of_getElem? (i := 14) rfl)), (gc_Z_0 _ (List.mem_of_getElem? (i := 0) rfl)), xx_nc7, xx_pd1, Nat.le_of_ble_eq_true rfl⟩
theorem iv_X7_channel : Cond.instanceMethod yX7_channel ∈ xx_gws ∧ Cond.selects yX7_channel.cls yX7_channel yX7_channel ∈ xx_gws := ⟨(gc_WX7_14 _ (List.mem_of_getElem? (i := 12) rfl)), (gc_WX7_14 _ (List.mem_of_getElem? (i := 13) rfl))⟩
theorem ce_X7_clear : xx_ce m_X7_clear := ⟨(gc_WX7_15 _ (List.mem_of_getElem? (i := 2) rfl)), (gc_Z_0 _ (List.mem_of_getElem? (i := 0) rfl)), xx_nc7, xx_pd13, Nat.le_of_ble_eq_true rfl⟩
theorem iv_X7_clear : Cond.instanceMethod yX7_clear ∈ xx_gws ∧ Cond.selects yX7_clear.cls yX7_clear yX7_clear ∈ xx_gws := ⟨(gc_WX7_15 _ (List.mem_of_getElem? (i := 0) rfl)), (gc_WX7_15 _ (List.mem_of_getElem? (i := 1) rfl))⟩
theorem ce_X7_ofRegion : xx_ce m_X7_ofRegion := ⟨(gc_WX7_15 _ (List.mem_of_getElem? (i := 5) rfl)), (gc_Z_0 _ (List.mem_of_getElem? (i := 0) rfl)), xx_nc7, xx_pd0, Nat.le_of_ble_eq_true rfl⟩
theorem iv_X7_ofRegion : Cond.instanceMethod yX7_ofRegion ∈ xx_gws ∧ Cond.selects yX7_ofRegion.cls yX7_ofRegion yX7_ofRegion ∈ xx_gws := ⟨(gc_WX7_15 _ (List.mem_of_getElem? (i := 3) rfl)), (gc_WX7_15 _ (List.mem_of_getElem? (i := 4) rfl))⟩
theorem ce_X7_ofBidder : xx_ce m_X7_ofBidder := ⟨(gc_WX7_15 _ (List.mem_of_getElem? (i := 8) rfl)), (gc_Z_0 _ (List.mem_of_getElem? (i := 0) rfl)), xx_nc7, xx_pd0, Nat.le_of_ble_eq_true rfl⟩
theorem iv_X7_ofBidder : Cond.instanceMethod yX7_ofBidder ∈ xx_gws ∧ Cond.selects yX7_ofBidder.cls yX7_ofBidder yX7_ofBidder ∈ xx_gws := ⟨(gc_WX7_15 _ (List.mem_of_getElem? (i := 6) rfl)), (gc_WX7_15 _ (List.mem_of_getElem? (i := 7) rfl))⟩
theorem ce_X7_wants : xx_ce m_X7_wants := ⟨(gc_WX7_15 _ (List.mem_of_getElem? (i := 11) rfl)), (gc_Z_0 _ (List.mem_of_getElem? (i := 0) rfl)), xx_nc7, xx_pd39, Nat.le_of_ble_eq_true rfl⟩
theorem iv_X7_wants : Cond.instanceMethod yX7_wants ∈ xx_gws ∧ Cond.selects yX7_wants.cls yX7_wants yX7_wants ∈ xx_gws := ⟨(gc_WX7_15 _ (List.mem_of_getElem? (i := 9) rfl)), (gc_WX7_15 _ (List.mem_of_getElem? (i := 10) rfl))⟩
theorem ce_X7_priceIn : xx_ce m_X7_priceIn := ⟨(gc_WX7_15 _ (List.mem_of_getElem? (i := 15) rfl)), (gc_Z_0 _ (List.mem_of_getElem? (i := 0) rfl)), xx_nc7, xx_pd0, Nat.le_of_ble_eq_true rfl⟩
theorem iv_X7_priceIn : Cond.instanceMethod yX7_priceIn ∈ xx_gws ∧ Cond.selects yX7_priceIn.cls yX7_priceIn yX7_priceIn ∈ xx_gws := ⟨(gc_WX7_15 _ (List.mem_of_getElem? (i := 13) rfl)), (gc_WX7_15 _ (List.mem_of_getElem? (i := 14) rfl))⟩
theorem ce_X7_codeIn : xx_ce m_X7_codeIn := ⟨(gc_WX7_16 _ (List.mem_of_getElem? (i := 5) rfl)), (gc_Z_0 _ (List.mem_of_getElem? (i := 0) rfl)), xx_nc7, xx_pd39, Nat.le_of_ble_eq_true rfl⟩
theorem iv_X7_codeIn : Cond.instanceMethod yX7_codeIn ∈ xx_gws ∧ Cond.selects yX7_codeIn.cls yX7_codeIn yX7_codeIn ∈ xx_gws := ⟨(gc_WX7_16 _ (List.mem_of_getElem? (i := 3) rfl)), (gc_WX7_16 _ (List.mem_of_getElem? (i := 4) rfl))⟩
theorem ce_X7_ofPackage : xx_ce m_X7_ofPackage := ⟨(gc_WX7_16 _ (List.mem_of_getElem? (i := 8) rfl)), (gc_Z_0 _ (List.mem_of_getElem? (i := 0) rfl)), xx_nc7, xx_pd39, Nat.le_of_ble_eq_true rfl⟩
theorem iv_X7_ofPackage : Cond.instanceMethod yX7_ofPackage ∈ xx_gws ∧ Cond.selects yX7_ofPackage.cls yX7_ofPackage yX7_ofPackage ∈ xx_gws := ⟨(gc_WX7_16 _ (List.mem_of_getElem? (i := 6) rfl)), (gc_WX7_16 _ (List.mem_of_getElem? (i := 7) rfl))⟩
theorem ce_X7_wins : xx_ce m_X7_wins := ⟨(gc_WX7_16 _ (List.mem_of_getElem? (i := 11) rfl)), (gc_Z_0 _ (List.mem_of_getElem? (i := 0) rfl)), xx_nc7, xx_pd13, Nat.le_of_ble_eq_true rfl⟩
theorem iv_X7_wins : Cond.instanceMethod yX7_wins ∈ xx_gws ∧ Cond.selects yX7_wins.cls yX7_wins yX7_wins ∈ xx_gws := ⟨(gc_WX7_16 _ (List.mem_of_getElem? (i := 9) rfl)), (gc_WX7_16 _ (List.mem_of_getElem? (i := 10) rfl))⟩
theorem ce_X7_pays : xx_ce m_X7_pays := ⟨(gc_WX7_16 _ (List.mem_of_getElem? (i := 14) rfl)), (gc_Z_0 _ (List.mem_of_getElem? (i := 0) rfl)), xx_nc7, xx_pd38, Nat.le_of_ble_eq_true rfl⟩
theorem iv_X7_pays : Cond.instanceMethod yX7_pays ∈ xx_gws ∧ Cond.selects yX7_pays.cls yX7_pays yX7_pays ∈ xx_gws := ⟨(gc_WX7_16 _ (List.mem_of_getElem? (i := 12) rfl)), (gc_WX7_16 _ (List.mem_of_getElem? (i := 13) rfl))⟩
theorem ce_X7_holder : xx_ce m_X7_holder := ⟨(gc_WX7_17 _ (List.mem_of_getElem? (i := 1) rfl)), (gc_Z_0 _ (List.mem_of_getElem? (i := 0) rfl)), xx_nc7, xx_pd0, Nat.le_of_ble_eq_true rfl⟩
theorem iv_X7_holder : Cond.instanceMethod yX7_holder ∈ xx_gws ∧ Cond.selects yX7_holder.cls yX7_holder yX7_holder ∈ xx_gws := ⟨(gc_WX7_16 _ (List.mem_of_getElem? (i := 15) rfl)), (gc_WX7_17 _ (List.mem_of_getElem? (i := 0) rfl))⟩
theorem ce_X7_chart : xx_ce m_X7_chart := ⟨(gc_WX7_17 _ (List.mem_of_getElem? (i := 4) rfl)), (gc_Z_0 _ (List.mem_of_getElem? (i := 0) rfl)), xx_nc7, xx_pd40, Nat.le_of_ble_eq_true rfl⟩
theorem iv_X7_chart : Cond.instanceMethod yX7_chart ∈ xx_gws ∧ Cond.selects yX7_chart.cls yX7_chart yX7_chart ∈ xx_gws := ⟨(gc_WX7_17 _ (List.mem_of_getElem? (i := 2) rfl)), (gc_WX7_17 _ (List.mem_of_getElem? (i := 3) rfl))⟩
theorem ce_X7_sale : xx_ce m_X7_sale := ⟨(gc_WX7_17 _ (List.mem_of_getElem? (i := 8) rfl)), (gc_Z_0 _ (List.mem_of_getElem? (i := 0) rfl)), xx_nc7, xx_pd13, Nat.le_of_ble_eq_true rfl⟩
theorem iv_X7_sale : Cond.instanceMethod yX7_sale ∈ xx_gws ∧ Cond.selects yX7_sale.cls yX7_sale yX7_sale ∈ xx_gws := ⟨(gc_WX7_17 _ (List.mem_of_getElem? (i := 6) rfl)), (gc_WX7_17 _ (List.mem_of_getElem? (i := 7) rfl))⟩
theorem ce_X7_worth : xx_ce m_X7_worth := ⟨(gc_WX7_17 _ (List.mem_of_getElem? (i := 11) rfl)), (gc_Z_0 _ (List.mem_of_getElem? (i := 0) rfl)), xx_nc7, xx_pd13, Nat.le_of_ble_eq_true rfl⟩
theorem iv_X7_worth : Cond.instanceMethod yX7_worth ∈ xx_gws ∧ Cond.selects yX7_worth.cls yX7_worth yX7_worth ∈ xx_gws := ⟨(gc_WX7_17 _ (List.mem_of_getElem? (i := 9) rfl)), (gc_WX7_17 _ (List.mem_of_getElem? (i := 10) rfl))⟩
theorem ce_X7_wouldPay : xx_ce m_X7_wouldPay := ⟨(gc_WX7_17 _ (List.mem_of_getElem? (i := 14) rfl)), (gc_Z_0 _ (List.mem_of_getElem? (i := 0) rfl)), xx_nc7, xx_pd0, Nat.le_of_ble_eq_true rfl⟩
theorem iv_X7_wouldPay : Cond.instanceMethod yX7_wouldPay ∈ xx_gws ∧ Cond.selects yX7_wouldPay.cls yX7_wouldPay yX7_wouldPay ∈ xx_gws := ⟨(gc_WX7_17 _ (List.mem_of_getElem? (i := 12) rfl)), (gc_WX7_17 _ (List.mem_of_getElem? (i := 13) rfl))⟩
theorem ce_X7_objects : xx_ce m_X7_objects := ⟨(gc_WX7_18 _ (List.mem_of_getElem? (i := 1) rfl)), (gc_Z_0 _ (List.mem_of_getElem? (i := 0) rfl)), xx_nc7, xx_pd0, Nat.le_of_ble_eq_true rfl⟩
theorem iv_X7_objects : Cond.instanceMethod yX7_objects ∈ xx_gws ∧ Cond.selects yX7_objects.cls yX7_objects yX7_objects ∈ xx_gws := ⟨(gc_WX7_17 _ (List.mem_of_getElem? (i := 15) rfl)), (gc_WX7_18 _ (List.mem_of_getElem? (i := 0) rfl))⟩
theorem ce_X7_most : xx_ce m_X7_most := ⟨(gc_WX7_18 _ (List.mem_of_getElem? (i := 6) rfl)), (gc_Z_0 _ (List.mem_of_getElem? (i := 0) rfl)), xx_nc7, xx_pd0, Nat.le_of_ble_eq_true rfl⟩
theorem iv_X7_most : Cond.instanceMethod yX7_most ∈ xx_gws ∧ Cond.selects yX7_most.cls yX7_most yX7_most ∈ xx_gws := ⟨(gc_WX7_18 _ (List.mem_of_getElem? (i := 4) rfl)), (gc_WX7_18 _ (List.mem_of_getElem? (i := 5) rfl))⟩
theorem ce_X7_contradicts : xx_ce m_X7_contradicts := ⟨(gc_WX7_18 _ (List.mem_of_getElem? (i := 10) rfl)), (gc_Z_0 _ (List.mem_of_getElem? (i := 0) rfl)), xx_nc7, xx_pd13, Nat.le_of_ble_eq_true rfl⟩
theorem iv_X7_contradicts : Cond.instanceMethod yX7_contradicts ∈ xx_gws ∧ Cond.selects yX7_contradicts.cls yX7_contradicts yX7_contradicts ∈ xx_gws := ⟨(gc_WX7_18 _ (List.mem_of_getElem? (i := 8) rfl)), (gc_WX7_18 _ (List.mem_of_getElem? (i := 9) rfl))⟩
theorem ce_X7_anew : xx_ce m_X7_anew := ⟨(gc_WX7_18 _ (List.mem_of_getElem? (i := 14) rfl)), (gc_Z_0 _ (List.mem_of_getElem? (i := 0) rfl)), xx_nc7, xx_pd36, Nat.le_of_ble_eq_true rfl⟩
theorem iv_X7_anew : Cond.instanceMethod yX7_anew ∈ xx_gws ∧ Cond.selects yX7_anew.cls yX7_anew yX7_anew ∈ xx_gws := ⟨(gc_WX7_18 _ (List.mem_of_getElem? (i := 12) rfl)), (gc_WX7_18 _ (List.mem_of_getElem? (i := 13) rfl))⟩
theorem ce_X7_knock : xx_ce m_X7_knock := ⟨(gc_WX7_4 _ (List.mem_of_getElem? (i := 11) rfl)), (gc_Z_0 _ (List.mem_of_getElem? (i := 0) rfl)), xx_nc7, xx_pd16, Nat.le_of_ble_eq_true rfl⟩
theorem iv_X7_knock : Cond.instanceMethod yX7_knock ∈ xx_gws ∧ Cond.selects yX7_knock.cls yX7_knock yX7_knock ∈ xx_gws := ⟨(gc_WX7_4 _ (List.mem_of_getElem? (i := 9) rfl)), (gc_WX7_4 _ (List.mem_of_getElem? (i := 10) rfl))⟩
theorem ce_X7_isSound : xx_ce m_X7_isSound := ⟨(gc_WX7_4 _ (List.mem_of_getElem? (i := 14) rfl)), (gc_Z_0 _ (List.mem_of_getElem? (i := 0) rfl)), xx_nc7, xx_pd41, Nat.le_of_ble_eq_true rfl⟩
theorem iv_X7_isSound : Cond.instanceMethod yX7_isSound ∈ xx_gws ∧ Cond.selects yX7_isSound.cls yX7_isSound yX7_isSound ∈ xx_gws := ⟨(gc_WX7_4 _ (List.mem_of_getElem? (i := 12) rfl)), (gc_WX7_4 _ (List.mem_of_getElem? (i := 13) rfl))⟩
theorem ce_X7_digest : xx_ce m_X7_digest := ⟨(gc_WX7_6 _ (List.mem_of_getElem? (i := 1) rfl)), (gc_Z_0 _ (List.mem_of_getElem? (i := 0) rfl)), xx_nc7, xx_pd42, Nat.le_of_ble_eq_true rfl⟩
theorem iv_X7_digest : Cond.instanceMethod yX7_digest ∈ xx_gws ∧ Cond.selects yX7_digest.cls yX7_digest yX7_digest ∈ xx_gws := ⟨(gc_WX7_5 _ (List.mem_of_getElem? (i := 15) rfl)), (gc_WX7_6 _ (List.mem_of_getElem? (i := 0) rfl))⟩
theorem ce_X7_needBetween : xx_ce m_X7_needBetween := ⟨(gc_WX7_9 _ (List.mem_of_getElem? (i := 5) rfl)), (gc_Z_0 _ (List.mem_of_getElem? (i := 0) rfl)), xx_nc7, xx_pd43, Nat.le_of_ble_eq_true rfl⟩
theorem st_X7_needBetween : Cond.static yX7_needBetween ∈ xx_gws := (gc_WX7_9 _ (List.mem_of_getElem? (i := 4) rfl))
theorem ce_X7_needSet : xx_ce m_X7_needSet := ⟨(gc_WX7_14 _ (List.mem_of_getElem? (i := 10) rfl)), (gc_Z_0 _ (List.mem_of_getElem? (i := 0) rfl)), xx_nc7, xx_pd21, Nat.le_of_ble_eq_true rfl⟩
theorem st_X7_needSet : Cond.static yX7_needSet ∈ xx_gws := (gc_WX7_14 _ (List.mem_of_getElem? (i := 9) rfl))
theorem ce_X7_needStage : xx_ce m_X7_needStage := ⟨(gc_WX7_9 _ (List.mem_of_getElem? (i := 10) rfl)), (gc_Z_0 _ (List.mem_of_getElem? (i := 0) rfl)), xx_nc7, xx_pd11, Nat.le_of_ble_eq_true rfl⟩
theorem iv_X7_needStage : Cond.instanceMethod yX7_needStage ∈ xx_gws ∧ Cond.selects yX7_needStage.cls yX7_needStage yX7_needStage ∈ xx_gws := ⟨(gc_WX7_9 _ (List.mem_of_getElem? (i := 9) rfl)), (gc_WX7_0 _ (List.mem_of_getElem? (i := 13) rfl))⟩
theorem ce_X7_needRegion : xx_ce m_X7_needRegion := ⟨(gc_WX7_10 _ (List.mem_of_getElem? (i := 4) rfl)), (gc_Z_0 _ (List.mem_of_getElem? (i := 0) rfl)), xx_nc7, xx_pd11, Nat.le_of_ble_eq_true rfl⟩
theorem iv_X7_needRegion : Cond.instanceMethod yX7_needRegion ∈ xx_gws ∧ Cond.selects yX7_needRegion.cls yX7_needRegion yX7_needRegion ∈ xx_gws := ⟨(gc_WX7_10 _ (List.mem_of_getElem? (i := 3) rfl)), (gc_WX7_0 _ (List.mem_of_getElem? (i := 14) rfl))⟩
theorem ce_X7_needBidder : xx_ce m_X7_needBidder := ⟨(gc_WX7_11 _ (List.mem_of_getElem? (i := 12) rfl)), (gc_Z_0 _ (List.mem_of_getElem? (i := 0) rfl)), xx_nc7, xx_pd11, Nat.le_of_ble_eq_true rfl⟩
theorem iv_X7_needBidder : Cond.instanceMethod yX7_needBidder ∈ xx_gws ∧ Cond.selects yX7_needBidder.cls yX7_needBidder yX7_needBidder ∈ xx_gws := ⟨(gc_WX7_11 _ (List.mem_of_getElem? (i := 11) rfl)), (gc_WX7_0 _ (List.mem_of_getElem? (i := 15) rfl))⟩
theorem ce_X7_needStation : xx_ce m_X7_needStation := ⟨(gc_WX7_14 _ (List.mem_of_getElem? (i := 4) rfl)), (gc_Z_0 _ (List.mem_of_getElem? (i := 0) rfl)), xx_nc7, xx_pd11, Nat.le_of_ble_eq_true rfl⟩
theorem iv_X7_needStation : Cond.instanceMethod yX7_needStation ∈ xx_gws ∧ Cond.selects yX7_needStation.cls yX7_needStation yX7_needStation ∈ xx_gws := ⟨(gc_WX7_14 _ (List.mem_of_getElem? (i := 3) rfl)), (gc_WX7_1 _ (List.mem_of_getElem? (i := 1) rfl))⟩
theorem ce_X7_needRound : xx_ce m_X7_needRound := ⟨(gc_WX7_16 _ (List.mem_of_getElem? (i := 2) rfl)), (gc_Z_0 _ (List.mem_of_getElem? (i := 0) rfl)), xx_nc7, xx_pd11, Nat.le_of_ble_eq_true rfl⟩
theorem iv_X7_needRound : Cond.instanceMethod yX7_needRound ∈ xx_gws ∧ Cond.selects yX7_needRound.cls yX7_needRound yX7_needRound ∈ xx_gws := ⟨(gc_WX7_16 _ (List.mem_of_getElem? (i := 1) rfl)), (gc_WX7_1 _ (List.mem_of_getElem? (i := 2) rfl))⟩
theorem ce_X7_endClock : xx_ce m_X7_endClock := ⟨(gc_WX7_12 _ (List.mem_of_getElem? (i := 10) rfl)), (gc_Z_0 _ (List.mem_of_getElem? (i := 0) rfl)), xx_nc7, xx_pd6, Nat.le_of_ble_eq_true rfl⟩
theorem iv_X7_endClock : Cond.instanceMethod yX7_endClock ∈ xx_gws ∧ Cond.selects yX7_endClock.cls yX7_endClock yX7_endClock ∈ xx_gws := ⟨(gc_WX7_12 _ (List.mem_of_getElem? (i := 9) rfl)), (gc_WX7_1 _ (List.mem_of_getElem? (i := 0) rfl))⟩
theorem ce_X7_paymentOf : xx_ce m_X7_paymentOf := ⟨(gc_WX7_5 _ (List.mem_of_getElem? (i := 12) rfl)), (gc_Z_0 _ (List.mem_of_getElem? (i := 0) rfl)), xx_nc7, xx_pd13, Nat.le_of_ble_eq_true rfl⟩
theorem iv_X7_paymentOf : Cond.instanceMethod yX7_paymentOf ∈ xx_gws ∧ Cond.selects yX7_paymentOf.cls yX7_paymentOf yX7_paymentOf ∈ xx_gws := ⟨(gc_WX7_5 _ (List.mem_of_getElem? (i := 11) rfl)), (gc_WX7_0 _ (List.mem_of_getElem? (i := 3) rfl))⟩
theorem ce_X7_dueOf : xx_ce m_X7_dueOf := ⟨(gc_WX7_7 _ (List.mem_of_getElem? (i := 0) rfl)), (gc_Z_0 _ (List.mem_of_getElem? (i := 0) rfl)), xx_nc7, xx_pd13, Nat.le_of_ble_eq_true rfl⟩
theorem iv_X7_dueOf : Cond.instanceMethod yX7_dueOf ∈ xx_gws ∧ Cond.selects yX7_dueOf.cls yX7_dueOf yX7_dueOf ∈ xx_gws := ⟨(gc_WX7_6 _ (List.mem_of_getElem? (i := 15) rfl)), (gc_WX7_0 _ (List.mem_of_getElem? (i := 7) rfl))⟩
theorem ce_X7_allDue : xx_ce m_X7_allDue := ⟨(gc_WX7_6 _ (List.mem_of_getElem? (i := 13) rfl)), (gc_Z_0 _ (List.mem_of_getElem? (i := 0) rfl)), xx_nc7, xx_pd16, Nat.le_of_ble_eq_true rfl⟩
theorem iv_X7_allDue : Cond.instanceMethod yX7_allDue ∈ xx_gws ∧ Cond.selects yX7_allDue.cls yX7_allDue yX7_allDue ∈ xx_gws := ⟨(gc_WX7_6 _ (List.mem_of_getElem? (i := 12) rfl)), (gc_WX7_0 _ (List.mem_of_getElem? (i := 6) rfl))⟩
theorem ce_X7_roundNow : xx_ce m_X7_roundNow := ⟨(gc_WX7_6 _ (List.mem_of_getElem? (i := 8) rfl)), (gc_Z_0 _ (List.mem_of_getElem? (i := 0) rfl)), xx_nc7, xx_pd16, Nat.le_of_ble_eq_true rfl⟩
theorem iv_X7_roundNow : Cond.instanceMethod yX7_roundNow ∈ xx_gws ∧ Cond.selects yX7_roundNow.cls yX7_roundNow yX7_roundNow ∈ xx_gws := ⟨(gc_WX7_6 _ (List.mem_of_getElem? (i := 7) rfl)), (gc_WX7_0 _ (List.mem_of_getElem? (i := 5) rfl))⟩
theorem ce_X7_regionFact : xx_ce m_X7_regionFact := ⟨(gc_WX7_7 _ (List.mem_of_getElem? (i := 13) rfl)), (gc_Z_0 _ (List.mem_of_getElem? (i := 0) rfl)), xx_nc7, xx_pd0, Nat.le_of_ble_eq_true rfl⟩
theorem iv_X7_regionFact : Cond.instanceMethod yX7_regionFact ∈ xx_gws ∧ Cond.selects yX7_regionFact.cls yX7_regionFact yX7_regionFact ∈ xx_gws := ⟨(gc_WX7_7 _ (List.mem_of_getElem? (i := 12) rfl)), (gc_WX7_0 _ (List.mem_of_getElem? (i := 9) rfl))⟩
theorem ce_X7_bidderFact : xx_ce m_X7_bidderFact := ⟨(gc_WX7_8 _ (List.mem_of_getElem? (i := 8) rfl)), (gc_Z_0 _ (List.mem_of_getElem? (i := 0) rfl)), xx_nc7, xx_pd0, Nat.le_of_ble_eq_true rfl⟩
theorem iv_X7_bidderFact : Cond.instanceMethod yX7_bidderFact ∈ xx_gws ∧ Cond.selects yX7_bidderFact.cls yX7_bidderFact yX7_bidderFact ∈ xx_gws := ⟨(gc_WX7_8 _ (List.mem_of_getElem? (i := 7) rfl)), (gc_WX7_0 _ (List.mem_of_getElem? (i := 11) rfl))⟩
theorem ce_X7_saleFact : xx_ce m_X7_saleFact := ⟨(gc_WX7_6 _ (List.mem_of_getElem? (i := 5) rfl)), (gc_Z_0 _ (List.mem_of_getElem? (i := 0) rfl)), xx_nc7, xx_pd13, Nat.le_of_ble_eq_true rfl⟩
theorem iv_X7_saleFact : Cond.instanceMethod yX7_saleFact ∈ xx_gws ∧ Cond.selects yX7_saleFact.cls yX7_saleFact yX7_saleFact ∈ xx_gws := ⟨(gc_WX7_6 _ (List.mem_of_getElem? (i := 4) rfl)), (gc_WX7_0 _ (List.mem_of_getElem? (i := 4) rfl))⟩
theorem ce_X7_isClockSound : xx_ce m_X7_isClockSound := ⟨(gc_WX7_5 _ (List.mem_of_getElem? (i := 5) rfl)), (gc_Z_0 _ (List.mem_of_getElem? (i := 0) rfl)), xx_nc7, xx_pd41, Nat.le_of_ble_eq_true rfl⟩
theorem iv_X7_isClockSound : Cond.instanceMethod yX7_isClockSound ∈ xx_gws ∧ Cond.selects yX7_isClockSound.cls yX7_isClockSound yX7_isClockSound ∈ xx_gws := ⟨(gc_WX7_5 _ (List.mem_of_getElem? (i := 4) rfl)), (gc_WX7_0 _ (List.mem_of_getElem? (i := 1) rfl))⟩
theorem ce_X7_isSettlementSound : xx_ce m_X7_isSettlementSound := ⟨(gc_WX7_5 _ (List.mem_of_getElem? (i := 9) rfl)), (gc_Z_0 _ (List.mem_of_getElem? (i := 0) rfl)), xx_nc7, xx_pd41, Nat.le_of_ble_eq_true rfl⟩
theorem iv_X7_isSettlementSound : Cond.instanceMethod yX7_isSettlementSound ∈ xx_gws ∧ Cond.selects yX7_isSettlementSound.cls yX7_isSettlementSound yX7_isSettlementSound ∈ xx_gws := ⟨(gc_WX7_5 _ (List.mem_of_getElem? (i := 8) rfl)), (gc_WX7_0 _ (List.mem_of_getElem? (i := 2) rfl))⟩
theorem ce_X7_isReplaySame : xx_ce m_X7_isReplaySame := ⟨(gc_WX7_5 _ (List.mem_of_getElem? (i := 2) rfl)), (gc_Z_0 _ (List.mem_of_getElem? (i := 0) rfl)), xx_nc7, xx_pd41, Nat.le_of_ble_eq_true rfl⟩
theorem iv_X7_isReplaySame : Cond.instanceMethod yX7_isReplaySame ∈ xx_gws ∧ Cond.selects yX7_isReplaySame.cls yX7_isReplaySame yX7_isReplaySame ∈ xx_gws := ⟨(gc_WX7_5 _ (List.mem_of_getElem? (i := 1) rfl)), (gc_WX7_0 _ (List.mem_of_getElem? (i := 0) rfl))⟩
theorem ce_X7_mixed : xx_ce m_X7_mixed := ⟨(gc_WX7_7 _ (List.mem_of_getElem? (i := 4) rfl)), (gc_Z_0 _ (List.mem_of_getElem? (i := 0) rfl)), xx_nc7, xx_pd44, Nat.le_of_ble_eq_true rfl⟩
theorem st_X7_mixed : Cond.static yX7_mixed ∈ xx_gws := (gc_WX7_7 _ (List.mem_of_getElem? (i := 3) rfl))
theorem ce_X7_withRegion : xx_ce m_X7_withRegion := ⟨(gc_WX7_7 _ (List.mem_of_getElem? (i := 10) rfl)), (gc_Z_0 _ (List.mem_of_getElem? (i := 0) rfl)), xx_nc7, xx_pd45, Nat.le_of_ble_eq_true rfl⟩
theorem iv_X7_withRegion : Cond.instanceMethod yX7_withRegion ∈ xx_gws ∧ Cond.selects yX7_withRegion.cls yX7_withRegion yX7_withRegion ∈ xx_gws := ⟨(gc_WX7_7 _ (List.mem_of_getElem? (i := 9) rfl)), (gc_WX7_0 _ (List.mem_of_getElem? (i := 8) rfl))⟩
theorem ce_X7_withBidder : xx_ce m_X7_withBidder := ⟨(gc_WX7_8 _ (List.mem_of_getElem? (i := 5) rfl)), (gc_Z_0 _ (List.mem_of_getElem? (i := 0) rfl)), xx_nc7, xx_pd46, Nat.le_of_ble_eq_true rfl⟩
theorem iv_X7_withBidder : Cond.instanceMethod yX7_withBidder ∈ xx_gws ∧ Cond.selects yX7_withBidder.cls yX7_withBidder yX7_withBidder ∈ xx_gws := ⟨(gc_WX7_8 _ (List.mem_of_getElem? (i := 4) rfl)), (gc_WX7_0 _ (List.mem_of_getElem? (i := 10) rfl))⟩
theorem ce_X7_withLastRound : xx_ce m_X7_withLastRound := ⟨(gc_WX7_8 _ (List.mem_of_getElem? (i := 13) rfl)), (gc_Z_0 _ (List.mem_of_getElem? (i := 0) rfl)), xx_nc7, xx_pd47, Nat.le_of_ble_eq_true rfl⟩
theorem iv_X7_withLastRound : Cond.instanceMethod yX7_withLastRound ∈ xx_gws ∧ Cond.selects yX7_withLastRound.cls yX7_withLastRound yX7_withLastRound ∈ xx_gws := ⟨(gc_WX7_8 _ (List.mem_of_getElem? (i := 12) rfl)), (gc_WX7_0 _ (List.mem_of_getElem? (i := 12) rfl))⟩
theorem ce_X8_init : xx_ce m_X8_init := ⟨(gw_WX8 _ (List.mem_of_getElem? (i := 1) rfl)), (gc_Z_0 _ (List.mem_of_getElem? (i := 12) rfl)), xx_nc8, xx_pd6, Nat.le_of_ble_eq_true rfl⟩
theorem ii_X8_init : yX8_init.name = "<init>" ∧ m_X8_init.2.2.2.1 = none ∧ Cond.instanceMethod yX8_init ∈ xx_gws := ⟨rfl, rfl, (gw_WX8 _ (List.mem_of_getElem? (i := 0) rfl))⟩
theorem ce_X9_init : xx_ce m_X9_init := ⟨(gw_WX9 _ (List.mem_of_getElem? (i := 1) rfl)), (gc_Z_1 _ (List.mem_of_getElem? (i := 6) rfl)), xx_nc9, xx_pd6, Nat.le_of_ble_eq_true rfl⟩
theorem ii_X9_init : yX9_init.name = "<init>" ∧ m_X9_init.2.2.2.1 = none ∧ Cond.instanceMethod yX9_init ∈ xx_gws := ⟨rfl, rfl, (gw_WX9 _ (List.mem_of_getElem? (i := 0) rfl))⟩
theorem ce_X9_many : xx_ce m_X9_many := ⟨(gw_WX9 _ (List.mem_of_getElem? (i := 8) rfl)), (gc_Z_1 _ (List.mem_of_getElem? (i := 6) rfl)), xx_nc9, xx_pd16, Nat.le_of_ble_eq_true rfl⟩
theorem iv_X9_many : Cond.instanceMethod yX9_many ∈ xx_gws ∧ Cond.selects yX9_many.cls yX9_many yX9_many ∈ xx_gws := ⟨(gw_WX9 _ (List.mem_of_getElem? (i := 6) rfl)), (gw_WX9 _ (List.mem_of_getElem? (i := 7) rfl))⟩
theorem ce_X9_code : xx_ce m_X9_code := ⟨(gw_WX9 _ (List.mem_of_getElem? (i := 12) rfl)), (gc_Z_1 _ (List.mem_of_getElem? (i := 6) rfl)), xx_nc9, xx_pd13, Nat.le_of_ble_eq_true rfl⟩
theorem iv_X9_code : Cond.instanceMethod yX9_code ∈ xx_gws ∧ Cond.selects yX9_code.cls yX9_code yX9_code ∈ xx_gws := ⟨(gw_WX9 _ (List.mem_of_getElem? (i := 10) rfl)), (gw_WX9 _ (List.mem_of_getElem? (i := 11) rfl))⟩
theorem ce_X9_amount : xx_ce m_X9_amount := ⟨(gw_WX9 _ (List.mem_of_getElem? (i := 18) rfl)), (gc_Z_1 _ (List.mem_of_getElem? (i := 6) rfl)), xx_nc9, xx_pd13, Nat.le_of_ble_eq_true rfl⟩
theorem iv_X9_amount : Cond.instanceMethod yX9_amount ∈ xx_gws ∧ Cond.selects yX9_amount.cls yX9_amount yX9_amount ∈ xx_gws := ⟨(gw_WX9 _ (List.mem_of_getElem? (i := 16) rfl)), (gw_WX9 _ (List.mem_of_getElem? (i := 17) rfl))⟩
theorem ce_X10_init : xx_ce m_X10_init := ⟨(gc_WX10_0 _ (List.mem_of_getElem? (i := 5) rfl)), (gc_Z_1 _ (List.mem_of_getElem? (i := 10) rfl)), xx_nc10, xx_pd48, Nat.le_of_ble_eq_true rfl⟩
theorem ii_X10_init : yX10_init.name = "<init>" ∧ m_X10_init.2.2.2.1 = none ∧ Cond.instanceMethod yX10_init ∈ xx_gws := ⟨rfl, rfl, (gc_WX10_0 _ (List.mem_of_getElem? (i := 4) rfl))⟩
theorem ce_X10_pick : xx_ce m_X10_pick := ⟨(gc_WX10_0 _ (List.mem_of_getElem? (i := 12) rfl)), (gc_Z_1 _ (List.mem_of_getElem? (i := 10) rfl)), xx_nc10, xx_pd43, Nat.le_of_ble_eq_true rfl⟩
theorem iv_X10_pick : Cond.instanceMethod yX10_pick ∈ xx_gws ∧ Cond.selects yX10_pick.cls yX10_pick yX10_pick ∈ xx_gws := ⟨(gc_WX10_0 _ (List.mem_of_getElem? (i := 11) rfl)), (gc_WX10_0 _ (List.mem_of_getElem? (i := 0) rfl))⟩
theorem ce_X10_canTake : xx_ce m_X10_canTake := ⟨(gc_WX10_1 _ (List.mem_of_getElem? (i := 4) rfl)), (gc_Z_1 _ (List.mem_of_getElem? (i := 10) rfl)), xx_nc10, xx_pd49, Nat.le_of_ble_eq_true rfl⟩
theorem iv_X10_canTake : Cond.instanceMethod yX10_canTake ∈ xx_gws ∧ Cond.selects yX10_canTake.cls yX10_canTake yX10_canTake ∈ xx_gws := ⟨(gc_WX10_1 _ (List.mem_of_getElem? (i := 3) rfl)), (gc_WX10_0 _ (List.mem_of_getElem? (i := 1) rfl))⟩
theorem ce_X10_take : xx_ce m_X10_take := ⟨(gc_WX10_1 _ (List.mem_of_getElem? (i := 7) rfl)), (gc_Z_1 _ (List.mem_of_getElem? (i := 10) rfl)), xx_nc10, xx_pd50, Nat.le_of_ble_eq_true rfl⟩
theorem iv_X10_take : Cond.instanceMethod yX10_take ∈ xx_gws ∧ Cond.selects yX10_take.cls yX10_take yX10_take ∈ xx_gws := ⟨(gc_WX10_1 _ (List.mem_of_getElem? (i := 6) rfl)), (gc_WX10_0 _ (List.mem_of_getElem? (i := 2) rfl))⟩
theorem ce_X10_amount : xx_ce m_X10_amount := ⟨(gc_WX10_2 _ (List.mem_of_getElem? (i := 6) rfl)), (gc_Z_1 _ (List.mem_of_getElem? (i := 10) rfl)), xx_nc10, xx_pd13, Nat.le_of_ble_eq_true rfl⟩
theorem iv_X10_amount : Cond.instanceMethod yX10_amount ∈ xx_gws ∧ Cond.selects yX10_amount.cls yX10_amount yX10_amount ∈ xx_gws := ⟨(gc_WX10_2 _ (List.mem_of_getElem? (i := 4) rfl)), (gc_WX10_2 _ (List.mem_of_getElem? (i := 5) rfl))⟩
theorem ce_X10_winners : xx_ce m_X10_winners := ⟨(gc_WX10_3 _ (List.mem_of_getElem? (i := 8) rfl)), (gc_Z_1 _ (List.mem_of_getElem? (i := 10) rfl)), xx_nc10, xx_pd16, Nat.le_of_ble_eq_true rfl⟩
theorem iv_X10_winners : Cond.instanceMethod yX10_winners ∈ xx_gws ∧ Cond.selects yX10_winners.cls yX10_winners yX10_winners ∈ xx_gws := ⟨(gc_WX10_3 _ (List.mem_of_getElem? (i := 6) rfl)), (gc_WX10_3 _ (List.mem_of_getElem? (i := 7) rfl))⟩
theorem ce_X10_worth : xx_ce m_X10_worth := ⟨(gc_WX10_2 _ (List.mem_of_getElem? (i := 14) rfl)), (gc_Z_1 _ (List.mem_of_getElem? (i := 10) rfl)), xx_nc10, xx_pd13, Nat.le_of_ble_eq_true rfl⟩
theorem iv_X10_worth : Cond.instanceMethod yX10_worth ∈ xx_gws ∧ Cond.selects yX10_worth.cls yX10_worth yX10_worth ∈ xx_gws := ⟨(gc_WX10_2 _ (List.mem_of_getElem? (i := 12) rfl)), (gc_WX10_2 _ (List.mem_of_getElem? (i := 13) rfl))⟩
theorem ce_X10_all : xx_ce m_X10_all := ⟨(gc_WX10_2 _ (List.mem_of_getElem? (i := 10) rfl)), (gc_Z_1 _ (List.mem_of_getElem? (i := 10) rfl)), xx_nc10, xx_pd16, Nat.le_of_ble_eq_true rfl⟩
theorem iv_X10_all : Cond.instanceMethod yX10_all ∈ xx_gws ∧ Cond.selects yX10_all.cls yX10_all yX10_all ∈ xx_gws := ⟨(gc_WX10_2 _ (List.mem_of_getElem? (i := 8) rfl)), (gc_WX10_2 _ (List.mem_of_getElem? (i := 9) rfl))⟩
theorem ce_X10_objection : xx_ce m_X10_objection := ⟨(gc_WX10_3 _ (List.mem_of_getElem? (i := 2) rfl)), (gc_Z_1 _ (List.mem_of_getElem? (i := 10) rfl)), xx_nc10, xx_pd2, Nat.le_of_ble_eq_true rfl⟩
theorem iv_X10_objection : Cond.instanceMethod yX10_objection ∈ xx_gws ∧ Cond.selects yX10_objection.cls yX10_objection yX10_objection ∈ xx_gws := ⟨(gc_WX10_3 _ (List.mem_of_getElem? (i := 0) rfl)), (gc_WX10_3 _ (List.mem_of_getElem? (i := 1) rfl))⟩
theorem ce_X10_payments : xx_ce m_X10_payments := ⟨(gc_WX10_2 _ (List.mem_of_getElem? (i := 2) rfl)), (gc_Z_1 _ (List.mem_of_getElem? (i := 10) rfl)), xx_nc10, xx_pd51, Nat.le_of_ble_eq_true rfl⟩
theorem iv_X10_payments : Cond.instanceMethod yX10_payments ∈ xx_gws ∧ Cond.selects yX10_payments.cls yX10_payments yX10_payments ∈ xx_gws := ⟨(gc_WX10_2 _ (List.mem_of_getElem? (i := 0) rfl)), (gc_WX10_2 _ (List.mem_of_getElem? (i := 1) rfl))⟩
theorem ce_X10_raise : xx_ce m_X10_raise := ⟨(gc_WX10_3 _ (List.mem_of_getElem? (i := 5) rfl)), (gc_Z_1 _ (List.mem_of_getElem? (i := 10) rfl)), xx_nc10, xx_pd52, Nat.le_of_ble_eq_true rfl⟩
theorem iv_X10_raise : Cond.instanceMethod yX10_raise ∈ xx_gws ∧ Cond.selects yX10_raise.cls yX10_raise yX10_raise ∈ xx_gws := ⟨(gc_WX10_3 _ (List.mem_of_getElem? (i := 4) rfl)), (gc_WX10_0 _ (List.mem_of_getElem? (i := 3) rfl))⟩
theorem ce_X11_init : xx_ce m_X11_init := ⟨(gc_WX11_0 _ (List.mem_of_getElem? (i := 1) rfl)), (gc_Z_1 _ (List.mem_of_getElem? (i := 7) rfl)), xx_nc11, xx_pd48, Nat.le_of_ble_eq_true rfl⟩
theorem ii_X11_init : yX11_init.name = "<init>" ∧ m_X11_init.2.2.2.1 = none ∧ Cond.instanceMethod yX11_init ∈ xx_gws := ⟨rfl, rfl, (gc_WX11_0 _ (List.mem_of_getElem? (i := 0) rfl))⟩
theorem ce_X11_heldIn : xx_ce m_X11_heldIn := ⟨(gc_WX11_1 _ (List.mem_of_getElem? (i := 15) rfl)), (gc_Z_1 _ (List.mem_of_getElem? (i := 7) rfl)), xx_nc11, xx_pd13, Nat.le_of_ble_eq_true rfl⟩
theorem iv_X11_heldIn : Cond.instanceMethod yX11_heldIn ∈ xx_gws ∧ Cond.selects yX11_heldIn.cls yX11_heldIn yX11_heldIn ∈ xx_gws := ⟨(gc_WX11_1 _ (List.mem_of_getElem? (i := 13) rfl)), (gc_WX11_1 _ (List.mem_of_getElem? (i := 14) rfl))⟩
theorem ce_X11_wishedIn : xx_ce m_X11_wishedIn := ⟨(gc_WX11_2 _ (List.mem_of_getElem? (i := 4) rfl)), (gc_Z_1 _ (List.mem_of_getElem? (i := 7) rfl)), xx_nc11, xx_pd13, Nat.le_of_ble_eq_true rfl⟩
theorem iv_X11_wishedIn : Cond.instanceMethod yX11_wishedIn ∈ xx_gws ∧ Cond.selects yX11_wishedIn.cls yX11_wishedIn yX11_wishedIn ∈ xx_gws := ⟨(gc_WX11_2 _ (List.mem_of_getElem? (i := 2) rfl)), (gc_WX11_2 _ (List.mem_of_getElem? (i := 3) rfl))⟩
theorem ce_X11_contradicts : xx_ce m_X11_contradicts := ⟨(gc_WX11_1 _ (List.mem_of_getElem? (i := 10) rfl)), (gc_Z_1 _ (List.mem_of_getElem? (i := 7) rfl)), xx_nc11, xx_pd13, Nat.le_of_ble_eq_true rfl⟩
theorem iv_X11_contradicts : Cond.instanceMethod yX11_contradicts ∈ xx_gws ∧ Cond.selects yX11_contradicts.cls yX11_contradicts yX11_contradicts ∈ xx_gws := ⟨(gc_WX11_1 _ (List.mem_of_getElem? (i := 8) rfl)), (gc_WX11_1 _ (List.mem_of_getElem? (i := 9) rfl))⟩
theorem ce_X11_close : xx_ce m_X11_close := ⟨(gc_WX11_1 _ (List.mem_of_getElem? (i := 6) rfl)), (gc_Z_1 _ (List.mem_of_getElem? (i := 7) rfl)), xx_nc11, xx_pd11, Nat.le_of_ble_eq_true rfl⟩
theorem iv_X11_close : Cond.instanceMethod yX11_close ∈ xx_gws ∧ Cond.selects yX11_close.cls yX11_close yX11_close ∈ xx_gws := ⟨(gc_WX11_1 _ (List.mem_of_getElem? (i := 4) rfl)), (gc_WX11_1 _ (List.mem_of_getElem? (i := 5) rfl))⟩
theorem ce_X12_init : xx_ce m_X12_init := ⟨(gw_WX12 _ (List.mem_of_getElem? (i := 1) rfl)), (gc_Z_0 _ (List.mem_of_getElem? (i := 14) rfl)), xx_nc12, xx_pd6, Nat.le_of_ble_eq_true rfl⟩
theorem ii_X12_init : yX12_init.name = "<init>" ∧ m_X12_init.2.2.2.1 = none ∧ Cond.instanceMethod yX12_init ∈ xx_gws := ⟨rfl, rfl, (gw_WX12 _ (List.mem_of_getElem? (i := 0) rfl))⟩
theorem ce_X13_init : xx_ce m_X13_init := ⟨(gw_WX13 _ (List.mem_of_getElem? (i := 1) rfl)), (gc_Z_1 _ (List.mem_of_getElem? (i := 9) rfl)), xx_nc13, xx_pd6, Nat.le_of_ble_eq_true rfl⟩
theorem ii_X13_init : yX13_init.name = "<init>" ∧ m_X13_init.2.2.2.1 = none ∧ Cond.instanceMethod yX13_init ∈ xx_gws := ⟨rfl, rfl, (gw_WX13 _ (List.mem_of_getElem? (i := 0) rfl))⟩
theorem ce_X14_init : xx_ce m_X14_init := ⟨(gc_WX14_2 _ (List.mem_of_getElem? (i := 5) rfl)), (gc_Z_0 _ (List.mem_of_getElem? (i := 8) rfl)), xx_nc14, xx_pd6, Nat.le_of_ble_eq_true rfl⟩
theorem ii_X14_init : yX14_init.name = "<init>" ∧ m_X14_init.2.2.2.1 = none ∧ Cond.instanceMethod yX14_init ∈ xx_gws := ⟨rfl, rfl, (gc_WX14_2 _ (List.mem_of_getElem? (i := 4) rfl))⟩
theorem ce_X14_thrown : xx_ce m_X14_thrown := ⟨(gc_WX14_3 _ (List.mem_of_getElem? (i := 12) rfl)), (gc_Z_0 _ (List.mem_of_getElem? (i := 8) rfl)), xx_nc14, xx_pd16, Nat.le_of_ble_eq_true rfl⟩
theorem iv_X14_thrown : Cond.instanceMethod yX14_thrown ∈ xx_gws ∧ Cond.selects yX14_thrown.cls yX14_thrown yX14_thrown ∈ xx_gws := ⟨(gc_WX14_3 _ (List.mem_of_getElem? (i := 10) rfl)), (gc_WX14_3 _ (List.mem_of_getElem? (i := 11) rfl))⟩
theorem ce_X14_refuse : xx_ce m_X14_refuse := ⟨(gc_WX14_4 _ (List.mem_of_getElem? (i := 5) rfl)), (gc_Z_0 _ (List.mem_of_getElem? (i := 8) rfl)), xx_nc14, xx_pd13, Nat.le_of_ble_eq_true rfl⟩
theorem iv_X14_refuse : Cond.instanceMethod yX14_refuse ∈ xx_gws ∧ Cond.selects yX14_refuse.cls yX14_refuse yX14_refuse ∈ xx_gws := ⟨(gc_WX14_4 _ (List.mem_of_getElem? (i := 4) rfl)), (gc_WX14_0 _ (List.mem_of_getElem? (i := 0) rfl))⟩
theorem ce_X14_is : xx_ce m_X14_is := ⟨(gc_WX14_4 _ (List.mem_of_getElem? (i := 2) rfl)), (gc_Z_0 _ (List.mem_of_getElem? (i := 8) rfl)), xx_nc14, xx_pd37, Nat.le_of_ble_eq_true rfl⟩
theorem st_X14_is : Cond.static yX14_is ∈ xx_gws := (gc_WX14_4 _ (List.mem_of_getElem? (i := 1) rfl))
theorem ce_X14_codes : xx_ce m_X14_codes := ⟨(gc_WX14_6 _ (List.mem_of_getElem? (i := 4) rfl)), (gc_Z_0 _ (List.mem_of_getElem? (i := 8) rfl)), xx_nc14, xx_pd53, Nat.le_of_ble_eq_true rfl⟩
theorem st_X14_codes : Cond.static yX14_codes ∈ xx_gws := (gc_WX14_6 _ (List.mem_of_getElem? (i := 3) rfl))
theorem ce_X14_power : xx_ce m_X14_power := ⟨(gc_WX14_7 _ (List.mem_of_getElem? (i := 3) rfl)), (gc_Z_0 _ (List.mem_of_getElem? (i := 8) rfl)), xx_nc14, xx_pd13, Nat.le_of_ble_eq_true rfl⟩
theorem st_X14_power : Cond.static yX14_power ∈ xx_gws := (gc_WX14_7 _ (List.mem_of_getElem? (i := 2) rfl))
theorem ce_X14_of : xx_ce m_X14_of := ⟨(gc_WX14_7 _ (List.mem_of_getElem? (i := 0) rfl)), (gc_Z_0 _ (List.mem_of_getElem? (i := 8) rfl)), xx_nc14, xx_pd0, Nat.le_of_ble_eq_true rfl⟩
theorem st_X14_of : Cond.static yX14_of ∈ xx_gws := (gc_WX14_6 _ (List.mem_of_getElem? (i := 15) rfl))
theorem ce_X14_with : xx_ce m_X14_with := ⟨(gc_WX14_7 _ (List.mem_of_getElem? (i := 6) rfl)), (gc_Z_0 _ (List.mem_of_getElem? (i := 8) rfl)), xx_nc14, xx_pd1, Nat.le_of_ble_eq_true rfl⟩
theorem st_X14_with : Cond.static yX14_with ∈ xx_gws := (gc_WX14_7 _ (List.mem_of_getElem? (i := 5) rfl))
theorem ce_X14_points : xx_ce m_X14_points := ⟨(gc_WX14_7 _ (List.mem_of_getElem? (i := 9) rfl)), (gc_Z_0 _ (List.mem_of_getElem? (i := 8) rfl)), xx_nc14, xx_pd13, Nat.le_of_ble_eq_true rfl⟩
theorem iv_X14_points : Cond.instanceMethod yX14_points ∈ xx_gws ∧ Cond.selects yX14_points.cls yX14_points yX14_points ∈ xx_gws := ⟨(gc_WX14_7 _ (List.mem_of_getElem? (i := 8) rfl)), (gc_WX14_0 _ (List.mem_of_getElem? (i := 4) rfl))⟩
theorem ce_X14_isRegion : xx_ce m_X14_isRegion := ⟨(gc_WX14_4 _ (List.mem_of_getElem? (i := 14) rfl)), (gc_Z_0 _ (List.mem_of_getElem? (i := 8) rfl)), xx_nc14, xx_pd10, Nat.le_of_ble_eq_true rfl⟩
theorem iv_X14_isRegion : Cond.instanceMethod yX14_isRegion ∈ xx_gws ∧ Cond.selects yX14_isRegion.cls yX14_isRegion yX14_isRegion ∈ xx_gws := ⟨(gc_WX14_4 _ (List.mem_of_getElem? (i := 13) rfl)), (gc_WX14_0 _ (List.mem_of_getElem? (i := 1) rfl))⟩
theorem ce_X14_isBidder : xx_ce m_X14_isBidder := ⟨(gc_WX14_6 _ (List.mem_of_getElem? (i := 10) rfl)), (gc_Z_0 _ (List.mem_of_getElem? (i := 8) rfl)), xx_nc14, xx_pd10, Nat.le_of_ble_eq_true rfl⟩
theorem iv_X14_isBidder : Cond.instanceMethod yX14_isBidder ∈ xx_gws ∧ Cond.selects yX14_isBidder.cls yX14_isBidder yX14_isBidder ∈ xx_gws := ⟨(gc_WX14_6 _ (List.mem_of_getElem? (i := 9) rfl)), (gc_WX14_0 _ (List.mem_of_getElem? (i := 2) rfl))⟩
theorem ce_X14_areStations : xx_ce m_X14_areStations := ⟨(gc_WX14_11 _ (List.mem_of_getElem? (i := 4) rfl)), (gc_Z_0 _ (List.mem_of_getElem? (i := 8) rfl)), xx_nc14, xx_pd10, Nat.le_of_ble_eq_true rfl⟩
theorem iv_X14_areStations : Cond.instanceMethod yX14_areStations ∈ xx_gws ∧ Cond.selects yX14_areStations.cls yX14_areStations yX14_areStations ∈ xx_gws := ⟨(gc_WX14_11 _ (List.mem_of_getElem? (i := 3) rfl)), (gc_WX14_0 _ (List.mem_of_getElem? (i := 10) rfl))⟩
theorem ce_X14_areBidders : xx_ce m_X14_areBidders := ⟨(gc_WX14_18 _ (List.mem_of_getElem? (i := 6) rfl)), (gc_Z_0 _ (List.mem_of_getElem? (i := 8) rfl)), xx_nc14, xx_pd10, Nat.le_of_ble_eq_true rfl⟩
theorem iv_X14_areBidders : Cond.instanceMethod yX14_areBidders ∈ xx_gws ∧ Cond.selects yX14_areBidders.cls yX14_areBidders yX14_areBidders ∈ xx_gws := ⟨(gc_WX14_18 _ (List.mem_of_getElem? (i := 5) rfl)), (gc_WX14_1 _ (List.mem_of_getElem? (i := 14) rfl))⟩
theorem ce_X14_region : xx_ce m_X14_region := ⟨(gc_WX14_3 _ (List.mem_of_getElem? (i := 15) rfl)), (gc_Z_0 _ (List.mem_of_getElem? (i := 8) rfl)), xx_nc14, xx_pd1, Nat.le_of_ble_eq_true rfl⟩
theorem iv_X14_region : Cond.instanceMethod yX14_region ∈ xx_gws ∧ Cond.selects yX14_region.cls yX14_region yX14_region ∈ xx_gws := ⟨(gc_WX14_3 _ (List.mem_of_getElem? (i := 13) rfl)), (gc_WX14_3 _ (List.mem_of_getElem? (i := 14) rfl))⟩
theorem ce_X14_border : xx_ce m_X14_border := ⟨(gc_WX14_4 _ (List.mem_of_getElem? (i := 11) rfl)), (gc_Z_0 _ (List.mem_of_getElem? (i := 8) rfl)), xx_nc14, xx_pd0, Nat.le_of_ble_eq_true rfl⟩
theorem iv_X14_border : Cond.instanceMethod yX14_border ∈ xx_gws ∧ Cond.selects yX14_border.cls yX14_border yX14_border ∈ xx_gws := ⟨(gc_WX14_4 _ (List.mem_of_getElem? (i := 9) rfl)), (gc_WX14_4 _ (List.mem_of_getElem? (i := 10) rfl))⟩
theorem ce_X14_bidder : xx_ce m_X14_bidder := ⟨(gc_WX14_5 _ (List.mem_of_getElem? (i := 4) rfl)), (gc_Z_0 _ (List.mem_of_getElem? (i := 8) rfl)), xx_nc14, xx_pd36, Nat.le_of_ble_eq_true rfl⟩
theorem iv_X14_bidder : Cond.instanceMethod yX14_bidder ∈ xx_gws ∧ Cond.selects yX14_bidder.cls yX14_bidder yX14_bidder ∈ xx_gws := ⟨(gc_WX14_5 _ (List.mem_of_getElem? (i := 2) rfl)), (gc_WX14_5 _ (List.mem_of_getElem? (i := 3) rfl))⟩
theorem ce_X14_rules : xx_ce m_X14_rules := ⟨(gc_WX14_5 _ (List.mem_of_getElem? (i := 9) rfl)), (gc_Z_0 _ (List.mem_of_getElem? (i := 8) rfl)), xx_nc14, xx_pd38, Nat.le_of_ble_eq_true rfl⟩
theorem iv_X14_rules : Cond.instanceMethod yX14_rules ∈ xx_gws ∧ Cond.selects yX14_rules.cls yX14_rules yX14_rules ∈ xx_gws := ⟨(gc_WX14_5 _ (List.mem_of_getElem? (i := 7) rfl)), (gc_WX14_5 _ (List.mem_of_getElem? (i := 8) rfl))⟩
theorem ce_X14_step : xx_ce m_X14_step := ⟨(gc_WX14_5 _ (List.mem_of_getElem? (i := 12) rfl)), (gc_Z_0 _ (List.mem_of_getElem? (i := 8) rfl)), xx_nc14, xx_pd13, Nat.le_of_ble_eq_true rfl⟩
theorem iv_X14_step : Cond.instanceMethod yX14_step ∈ xx_gws ∧ Cond.selects yX14_step.cls yX14_step yX14_step ∈ xx_gws := ⟨(gc_WX14_5 _ (List.mem_of_getElem? (i := 10) rfl)), (gc_WX14_5 _ (List.mem_of_getElem? (i := 11) rfl))⟩
theorem ce_X14_open : xx_ce m_X14_open := ⟨(gc_WX14_5 _ (List.mem_of_getElem? (i := 15) rfl)), (gc_Z_0 _ (List.mem_of_getElem? (i := 8) rfl)), xx_nc14, xx_pd16, Nat.le_of_ble_eq_true rfl⟩
theorem iv_X14_open : Cond.instanceMethod yX14_open ∈ xx_gws ∧ Cond.selects yX14_open.cls yX14_open yX14_open ∈ xx_gws := ⟨(gc_WX14_5 _ (List.mem_of_getElem? (i := 13) rfl)), (gc_WX14_5 _ (List.mem_of_getElem? (i := 14) rfl))⟩
theorem ce_X14_canWish : xx_ce m_X14_canWish := ⟨(gc_WX14_6 _ (List.mem_of_getElem? (i := 13) rfl)), (gc_Z_0 _ (List.mem_of_getElem? (i := 8) rfl)), xx_nc14, xx_pd37, Nat.le_of_ble_eq_true rfl⟩
theorem iv_X14_canWish : Cond.instanceMethod yX14_canWish ∈ xx_gws ∧ Cond.selects yX14_canWish.cls yX14_canWish yX14_canWish ∈ xx_gws := ⟨(gc_WX14_6 _ (List.mem_of_getElem? (i := 12) rfl)), (gc_WX14_0 _ (List.mem_of_getElem? (i := 3) rfl))⟩
theorem ce_X14_wish : xx_ce m_X14_wish := ⟨(gc_WX14_6 _ (List.mem_of_getElem? (i := 7) rfl)), (gc_Z_0 _ (List.mem_of_getElem? (i := 8) rfl)), xx_nc14, xx_pd1, Nat.le_of_ble_eq_true rfl⟩
theorem iv_X14_wish : Cond.instanceMethod yX14_wish ∈ xx_gws ∧ Cond.selects yX14_wish.cls yX14_wish yX14_wish ∈ xx_gws := ⟨(gc_WX14_6 _ (List.mem_of_getElem? (i := 5) rfl)), (gc_WX14_6 _ (List.mem_of_getElem? (i := 6) rfl))⟩
theorem ce_X14_waive : xx_ce m_X14_waive := ⟨(gc_WX14_7 _ (List.mem_of_getElem? (i := 12) rfl)), (gc_Z_0 _ (List.mem_of_getElem? (i := 8) rfl)), xx_nc14, xx_pd13, Nat.le_of_ble_eq_true rfl⟩
theorem iv_X14_waive : Cond.instanceMethod yX14_waive ∈ xx_gws ∧ Cond.selects yX14_waive.cls yX14_waive yX14_waive ∈ xx_gws := ⟨(gc_WX14_7 _ (List.mem_of_getElem? (i := 10) rfl)), (gc_WX14_7 _ (List.mem_of_getElem? (i := 11) rfl))⟩
theorem ce_X14_close : xx_ce m_X14_close := ⟨(gc_WX14_7 _ (List.mem_of_getElem? (i := 15) rfl)), (gc_Z_0 _ (List.mem_of_getElem? (i := 8) rfl)), xx_nc14, xx_pd13, Nat.le_of_ble_eq_true rfl⟩
theorem iv_X14_close : Cond.instanceMethod yX14_close ∈ xx_gws ∧ Cond.selects yX14_close.cls yX14_close yX14_close ∈ xx_gws := ⟨(gc_WX14_7 _ (List.mem_of_getElem? (i := 13) rfl)), (gc_WX14_7 _ (List.mem_of_getElem? (i := 14) rfl))⟩
theorem ce_X14_closeOne : xx_ce m_X14_closeOne := ⟨(gc_WX14_8 _ (List.mem_of_getElem? (i := 2) rfl)), (gc_Z_0 _ (List.mem_of_getElem? (i := 8) rfl)), xx_nc14, xx_pd6, Nat.le_of_ble_eq_true rfl⟩
theorem iv_X14_closeOne : Cond.instanceMethod yX14_closeOne ∈ xx_gws ∧ Cond.selects yX14_closeOne.cls yX14_closeOne yX14_closeOne ∈ xx_gws := ⟨(gc_WX14_8 _ (List.mem_of_getElem? (i := 1) rfl)), (gc_WX14_0 _ (List.mem_of_getElem? (i := 5) rfl))⟩
theorem ce_X14_addPackage : xx_ce m_X14_addPackage := ⟨(gc_WX14_8 _ (List.mem_of_getElem? (i := 7) rfl)), (gc_Z_0 _ (List.mem_of_getElem? (i := 8) rfl)), xx_nc14, xx_pd50, Nat.le_of_ble_eq_true rfl⟩
theorem st_X14_addPackage : Cond.static yX14_addPackage ∈ xx_gws := (gc_WX14_8 _ (List.mem_of_getElem? (i := 6) rfl))
theorem ce_X14_offer : xx_ce m_X14_offer := ⟨(gc_WX14_8 _ (List.mem_of_getElem? (i := 11) rfl)), (gc_Z_0 _ (List.mem_of_getElem? (i := 8) rfl)), xx_nc14, xx_pd1, Nat.le_of_ble_eq_true rfl⟩
theorem iv_X14_offer : Cond.instanceMethod yX14_offer ∈ xx_gws ∧ Cond.selects yX14_offer.cls yX14_offer yX14_offer ∈ xx_gws := ⟨(gc_WX14_8 _ (List.mem_of_getElem? (i := 9) rfl)), (gc_WX14_8 _ (List.mem_of_getElem? (i := 10) rfl))⟩
theorem ce_X14_keep : xx_ce m_X14_keep := ⟨(gc_WX14_9 _ (List.mem_of_getElem? (i := 3) rfl)), (gc_Z_0 _ (List.mem_of_getElem? (i := 8) rfl)), xx_nc14, xx_pd6, Nat.le_of_ble_eq_true rfl⟩
theorem iv_X14_keep : Cond.instanceMethod yX14_keep ∈ xx_gws ∧ Cond.selects yX14_keep.cls yX14_keep yX14_keep ∈ xx_gws := ⟨(gc_WX14_9 _ (List.mem_of_getElem? (i := 2) rfl)), (gc_WX14_0 _ (List.mem_of_getElem? (i := 6) rfl))⟩
theorem ce_X14_holds : xx_ce m_X14_holds := ⟨(gc_WX14_9 _ (List.mem_of_getElem? (i := 13) rfl)), (gc_Z_0 _ (List.mem_of_getElem? (i := 8) rfl)), xx_nc14, xx_pd1, Nat.le_of_ble_eq_true rfl⟩
theorem iv_X14_holds : Cond.instanceMethod yX14_holds ∈ xx_gws ∧ Cond.selects yX14_holds.cls yX14_holds yX14_holds ∈ xx_gws := ⟨(gc_WX14_9 _ (List.mem_of_getElem? (i := 12) rfl)), (gc_WX14_0 _ (List.mem_of_getElem? (i := 8) rfl))⟩
theorem ce_X14_clashes : xx_ce m_X14_clashes := ⟨(gc_WX14_9 _ (List.mem_of_getElem? (i := 10) rfl)), (gc_Z_0 _ (List.mem_of_getElem? (i := 8) rfl)), xx_nc14, xx_pd36, Nat.le_of_ble_eq_true rfl⟩
theorem iv_X14_clashes : Cond.instanceMethod yX14_clashes ∈ xx_gws ∧ Cond.selects yX14_clashes.cls yX14_clashes yX14_clashes ∈ xx_gws := ⟨(gc_WX14_9 _ (List.mem_of_getElem? (i := 9) rfl)), (gc_WX14_0 _ (List.mem_of_getElem? (i := 7) rfl))⟩
theorem ce_X14_settle : xx_ce m_X14_settle := ⟨(gc_WX14_9 _ (List.mem_of_getElem? (i := 0) rfl)), (gc_Z_0 _ (List.mem_of_getElem? (i := 8) rfl)), xx_nc14, xx_pd13, Nat.le_of_ble_eq_true rfl⟩
theorem iv_X14_settle : Cond.instanceMethod yX14_settle ∈ xx_gws ∧ Cond.selects yX14_settle.cls yX14_settle yX14_settle ∈ xx_gws := ⟨(gc_WX14_8 _ (List.mem_of_getElem? (i := 14) rfl)), (gc_WX14_8 _ (List.mem_of_getElem? (i := 15) rfl))⟩
theorem ce_X14_winnersKept : xx_ce m_X14_winnersKept := ⟨(gc_WX14_10 _ (List.mem_of_getElem? (i := 1) rfl)), (gc_Z_0 _ (List.mem_of_getElem? (i := 8) rfl)), xx_nc14, xx_pd16, Nat.le_of_ble_eq_true rfl⟩
theorem iv_X14_winnersKept : Cond.instanceMethod yX14_winnersKept ∈ xx_gws ∧ Cond.selects yX14_winnersKept.cls yX14_winnersKept yX14_winnersKept ∈ xx_gws := ⟨(gc_WX14_10 _ (List.mem_of_getElem? (i := 0) rfl)), (gc_WX14_0 _ (List.mem_of_getElem? (i := 9) rfl))⟩
theorem ce_X14_fail : xx_ce m_X14_fail := ⟨(gc_WX14_10 _ (List.mem_of_getElem? (i := 4) rfl)), (gc_Z_0 _ (List.mem_of_getElem? (i := 8) rfl)), xx_nc14, xx_pd13, Nat.le_of_ble_eq_true rfl⟩
theorem iv_X14_fail : Cond.instanceMethod yX14_fail ∈ xx_gws ∧ Cond.selects yX14_fail.cls yX14_fail yX14_fail ∈ xx_gws := ⟨(gc_WX14_10 _ (List.mem_of_getElem? (i := 2) rfl)), (gc_WX14_10 _ (List.mem_of_getElem? (i := 3) rfl))⟩
theorem ce_X14_station : xx_ce m_X14_station := ⟨(gc_WX14_10 _ (List.mem_of_getElem? (i := 8) rfl)), (gc_Z_0 _ (List.mem_of_getElem? (i := 8) rfl)), xx_nc14, xx_pd0, Nat.le_of_ble_eq_true rfl⟩
theorem iv_X14_station : Cond.instanceMethod yX14_station ∈ xx_gws ∧ Cond.selects yX14_station.cls yX14_station yX14_station ∈ xx_gws := ⟨(gc_WX14_10 _ (List.mem_of_getElem? (i := 6) rfl)), (gc_WX14_10 _ (List.mem_of_getElem? (i := 7) rfl))⟩
theorem ce_X14_ask : xx_ce m_X14_ask := ⟨(gc_WX14_10 _ (List.mem_of_getElem? (i := 11) rfl)), (gc_Z_0 _ (List.mem_of_getElem? (i := 8) rfl)), xx_nc14, xx_pd0, Nat.le_of_ble_eq_true rfl⟩
theorem iv_X14_ask : Cond.instanceMethod yX14_ask ∈ xx_gws ∧ Cond.selects yX14_ask.cls yX14_ask yX14_ask ∈ xx_gws := ⟨(gc_WX14_10 _ (List.mem_of_getElem? (i := 9) rfl)), (gc_WX14_10 _ (List.mem_of_getElem? (i := 10) rfl))⟩
theorem ce_X14_areDisturbing : xx_ce m_X14_areDisturbing := ⟨(gc_WX14_11 _ (List.mem_of_getElem? (i := 13) rfl)), (gc_Z_0 _ (List.mem_of_getElem? (i := 8) rfl)), xx_nc14, xx_pd24, Nat.le_of_ble_eq_true rfl⟩
theorem iv_X14_areDisturbing : Cond.instanceMethod yX14_areDisturbing ∈ xx_gws ∧ Cond.selects yX14_areDisturbing.cls yX14_areDisturbing yX14_areDisturbing ∈ xx_gws := ⟨(gc_WX14_11 _ (List.mem_of_getElem? (i := 12) rfl)), (gc_WX14_0 _ (List.mem_of_getElem? (i := 13) rfl))⟩
theorem ce_X14_canPack : xx_ce m_X14_canPack := ⟨(gc_WX14_11 _ (List.mem_of_getElem? (i := 7) rfl)), (gc_Z_0 _ (List.mem_of_getElem? (i := 8) rfl)), xx_nc14, xx_pd54, Nat.le_of_ble_eq_true rfl⟩
theorem iv_X14_canPack : Cond.instanceMethod yX14_canPack ∈ xx_gws ∧ Cond.selects yX14_canPack.cls yX14_canPack yX14_canPack ∈ xx_gws := ⟨(gc_WX14_11 _ (List.mem_of_getElem? (i := 6) rfl)), (gc_WX14_0 _ (List.mem_of_getElem? (i := 11) rfl))⟩
theorem ce_X14_isFree : xx_ce m_X14_isFree := ⟨(gc_WX14_11 _ (List.mem_of_getElem? (i := 10) rfl)), (gc_Z_0 _ (List.mem_of_getElem? (i := 8) rfl)), xx_nc14, xx_pd24, Nat.le_of_ble_eq_true rfl⟩
theorem iv_X14_isFree : Cond.instanceMethod yX14_isFree ∈ xx_gws ∧ Cond.selects yX14_isFree.cls yX14_isFree yX14_isFree ∈ xx_gws := ⟨(gc_WX14_11 _ (List.mem_of_getElem? (i := 9) rfl)), (gc_WX14_0 _ (List.mem_of_getElem? (i := 12) rfl))⟩
theorem ce_X14_packs : xx_ce m_X14_packs := ⟨(gc_WX14_11 _ (List.mem_of_getElem? (i := 1) rfl)), (gc_Z_0 _ (List.mem_of_getElem? (i := 8) rfl)), xx_nc14, xx_pd24, Nat.le_of_ble_eq_true rfl⟩
theorem iv_X14_packs : Cond.instanceMethod yX14_packs ∈ xx_gws ∧ Cond.selects yX14_packs.cls yX14_packs yX14_packs ∈ xx_gws := ⟨(gc_WX14_10 _ (List.mem_of_getElem? (i := 15) rfl)), (gc_WX14_11 _ (List.mem_of_getElem? (i := 0) rfl))⟩
theorem ce_X14_channel : xx_ce m_X14_channel := ⟨(gc_WX14_12 _ (List.mem_of_getElem? (i := 0) rfl)), (gc_Z_0 _ (List.mem_of_getElem? (i := 8) rfl)), xx_nc14, xx_pd1, Nat.le_of_ble_eq_true rfl⟩
theorem iv_X14_channel : Cond.instanceMethod yX14_channel ∈ xx_gws ∧ Cond.selects yX14_channel.cls yX14_channel yX14_channel ∈ xx_gws := ⟨(gc_WX14_11 _ (List.mem_of_getElem? (i := 14) rfl)), (gc_WX14_11 _ (List.mem_of_getElem? (i := 15) rfl))⟩
theorem ce_X14_isFits : xx_ce m_X14_isFits := ⟨(gc_WX14_12 _ (List.mem_of_getElem? (i := 3) rfl)), (gc_Z_0 _ (List.mem_of_getElem? (i := 8) rfl)), xx_nc14, xx_pd55, Nat.le_of_ble_eq_true rfl⟩
theorem iv_X14_isFits : Cond.instanceMethod yX14_isFits ∈ xx_gws ∧ Cond.selects yX14_isFits.cls yX14_isFits yX14_isFits ∈ xx_gws := ⟨(gc_WX14_12 _ (List.mem_of_getElem? (i := 2) rfl)), (gc_WX14_0 _ (List.mem_of_getElem? (i := 14) rfl))⟩
theorem ce_X14_clearNow : xx_ce m_X14_clearNow := ⟨(gc_WX14_12 _ (List.mem_of_getElem? (i := 9) rfl)), (gc_Z_0 _ (List.mem_of_getElem? (i := 8) rfl)), xx_nc14, xx_pd13, Nat.le_of_ble_eq_true rfl⟩
theorem iv_X14_clearNow : Cond.instanceMethod yX14_clearNow ∈ xx_gws ∧ Cond.selects yX14_clearNow.cls yX14_clearNow yX14_clearNow ∈ xx_gws := ⟨(gc_WX14_12 _ (List.mem_of_getElem? (i := 8) rfl)), (gc_WX14_0 _ (List.mem_of_getElem? (i := 15) rfl))⟩
theorem ce_X14_clear : xx_ce m_X14_clear := ⟨(gc_WX14_12 _ (List.mem_of_getElem? (i := 6) rfl)), (gc_Z_0 _ (List.mem_of_getElem? (i := 8) rfl)), xx_nc14, xx_pd13, Nat.le_of_ble_eq_true rfl⟩
theorem iv_X14_clear : Cond.instanceMethod yX14_clear ∈ xx_gws ∧ Cond.selects yX14_clear.cls yX14_clear yX14_clear ∈ xx_gws := ⟨(gc_WX14_12 _ (List.mem_of_getElem? (i := 4) rfl)), (gc_WX14_12 _ (List.mem_of_getElem? (i := 5) rfl))⟩
theorem ce_X14_ofRegionNow : xx_ce m_X14_ofRegionNow := ⟨(gc_WX14_13 _ (List.mem_of_getElem? (i := 0) rfl)), (gc_Z_0 _ (List.mem_of_getElem? (i := 8) rfl)), xx_nc14, xx_pd0, Nat.le_of_ble_eq_true rfl⟩
theorem iv_X14_ofRegionNow : Cond.instanceMethod yX14_ofRegionNow ∈ xx_gws ∧ Cond.selects yX14_ofRegionNow.cls yX14_ofRegionNow yX14_ofRegionNow ∈ xx_gws := ⟨(gc_WX14_12 _ (List.mem_of_getElem? (i := 15) rfl)), (gc_WX14_1 _ (List.mem_of_getElem? (i := 0) rfl))⟩
theorem ce_X14_stationsIn : xx_ce m_X14_stationsIn := ⟨(gc_WX14_13 _ (List.mem_of_getElem? (i := 5) rfl)), (gc_Z_0 _ (List.mem_of_getElem? (i := 8) rfl)), xx_nc14, xx_pd13, Nat.le_of_ble_eq_true rfl⟩
theorem iv_X14_stationsIn : Cond.instanceMethod yX14_stationsIn ∈ xx_gws ∧ Cond.selects yX14_stationsIn.cls yX14_stationsIn yX14_stationsIn ∈ xx_gws := ⟨(gc_WX14_13 _ (List.mem_of_getElem? (i := 4) rfl)), (gc_WX14_1 _ (List.mem_of_getElem? (i := 1) rfl))⟩
theorem ce_X14_ofRegion : xx_ce m_X14_ofRegion := ⟨(gc_WX14_12 _ (List.mem_of_getElem? (i := 13) rfl)), (gc_Z_0 _ (List.mem_of_getElem? (i := 8) rfl)), xx_nc14, xx_pd0, Nat.le_of_ble_eq_true rfl⟩
theorem iv_X14_ofRegion : Cond.instanceMethod yX14_ofRegion ∈ xx_gws ∧ Cond.selects yX14_ofRegion.cls yX14_ofRegion yX14_ofRegion ∈ xx_gws := ⟨(gc_WX14_12 _ (List.mem_of_getElem? (i := 11) rfl)), (gc_WX14_12 _ (List.mem_of_getElem? (i := 12) rfl))⟩
theorem ce_X14_heldCode : xx_ce m_X14_heldCode := ⟨(gc_WX14_13 _ (List.mem_of_getElem? (i := 14) rfl)), (gc_Z_0 _ (List.mem_of_getElem? (i := 8) rfl)), xx_nc14, xx_pd13, Nat.le_of_ble_eq_true rfl⟩
theorem iv_X14_heldCode : Cond.instanceMethod yX14_heldCode ∈ xx_gws ∧ Cond.selects yX14_heldCode.cls yX14_heldCode yX14_heldCode ∈ xx_gws := ⟨(gc_WX14_13 _ (List.mem_of_getElem? (i := 13) rfl)), (gc_WX14_1 _ (List.mem_of_getElem? (i := 3) rfl))⟩
theorem ce_X14_wishedCode : xx_ce m_X14_wishedCode := ⟨(gc_WX14_14 _ (List.mem_of_getElem? (i := 1) rfl)), (gc_Z_0 _ (List.mem_of_getElem? (i := 8) rfl)), xx_nc14, xx_pd13, Nat.le_of_ble_eq_true rfl⟩
theorem iv_X14_wishedCode : Cond.instanceMethod yX14_wishedCode ∈ xx_gws ∧ Cond.selects yX14_wishedCode.cls yX14_wishedCode yX14_wishedCode ∈ xx_gws := ⟨(gc_WX14_14 _ (List.mem_of_getElem? (i := 0) rfl)), (gc_WX14_1 _ (List.mem_of_getElem? (i := 4) rfl))⟩
theorem ce_X14_ofBidderNow : xx_ce m_X14_ofBidderNow := ⟨(gc_WX14_13 _ (List.mem_of_getElem? (i := 11) rfl)), (gc_Z_0 _ (List.mem_of_getElem? (i := 8) rfl)), xx_nc14, xx_pd0, Nat.le_of_ble_eq_true rfl⟩
theorem iv_X14_ofBidderNow : Cond.instanceMethod yX14_ofBidderNow ∈ xx_gws ∧ Cond.selects yX14_ofBidderNow.cls yX14_ofBidderNow yX14_ofBidderNow ∈ xx_gws := ⟨(gc_WX14_13 _ (List.mem_of_getElem? (i := 10) rfl)), (gc_WX14_1 _ (List.mem_of_getElem? (i := 2) rfl))⟩
theorem ce_X14_ofBidder : xx_ce m_X14_ofBidder := ⟨(gc_WX14_13 _ (List.mem_of_getElem? (i := 8) rfl)), (gc_Z_0 _ (List.mem_of_getElem? (i := 8) rfl)), xx_nc14, xx_pd0, Nat.le_of_ble_eq_true rfl⟩
theorem iv_X14_ofBidder : Cond.instanceMethod yX14_ofBidder ∈ xx_gws ∧ Cond.selects yX14_ofBidder.cls yX14_ofBidder yX14_ofBidder ∈ xx_gws := ⟨(gc_WX14_13 _ (List.mem_of_getElem? (i := 6) rfl)), (gc_WX14_13 _ (List.mem_of_getElem? (i := 7) rfl))⟩
theorem ce_X14_wants : xx_ce m_X14_wants := ⟨(gc_WX14_14 _ (List.mem_of_getElem? (i := 4) rfl)), (gc_Z_0 _ (List.mem_of_getElem? (i := 8) rfl)), xx_nc14, xx_pd39, Nat.le_of_ble_eq_true rfl⟩
theorem iv_X14_wants : Cond.instanceMethod yX14_wants ∈ xx_gws ∧ Cond.selects yX14_wants.cls yX14_wants yX14_wants ∈ xx_gws := ⟨(gc_WX14_14 _ (List.mem_of_getElem? (i := 2) rfl)), (gc_WX14_14 _ (List.mem_of_getElem? (i := 3) rfl))⟩
theorem ce_X14_isRound : xx_ce m_X14_isRound := ⟨(gc_WX14_14 _ (List.mem_of_getElem? (i := 10) rfl)), (gc_Z_0 _ (List.mem_of_getElem? (i := 8) rfl)), xx_nc14, xx_pd10, Nat.le_of_ble_eq_true rfl⟩
theorem iv_X14_isRound : Cond.instanceMethod yX14_isRound ∈ xx_gws ∧ Cond.selects yX14_isRound.cls yX14_isRound yX14_isRound ∈ xx_gws := ⟨(gc_WX14_14 _ (List.mem_of_getElem? (i := 9) rfl)), (gc_WX14_1 _ (List.mem_of_getElem? (i := 5) rfl))⟩
theorem ce_X14_priceIn : xx_ce m_X14_priceIn := ⟨(gc_WX14_14 _ (List.mem_of_getElem? (i := 7) rfl)), (gc_Z_0 _ (List.mem_of_getElem? (i := 8) rfl)), xx_nc14, xx_pd0, Nat.le_of_ble_eq_true rfl⟩
theorem iv_X14_priceIn : Cond.instanceMethod yX14_priceIn ∈ xx_gws ∧ Cond.selects yX14_priceIn.cls yX14_priceIn yX14_priceIn ∈ xx_gws := ⟨(gc_WX14_14 _ (List.mem_of_getElem? (i := 5) rfl)), (gc_WX14_14 _ (List.mem_of_getElem? (i := 6) rfl))⟩
theorem ce_X14_codeIn : xx_ce m_X14_codeIn := ⟨(gc_WX14_14 _ (List.mem_of_getElem? (i := 13) rfl)), (gc_Z_0 _ (List.mem_of_getElem? (i := 8) rfl)), xx_nc14, xx_pd39, Nat.le_of_ble_eq_true rfl⟩
theorem iv_X14_codeIn : Cond.instanceMethod yX14_codeIn ∈ xx_gws ∧ Cond.selects yX14_codeIn.cls yX14_codeIn yX14_codeIn ∈ xx_gws := ⟨(gc_WX14_14 _ (List.mem_of_getElem? (i := 11) rfl)), (gc_WX14_14 _ (List.mem_of_getElem? (i := 12) rfl))⟩
theorem ce_X14_ofPackage : xx_ce m_X14_ofPackage := ⟨(gc_WX14_15 _ (List.mem_of_getElem? (i := 0) rfl)), (gc_Z_0 _ (List.mem_of_getElem? (i := 8) rfl)), xx_nc14, xx_pd39, Nat.le_of_ble_eq_true rfl⟩
theorem iv_X14_ofPackage : Cond.instanceMethod yX14_ofPackage ∈ xx_gws ∧ Cond.selects yX14_ofPackage.cls yX14_ofPackage yX14_ofPackage ∈ xx_gws := ⟨(gc_WX14_14 _ (List.mem_of_getElem? (i := 14) rfl)), (gc_WX14_14 _ (List.mem_of_getElem? (i := 15) rfl))⟩
theorem ce_X14_winsNow : xx_ce m_X14_winsNow := ⟨(gc_WX14_15 _ (List.mem_of_getElem? (i := 6) rfl)), (gc_Z_0 _ (List.mem_of_getElem? (i := 8) rfl)), xx_nc14, xx_pd56, Nat.le_of_ble_eq_true rfl⟩
theorem iv_X14_winsNow : Cond.instanceMethod yX14_winsNow ∈ xx_gws ∧ Cond.selects yX14_winsNow.cls yX14_winsNow yX14_winsNow ∈ xx_gws := ⟨(gc_WX14_15 _ (List.mem_of_getElem? (i := 5) rfl)), (gc_WX14_1 _ (List.mem_of_getElem? (i := 6) rfl))⟩
theorem ce_X14_wins : xx_ce m_X14_wins := ⟨(gc_WX14_15 _ (List.mem_of_getElem? (i := 3) rfl)), (gc_Z_0 _ (List.mem_of_getElem? (i := 8) rfl)), xx_nc14, xx_pd13, Nat.le_of_ble_eq_true rfl⟩
theorem iv_X14_wins : Cond.instanceMethod yX14_wins ∈ xx_gws ∧ Cond.selects yX14_wins.cls yX14_wins yX14_wins ∈ xx_gws := ⟨(gc_WX14_15 _ (List.mem_of_getElem? (i := 1) rfl)), (gc_WX14_15 _ (List.mem_of_getElem? (i := 2) rfl))⟩
theorem ce_X14_due : xx_ce m_X14_due := ⟨(gc_WX14_15 _ (List.mem_of_getElem? (i := 12) rfl)), (gc_Z_0 _ (List.mem_of_getElem? (i := 8) rfl)), xx_nc14, xx_pd13, Nat.le_of_ble_eq_true rfl⟩
theorem iv_X14_due : Cond.instanceMethod yX14_due ∈ xx_gws ∧ Cond.selects yX14_due.cls yX14_due yX14_due ∈ xx_gws := ⟨(gc_WX14_15 _ (List.mem_of_getElem? (i := 11) rfl)), (gc_WX14_1 _ (List.mem_of_getElem? (i := 7) rfl))⟩
theorem ce_X14_paid : xx_ce m_X14_paid := ⟨(gc_WX14_16 _ (List.mem_of_getElem? (i := 0) rfl)), (gc_Z_0 _ (List.mem_of_getElem? (i := 8) rfl)), xx_nc14, xx_pd13, Nat.le_of_ble_eq_true rfl⟩
theorem iv_X14_paid : Cond.instanceMethod yX14_paid ∈ xx_gws ∧ Cond.selects yX14_paid.cls yX14_paid yX14_paid ∈ xx_gws := ⟨(gc_WX14_15 _ (List.mem_of_getElem? (i := 15) rfl)), (gc_WX14_1 _ (List.mem_of_getElem? (i := 8) rfl))⟩
theorem ce_X14_pays : xx_ce m_X14_pays := ⟨(gc_WX14_15 _ (List.mem_of_getElem? (i := 9) rfl)), (gc_Z_0 _ (List.mem_of_getElem? (i := 8) rfl)), xx_nc14, xx_pd38, Nat.le_of_ble_eq_true rfl⟩
theorem iv_X14_pays : Cond.instanceMethod yX14_pays ∈ xx_gws ∧ Cond.selects yX14_pays.cls yX14_pays yX14_pays ∈ xx_gws := ⟨(gc_WX14_15 _ (List.mem_of_getElem? (i := 7) rfl)), (gc_WX14_15 _ (List.mem_of_getElem? (i := 8) rfl))⟩
theorem ce_X14_holderNow : xx_ce m_X14_holderNow := ⟨(gc_WX14_16 _ (List.mem_of_getElem? (i := 6) rfl)), (gc_Z_0 _ (List.mem_of_getElem? (i := 8) rfl)), xx_nc14, xx_pd0, Nat.le_of_ble_eq_true rfl⟩
theorem iv_X14_holderNow : Cond.instanceMethod yX14_holderNow ∈ xx_gws ∧ Cond.selects yX14_holderNow.cls yX14_holderNow yX14_holderNow ∈ xx_gws := ⟨(gc_WX14_16 _ (List.mem_of_getElem? (i := 5) rfl)), (gc_WX14_1 _ (List.mem_of_getElem? (i := 9) rfl))⟩
theorem ce_X14_holder : xx_ce m_X14_holder := ⟨(gc_WX14_16 _ (List.mem_of_getElem? (i := 3) rfl)), (gc_Z_0 _ (List.mem_of_getElem? (i := 8) rfl)), xx_nc14, xx_pd0, Nat.le_of_ble_eq_true rfl⟩
theorem iv_X14_holder : Cond.instanceMethod yX14_holder ∈ xx_gws ∧ Cond.selects yX14_holder.cls yX14_holder yX14_holder ∈ xx_gws := ⟨(gc_WX14_16 _ (List.mem_of_getElem? (i := 1) rfl)), (gc_WX14_16 _ (List.mem_of_getElem? (i := 2) rfl))⟩
theorem ce_X14_chartNow : xx_ce m_X14_chartNow := ⟨(gc_WX14_16 _ (List.mem_of_getElem? (i := 12) rfl)), (gc_Z_0 _ (List.mem_of_getElem? (i := 8) rfl)), xx_nc14, xx_pd40, Nat.le_of_ble_eq_true rfl⟩
theorem iv_X14_chartNow : Cond.instanceMethod yX14_chartNow ∈ xx_gws ∧ Cond.selects yX14_chartNow.cls yX14_chartNow yX14_chartNow ∈ xx_gws := ⟨(gc_WX14_16 _ (List.mem_of_getElem? (i := 11) rfl)), (gc_WX14_1 _ (List.mem_of_getElem? (i := 10) rfl))⟩
theorem ce_X14_chart : xx_ce m_X14_chart := ⟨(gc_WX14_16 _ (List.mem_of_getElem? (i := 9) rfl)), (gc_Z_0 _ (List.mem_of_getElem? (i := 8) rfl)), xx_nc14, xx_pd40, Nat.le_of_ble_eq_true rfl⟩
theorem iv_X14_chart : Cond.instanceMethod yX14_chart ∈ xx_gws ∧ Cond.selects yX14_chart.cls yX14_chart yX14_chart ∈ xx_gws := ⟨(gc_WX14_16 _ (List.mem_of_getElem? (i := 7) rfl)), (gc_WX14_16 _ (List.mem_of_getElem? (i := 8) rfl))⟩
theorem ce_X14_signals : xx_ce m_X14_signals := ⟨(gc_WX14_17 _ (List.mem_of_getElem? (i := 13) rfl)), (gc_Z_0 _ (List.mem_of_getElem? (i := 8) rfl)), xx_nc14, xx_pd16, Nat.le_of_ble_eq_true rfl⟩
theorem iv_X14_signals : Cond.instanceMethod yX14_signals ∈ xx_gws ∧ Cond.selects yX14_signals.cls yX14_signals yX14_signals ∈ xx_gws := ⟨(gc_WX14_17 _ (List.mem_of_getElem? (i := 12) rfl)), (gc_WX14_1 _ (List.mem_of_getElem? (i := 12) rfl))⟩
theorem ce_X14_isSignal : xx_ce m_X14_isSignal := ⟨(gc_WX14_18 _ (List.mem_of_getElem? (i := 0) rfl)), (gc_Z_0 _ (List.mem_of_getElem? (i := 8) rfl)), xx_nc14, xx_pd24, Nat.le_of_ble_eq_true rfl⟩
theorem iv_X14_isSignal : Cond.instanceMethod yX14_isSignal ∈ xx_gws ∧ Cond.selects yX14_isSignal.cls yX14_isSignal yX14_isSignal ∈ xx_gws := ⟨(gc_WX14_17 _ (List.mem_of_getElem? (i := 15) rfl)), (gc_WX14_1 _ (List.mem_of_getElem? (i := 13) rfl))⟩
theorem ce_X14_saleNow : xx_ce m_X14_saleNow := ⟨(gc_WX14_17 _ (List.mem_of_getElem? (i := 7) rfl)), (gc_Z_0 _ (List.mem_of_getElem? (i := 8) rfl)), xx_nc14, xx_pd56, Nat.le_of_ble_eq_true rfl⟩
theorem iv_X14_saleNow : Cond.instanceMethod yX14_saleNow ∈ xx_gws ∧ Cond.selects yX14_saleNow.cls yX14_saleNow yX14_saleNow ∈ xx_gws := ⟨(gc_WX14_17 _ (List.mem_of_getElem? (i := 6) rfl)), (gc_WX14_1 _ (List.mem_of_getElem? (i := 11) rfl))⟩
theorem ce_X14_sale : xx_ce m_X14_sale := ⟨(gc_WX14_17 _ (List.mem_of_getElem? (i := 4) rfl)), (gc_Z_0 _ (List.mem_of_getElem? (i := 8) rfl)), xx_nc14, xx_pd13, Nat.le_of_ble_eq_true rfl⟩
theorem iv_X14_sale : Cond.instanceMethod yX14_sale ∈ xx_gws ∧ Cond.selects yX14_sale.cls yX14_sale yX14_sale ∈ xx_gws := ⟨(gc_WX14_17 _ (List.mem_of_getElem? (i := 2) rfl)), (gc_WX14_17 _ (List.mem_of_getElem? (i := 3) rfl))⟩
theorem ce_X14_worth : xx_ce m_X14_worth := ⟨(gc_WX14_18 _ (List.mem_of_getElem? (i := 3) rfl)), (gc_Z_0 _ (List.mem_of_getElem? (i := 8) rfl)), xx_nc14, xx_pd13, Nat.le_of_ble_eq_true rfl⟩
theorem iv_X14_worth : Cond.instanceMethod yX14_worth ∈ xx_gws ∧ Cond.selects yX14_worth.cls yX14_worth yX14_worth ∈ xx_gws := ⟨(gc_WX14_18 _ (List.mem_of_getElem? (i := 1) rfl)), (gc_WX14_18 _ (List.mem_of_getElem? (i := 2) rfl))⟩
theorem ce_X14_wouldPay : xx_ce m_X14_wouldPay := ⟨(gc_WX14_18 _ (List.mem_of_getElem? (i := 9) rfl)), (gc_Z_0 _ (List.mem_of_getElem? (i := 8) rfl)), xx_nc14, xx_pd0, Nat.le_of_ble_eq_true rfl⟩
theorem iv_X14_wouldPay : Cond.instanceMethod yX14_wouldPay ∈ xx_gws ∧ Cond.selects yX14_wouldPay.cls yX14_wouldPay yX14_wouldPay ∈ xx_gws := ⟨(gc_WX14_18 _ (List.mem_of_getElem? (i := 7) rfl)), (gc_WX14_18 _ (List.mem_of_getElem? (i := 8) rfl))⟩
theorem ce_X14_objects : xx_ce m_X14_objects := ⟨(gc_WX14_18 _ (List.mem_of_getElem? (i := 12) rfl)), (gc_Z_0 _ (List.mem_of_getElem? (i := 8) rfl)), xx_nc14, xx_pd0, Nat.le_of_ble_eq_true rfl⟩
theorem iv_X14_objects : Cond.instanceMethod yX14_objects ∈ xx_gws ∧ Cond.selects yX14_objects.cls yX14_objects yX14_objects ∈ xx_gws := ⟨(gc_WX14_18 _ (List.mem_of_getElem? (i := 10) rfl)), (gc_WX14_18 _ (List.mem_of_getElem? (i := 11) rfl))⟩
theorem ce_X14_most : xx_ce m_X14_most := ⟨(gc_WX14_19 _ (List.mem_of_getElem? (i := 1) rfl)), (gc_Z_0 _ (List.mem_of_getElem? (i := 8) rfl)), xx_nc14, xx_pd0, Nat.le_of_ble_eq_true rfl⟩
theorem iv_X14_most : Cond.instanceMethod yX14_most ∈ xx_gws ∧ Cond.selects yX14_most.cls yX14_most yX14_most ∈ xx_gws := ⟨(gc_WX14_18 _ (List.mem_of_getElem? (i := 15) rfl)), (gc_WX14_19 _ (List.mem_of_getElem? (i := 0) rfl))⟩
theorem ce_X14_contradicts : xx_ce m_X14_contradicts := ⟨(gc_WX14_19 _ (List.mem_of_getElem? (i := 4) rfl)), (gc_Z_0 _ (List.mem_of_getElem? (i := 8) rfl)), xx_nc14, xx_pd13, Nat.le_of_ble_eq_true rfl⟩
theorem iv_X14_contradicts : Cond.instanceMethod yX14_contradicts ∈ xx_gws ∧ Cond.selects yX14_contradicts.cls yX14_contradicts yX14_contradicts ∈ xx_gws := ⟨(gc_WX14_19 _ (List.mem_of_getElem? (i := 2) rfl)), (gc_WX14_19 _ (List.mem_of_getElem? (i := 3) rfl))⟩
theorem ce_X14_runAnew : xx_ce m_X14_runAnew := ⟨(gc_WX14_19 _ (List.mem_of_getElem? (i := 11) rfl)), (gc_Z_0 _ (List.mem_of_getElem? (i := 8) rfl)), xx_nc14, xx_pd57, Nat.le_of_ble_eq_true rfl⟩
theorem iv_X14_runAnew : Cond.instanceMethod yX14_runAnew ∈ xx_gws ∧ Cond.selects yX14_runAnew.cls yX14_runAnew yX14_runAnew ∈ xx_gws := ⟨(gc_WX14_19 _ (List.mem_of_getElem? (i := 10) rfl)), (gc_WX14_1 _ (List.mem_of_getElem? (i := 15) rfl))⟩
theorem ce_X14_anew : xx_ce m_X14_anew := ⟨(gc_WX14_19 _ (List.mem_of_getElem? (i := 8) rfl)), (gc_Z_0 _ (List.mem_of_getElem? (i := 8) rfl)), xx_nc14, xx_pd36, Nat.le_of_ble_eq_true rfl⟩
theorem iv_X14_anew : Cond.instanceMethod yX14_anew ∈ xx_gws ∧ Cond.selects yX14_anew.cls yX14_anew yX14_anew ∈ xx_gws := ⟨(gc_WX14_19 _ (List.mem_of_getElem? (i := 6) rfl)), (gc_WX14_19 _ (List.mem_of_getElem? (i := 7) rfl))⟩
theorem ce_X14_knock : xx_ce m_X14_knock := ⟨(gc_WX14_19 _ (List.mem_of_getElem? (i := 14) rfl)), (gc_Z_0 _ (List.mem_of_getElem? (i := 8) rfl)), xx_nc14, xx_pd16, Nat.le_of_ble_eq_true rfl⟩
theorem iv_X14_knock : Cond.instanceMethod yX14_knock ∈ xx_gws ∧ Cond.selects yX14_knock.cls yX14_knock yX14_knock ∈ xx_gws := ⟨(gc_WX14_19 _ (List.mem_of_getElem? (i := 12) rfl)), (gc_WX14_19 _ (List.mem_of_getElem? (i := 13) rfl))⟩
theorem ce_X14_isSoundNow : xx_ce m_X14_isSoundNow := ⟨(gc_WX14_20 _ (List.mem_of_getElem? (i := 4) rfl)), (gc_Z_0 _ (List.mem_of_getElem? (i := 8) rfl)), xx_nc14, xx_pd41, Nat.le_of_ble_eq_true rfl⟩
theorem iv_X14_isSoundNow : Cond.instanceMethod yX14_isSoundNow ∈ xx_gws ∧ Cond.selects yX14_isSoundNow.cls yX14_isSoundNow yX14_isSoundNow ∈ xx_gws := ⟨(gc_WX14_20 _ (List.mem_of_getElem? (i := 3) rfl)), (gc_WX14_2 _ (List.mem_of_getElem? (i := 0) rfl))⟩
theorem ce_X14_areNamed : xx_ce m_X14_areNamed := ⟨(gc_WX14_20 _ (List.mem_of_getElem? (i := 7) rfl)), (gc_Z_0 _ (List.mem_of_getElem? (i := 8) rfl)), xx_nc14, xx_pd41, Nat.le_of_ble_eq_true rfl⟩
theorem iv_X14_areNamed : Cond.instanceMethod yX14_areNamed ∈ xx_gws ∧ Cond.selects yX14_areNamed.cls yX14_areNamed yX14_areNamed ∈ xx_gws := ⟨(gc_WX14_20 _ (List.mem_of_getElem? (i := 6) rfl)), (gc_WX14_2 _ (List.mem_of_getElem? (i := 1) rfl))⟩
theorem ce_X14_isLogged : xx_ce m_X14_isLogged := ⟨(gc_WX14_20 _ (List.mem_of_getElem? (i := 11) rfl)), (gc_Z_0 _ (List.mem_of_getElem? (i := 8) rfl)), xx_nc14, xx_pd41, Nat.le_of_ble_eq_true rfl⟩
theorem iv_X14_isLogged : Cond.instanceMethod yX14_isLogged ∈ xx_gws ∧ Cond.selects yX14_isLogged.cls yX14_isLogged yX14_isLogged ∈ xx_gws := ⟨(gc_WX14_20 _ (List.mem_of_getElem? (i := 10) rfl)), (gc_WX14_2 _ (List.mem_of_getElem? (i := 2) rfl))⟩
theorem ce_X14_isSound : xx_ce m_X14_isSound := ⟨(gc_WX14_20 _ (List.mem_of_getElem? (i := 1) rfl)), (gc_Z_0 _ (List.mem_of_getElem? (i := 8) rfl)), xx_nc14, xx_pd41, Nat.le_of_ble_eq_true rfl⟩
theorem iv_X14_isSound : Cond.instanceMethod yX14_isSound ∈ xx_gws ∧ Cond.selects yX14_isSound.cls yX14_isSound yX14_isSound ∈ xx_gws := ⟨(gc_WX14_19 _ (List.mem_of_getElem? (i := 15) rfl)), (gc_WX14_20 _ (List.mem_of_getElem? (i := 0) rfl))⟩
theorem ce_X14_add : xx_ce m_X14_add := ⟨(gc_WX14_21 _ (List.mem_of_getElem? (i := 2) rfl)), (gc_Z_0 _ (List.mem_of_getElem? (i := 8) rfl)), xx_nc14, xx_pd58, Nat.le_of_ble_eq_true rfl⟩
theorem iv_X14_add : Cond.instanceMethod yX14_add ∈ xx_gws ∧ Cond.selects yX14_add.cls yX14_add yX14_add ∈ xx_gws := ⟨(gc_WX14_21 _ (List.mem_of_getElem? (i := 1) rfl)), (gc_WX14_2 _ (List.mem_of_getElem? (i := 3) rfl))⟩
theorem ce_X14_digest : xx_ce m_X14_digest := ⟨(gc_WX14_20 _ (List.mem_of_getElem? (i := 14) rfl)), (gc_Z_0 _ (List.mem_of_getElem? (i := 8) rfl)), xx_nc14, xx_pd42, Nat.le_of_ble_eq_true rfl⟩
theorem iv_X14_digest : Cond.instanceMethod yX14_digest ∈ xx_gws ∧ Cond.selects yX14_digest.cls yX14_digest yX14_digest ∈ xx_gws := ⟨(gc_WX14_20 _ (List.mem_of_getElem? (i := 12) rfl)), (gc_WX14_20 _ (List.mem_of_getElem? (i := 13) rfl))⟩
theorem ce_J5_init_d00df : xx_ce m_J5_init_d00df := ⟨(gw_WJ5 _ (List.mem_of_getElem? (i := 1) rfl)), (gc_Z_1 _ (List.mem_of_getElem? (i := 11) rfl)), xx_nc15, xx_pd11, Nat.le_of_ble_eq_true rfl⟩
theorem ii_J5_init_d00df : yJ5_init_d00df.name = "<init>" ∧ m_J5_init_d00df.2.2.2.1 = none ∧ Cond.instanceMethod yJ5_init_d00df ∈ xx_gws := ⟨rfl, rfl, (gw_WJ5 _ (List.mem_of_getElem? (i := 0) rfl))⟩
theorem ce_J5_length_8abf5 : xx_ce m_J5_length_8abf5 := ⟨(gw_WJ5 _ (List.mem_of_getElem? (i := 13) rfl)), (gc_Z_1 _ (List.mem_of_getElem? (i := 11) rfl)), xx_nc15, xx_pd16, Nat.le_of_ble_eq_true rfl⟩
theorem ce_J5_ensureCapacityInternal_d00df : xx_ce m_J5_ensureCapacityInternal_d00df := ⟨(gw_WJ5 _ (List.mem_of_getElem? (i := 5) rfl)), (gc_Z_1 _ (List.mem_of_getElem? (i := 11) rfl)), xx_nc15, xx_pd11, Nat.le_of_ble_eq_true rfl⟩
theorem ce_J5_newCapacity_0f7a4 : xx_ce m_J5_newCapacity_0f7a4 := ⟨(gw_WJ5 _ (List.mem_of_getElem? (i := 6) rfl)), (gc_Z_1 _ (List.mem_of_getElem? (i := 11) rfl)), xx_nc15, xx_pd13, Nat.le_of_ble_eq_true rfl⟩
theorem ce_J5_inflate_da8c8 : xx_ce m_J5_inflate_da8c8 := ⟨(gw_WJ5 _ (List.mem_of_getElem? (i := 10) rfl)), (gc_Z_1 _ (List.mem_of_getElem? (i := 11) rfl)), xx_nc15, xx_pd6, Nat.le_of_ble_eq_true rfl⟩
theorem ce_J5_setLength_d00df : xx_ce m_J5_setLength_d00df := ⟨(gw_WJ5 _ (List.mem_of_getElem? (i := 2) rfl)), (gc_Z_1 _ (List.mem_of_getElem? (i := 11) rfl)), xx_nc15, xx_pd11, Nat.le_of_ble_eq_true rfl⟩
theorem ce_J5_append_cf1ce : xx_ce m_J5_append_cf1ce := ⟨(gw_WJ5 _ (List.mem_of_getElem? (i := 3) rfl)), (gc_Z_1 _ (List.mem_of_getElem? (i := 11) rfl)), xx_nc15, xx_pd59, Nat.le_of_ble_eq_true rfl⟩
theorem ce_J5_appendNull_278bc : xx_ce m_J5_appendNull_278bc := ⟨(gw_WJ5 _ (List.mem_of_getElem? (i := 4) rfl)), (gc_Z_1 _ (List.mem_of_getElem? (i := 11) rfl)), xx_nc15, xx_pd60, Nat.le_of_ble_eq_true rfl⟩
theorem ce_J5_append_3fe6f : xx_ce m_J5_append_3fe6f := ⟨(gw_WJ5 _ (List.mem_of_getElem? (i := 14) rfl)), (gc_Z_1 _ (List.mem_of_getElem? (i := 11) rfl)), xx_nc15, xx_pd61, Nat.le_of_ble_eq_true rfl⟩
theorem ce_J5_append_c97b9 : xx_ce m_J5_append_c97b9 := ⟨(gw_WJ5 _ (List.mem_of_getElem? (i := 11) rfl)), (gc_Z_1 _ (List.mem_of_getElem? (i := 11) rfl)), xx_nc15, xx_pd62, Nat.le_of_ble_eq_true rfl⟩
theorem ce_J5_getValue_6d5f1 : xx_ce m_J5_getValue_6d5f1 := ⟨(gw_WJ5 _ (List.mem_of_getElem? (i := 12) rfl)), (gc_Z_1 _ (List.mem_of_getElem? (i := 11) rfl)), xx_nc15, xx_pd63, Nat.le_of_ble_eq_true rfl⟩
theorem ce_J5_isLatin1_aae02 : xx_ce m_J5_isLatin1_aae02 := ⟨(gw_WJ5 _ (List.mem_of_getElem? (i := 7) rfl)), (gc_Z_1 _ (List.mem_of_getElem? (i := 11) rfl)), xx_nc15, xx_pd41, Nat.le_of_ble_eq_true rfl⟩
theorem ce_J5_inflateIfNeededFor_a7421 : xx_ce m_J5_inflateIfNeededFor_a7421 := ⟨(gw_WJ5 _ (List.mem_of_getElem? (i := 9) rfl)), (gc_Z_1 _ (List.mem_of_getElem? (i := 11) rfl)), xx_nc15, xx_pd64, Nat.le_of_ble_eq_true rfl⟩
theorem ce_J5_putStringAt_47b60 : xx_ce m_J5_putStringAt_47b60 := ⟨(gw_WJ5 _ (List.mem_of_getElem? (i := 8) rfl)), (gc_Z_1 _ (List.mem_of_getElem? (i := 11) rfl)), xx_nc15, xx_pd65, Nat.le_of_ble_eq_true rfl⟩
theorem ce_Jx00060_init_d00df : xx_ce m_Jx00060_init_d00df := ⟨(gw_WJx00060 _ (List.mem_of_getElem? (i := 1) rfl)), (gc_Z_2 _ (List.mem_of_getElem? (i := 1) rfl)), xx_nc16, xx_pd11, Nat.le_of_ble_eq_true rfl⟩
theorem ii_Jx00060_init_d00df : yJx00060_init_d00df.name = "<init>" ∧ m_Jx00060_init_d00df.2.2.2.1 = none ∧ Cond.instanceMethod yJx00060_init_d00df ∈ xx_gws := ⟨rfl, rfl, (gw_WJx00060 _ (List.mem_of_getElem? (i := 0) rfl))⟩
theorem ce_J6_getChars_ba4f3 : xx_ce m_J6_getChars_ba4f3 := ⟨(gw_WJ6 _ (List.mem_of_getElem? (i := 3) rfl)), (gc_Z_1 _ (List.mem_of_getElem? (i := 2) rfl)), xx_nc17, xx_pd66, Nat.le_of_ble_eq_true rfl⟩
theorem st_J6_getChars_ba4f3 : Cond.static yJ6_getChars_ba4f3 ∈ xx_gws := (gw_WJ6 _ (List.mem_of_getElem? (i := 2) rfl))
theorem ce_J6_stringSize_0f7a4 : xx_ce m_J6_stringSize_0f7a4 := ⟨(gw_WJ6 _ (List.mem_of_getElem? (i := 1) rfl)), (gc_Z_1 _ (List.mem_of_getElem? (i := 2) rfl)), xx_nc17, xx_pd13, Nat.le_of_ble_eq_true rfl⟩
theorem st_J6_stringSize_0f7a4 : Cond.static yJ6_stringSize_0f7a4 ∈ xx_gws := (gw_WJ6 _ (List.mem_of_getElem? (i := 0) rfl))
theorem ce_J6_valueOf_2dffe : xx_ce m_J6_valueOf_2dffe := ⟨(gw_WJ6 _ (List.mem_of_getElem? (i := 10) rfl)), (gc_Z_1 _ (List.mem_of_getElem? (i := 2) rfl)), xx_nc17, xx_pd67, Nat.le_of_ble_eq_true rfl⟩
theorem st_J6_valueOf_2dffe : Cond.static yJ6_valueOf_2dffe ∈ xx_gws := (gw_WJ6 _ (List.mem_of_getElem? (i := 9) rfl))
theorem ce_J6_init_d00df : xx_ce m_J6_init_d00df := ⟨(gw_WJ6 _ (List.mem_of_getElem? (i := 12) rfl)), (gc_Z_1 _ (List.mem_of_getElem? (i := 2) rfl)), xx_nc17, xx_pd11, Nat.le_of_ble_eq_true rfl⟩
theorem ii_J6_init_d00df : yJ6_init_d00df.name = "<init>" ∧ m_J6_init_d00df.2.2.2.1 = none ∧ Cond.instanceMethod yJ6_init_d00df ∈ xx_gws := ⟨rfl, rfl, (gw_WJ6 _ (List.mem_of_getElem? (i := 11) rfl))⟩
theorem ce_J6_intValue_8abf5 : xx_ce m_J6_intValue_8abf5 := ⟨(gw_WJ6 _ (List.mem_of_getElem? (i := 15) rfl)), (gc_Z_1 _ (List.mem_of_getElem? (i := 2) rfl)), xx_nc17, xx_pd16, Nat.le_of_ble_eq_true rfl⟩
theorem iv_J6_intValue_8abf5 : Cond.instanceMethod yJ6_intValue_8abf5 ∈ xx_gws ∧ Cond.selects yJ6_intValue_8abf5.cls yJ6_intValue_8abf5 yJ6_intValue_8abf5 ∈ xx_gws := ⟨(gw_WJ6 _ (List.mem_of_getElem? (i := 13) rfl)), (gw_WJ6 _ (List.mem_of_getElem? (i := 14) rfl))⟩
theorem ce_J6_bitCount_0f7a4 : xx_ce m_J6_bitCount_0f7a4 := ⟨(gw_WJ6 _ (List.mem_of_getElem? (i := 5) rfl)), (gc_Z_1 _ (List.mem_of_getElem? (i := 2) rfl)), xx_nc17, xx_pd13, Nat.le_of_ble_eq_true rfl⟩
theorem st_J6_bitCount_0f7a4 : Cond.static yJ6_bitCount_0f7a4 ∈ xx_gws := (gw_WJ6 _ (List.mem_of_getElem? (i := 4) rfl))
theorem ce_J9_max_7cf53 : xx_ce m_J9_max_7cf53 := ⟨(gw_WJ9 _ (List.mem_of_getElem? (i := 3) rfl)), (gc_Z_1 _ (List.mem_of_getElem? (i := 0) rfl)), xx_nc18, xx_pd0, Nat.le_of_ble_eq_true rfl⟩
theorem st_J9_max_7cf53 : Cond.static yJ9_max_7cf53 ∈ xx_gws := (gw_WJ9 _ (List.mem_of_getElem? (i := 2) rfl))
theorem ce_J9_min_7cf53 : xx_ce m_J9_min_7cf53 := ⟨(gw_WJ9 _ (List.mem_of_getElem? (i := 1) rfl)), (gc_Z_1 _ (List.mem_of_getElem? (i := 0) rfl)), xx_nc18, xx_pd0, Nat.le_of_ble_eq_true rfl⟩
theorem st_J9_min_7cf53 : Cond.static yJ9_min_7cf53 ∈ xx_gws := (gw_WJ9 _ (List.mem_of_getElem? (i := 0) rfl))
theorem ce_Jxd2413_init_da8c8 : xx_ce m_Jxd2413_init_da8c8 := ⟨(gw_WJxd2413 _ (List.mem_of_getElem? (i := 1) rfl)), (gc_Z_1 _ (List.mem_of_getElem? (i := 1) rfl)), xx_nc19, xx_pd6, Nat.le_of_ble_eq_true rfl⟩
theorem ii_Jxd2413_init_da8c8 : yJxd2413_init_da8c8.name = "<init>" ∧ m_Jxd2413_init_da8c8.2.2.2.1 = none ∧ Cond.instanceMethod yJxd2413_init_da8c8 ∈ xx_gws := ⟨rfl, rfl, (gw_WJxd2413 _ (List.mem_of_getElem? (i := 0) rfl))⟩
theorem ce_J0_init_81219 : xx_ce m_J0_init_81219 := ⟨(gc_WJ0_0 _ (List.mem_of_getElem? (i := 14) rfl)), (gc_Z_1 _ (List.mem_of_getElem? (i := 13) rfl)), xx_nc20, xx_pd68, Nat.le_of_ble_eq_true rfl⟩
theorem ii_J0_init_81219 : yJ0_init_81219.name = "<init>" ∧ m_J0_init_81219.2.2.2.1 = none ∧ Cond.instanceMethod yJ0_init_81219 ∈ xx_gws := ⟨rfl, rfl, (gc_WJ0_0 _ (List.mem_of_getElem? (i := 13) rfl))⟩
theorem ce_J0_length_8abf5 : xx_ce m_J0_length_8abf5 := ⟨(gc_WJ0_0 _ (List.mem_of_getElem? (i := 4) rfl)), (gc_Z_1 _ (List.mem_of_getElem? (i := 13) rfl)), xx_nc20, xx_pd16, Nat.le_of_ble_eq_true rfl⟩
theorem iv_J0_length_8abf5 : Cond.instanceMethod yJ0_length_8abf5 ∈ xx_gws ∧ Cond.selects yJ0_length_8abf5.cls yJ0_length_8abf5 yJ0_length_8abf5 ∈ xx_gws := ⟨(gc_WJ0_0 _ (List.mem_of_getElem? (i := 2) rfl)), (gc_WJ0_0 _ (List.mem_of_getElem? (i := 3) rfl))⟩
theorem ce_J0_equals_9ea2d : xx_ce m_J0_equals_9ea2d := ⟨(gc_WJ0_1 _ (List.mem_of_getElem? (i := 5) rfl)), (gc_Z_1 _ (List.mem_of_getElem? (i := 13) rfl)), xx_nc20, xx_pd69, Nat.le_of_ble_eq_true rfl⟩
theorem iv_J0_equals_9ea2d : Cond.instanceMethod yJ0_equals_9ea2d ∈ xx_gws ∧ Cond.selects yJ0_equals_9ea2d.cls yJ0_equals_9ea2d yJ0_equals_9ea2d ∈ xx_gws := ⟨(gc_WJ0_1 _ (List.mem_of_getElem? (i := 3) rfl)), (gc_WJ0_1 _ (List.mem_of_getElem? (i := 4) rfl))⟩
theorem ce_J0_getBytes_840e7 : xx_ce m_J0_getBytes_840e7 := ⟨(gc_WJ0_0 _ (List.mem_of_getElem? (i := 12) rfl)), (gc_Z_1 _ (List.mem_of_getElem? (i := 13) rfl)), xx_nc20, xx_pd70, Nat.le_of_ble_eq_true rfl⟩
theorem iv_J0_getBytes_840e7 : Cond.instanceMethod yJ0_getBytes_840e7 ∈ xx_gws ∧ Cond.selects yJ0_getBytes_840e7.cls yJ0_getBytes_840e7 yJ0_getBytes_840e7 ∈ xx_gws := ⟨(gc_WJ0_0 _ (List.mem_of_getElem? (i := 10) rfl)), (gc_WJ0_0 _ (List.mem_of_getElem? (i := 11) rfl))⟩
theorem ce_J0_init_db425 : xx_ce m_J0_init_db425 := ⟨(gc_WJ0_1 _ (List.mem_of_getElem? (i := 0) rfl)), (gc_Z_1 _ (List.mem_of_getElem? (i := 13) rfl)), xx_nc20, xx_pd71, Nat.le_of_ble_eq_true rfl⟩
theorem ii_J0_init_db425 : yJ0_init_db425.name = "<init>" ∧ m_J0_init_db425.2.2.2.1 = none ∧ Cond.instanceMethod yJ0_init_db425 ∈ xx_gws := ⟨rfl, rfl, (gc_WJ0_0 _ (List.mem_of_getElem? (i := 15) rfl))⟩
theorem ce_J0_coder_7d493 : xx_ce m_J0_coder_7d493 := ⟨(gc_WJ0_0 _ (List.mem_of_getElem? (i := 7) rfl)), (gc_Z_1 _ (List.mem_of_getElem? (i := 13) rfl)), xx_nc20, xx_pd72, Nat.le_of_ble_eq_true rfl⟩
theorem iv_J0_coder_7d493 : Cond.instanceMethod yJ0_coder_7d493 ∈ xx_gws ∧ Cond.selects yJ0_coder_7d493.cls yJ0_coder_7d493 yJ0_coder_7d493 ∈ xx_gws := ⟨(gc_WJ0_0 _ (List.mem_of_getElem? (i := 5) rfl)), (gc_WJ0_0 _ (List.mem_of_getElem? (i := 6) rfl))⟩
theorem ce_J0_checkIndex_df160 : xx_ce m_J0_checkIndex_df160 := ⟨(gc_WJ0_1 _ (List.mem_of_getElem? (i := 2) rfl)), (gc_Z_1 _ (List.mem_of_getElem? (i := 13) rfl)), xx_nc20, xx_pd21, Nat.le_of_ble_eq_true rfl⟩
theorem st_J0_checkIndex_df160 : Cond.static yJ0_checkIndex_df160 ∈ xx_gws := (gc_WJ0_1 _ (List.mem_of_getElem? (i := 1) rfl))
theorem ce_J0_checkBoundsOffCount_cabcc : xx_ce m_J0_checkBoundsOffCount_cabcc := ⟨(gc_WJ0_0 _ (List.mem_of_getElem? (i := 9) rfl)), (gc_Z_1 _ (List.mem_of_getElem? (i := 13) rfl)), xx_nc20, xx_pd1, Nat.le_of_ble_eq_true rfl⟩
theorem st_J0_checkBoundsOffCount_cabcc : Cond.static yJ0_checkBoundsOffCount_cabcc ∈ xx_gws := (gc_WJ0_0 _ (List.mem_of_getElem? (i := 8) rfl))
theorem ce_J0_checkBoundsBeginEnd_23922 : xx_ce m_J0_checkBoundsBeginEnd_23922 := ⟨(gc_WJ0_0 _ (List.mem_of_getElem? (i := 1) rfl)), (gc_Z_1 _ (List.mem_of_getElem? (i := 13) rfl)), xx_nc20, xx_pd43, Nat.le_of_ble_eq_true rfl⟩
theorem st_J0_checkBoundsBeginEnd_23922 : Cond.static yJ0_checkBoundsBeginEnd_23922 ∈ xx_gws := (gc_WJ0_0 _ (List.mem_of_getElem? (i := 0) rfl))
theorem ce_J4_init_da8c8 : xx_ce m_J4_init_da8c8 := ⟨(gw_WJ4 _ (List.mem_of_getElem? (i := 1) rfl)), (gc_Z_1 _ (List.mem_of_getElem? (i := 12) rfl)), xx_nc21, xx_pd6, Nat.le_of_ble_eq_true rfl⟩
theorem ii_J4_init_da8c8 : yJ4_init_da8c8.name = "<init>" ∧ m_J4_init_da8c8.2.2.2.1 = none ∧ Cond.instanceMethod yJ4_init_da8c8 ∈ xx_gws := ⟨rfl, rfl, (gw_WJ4 _ (List.mem_of_getElem? (i := 0) rfl))⟩
theorem ce_J4_append_15ec4 : xx_ce m_J4_append_15ec4 := ⟨(gw_WJ4 _ (List.mem_of_getElem? (i := 7) rfl)), (gc_Z_1 _ (List.mem_of_getElem? (i := 12) rfl)), xx_nc21, xx_pd73, Nat.le_of_ble_eq_true rfl⟩
theorem iv_J4_append_15ec4 : Cond.instanceMethod yJ4_append_15ec4 ∈ xx_gws ∧ Cond.selects yJ4_append_15ec4.cls yJ4_append_15ec4 yJ4_append_15ec4 ∈ xx_gws := ⟨(gw_WJ4 _ (List.mem_of_getElem? (i := 5) rfl)), (gw_WJ4 _ (List.mem_of_getElem? (i := 6) rfl))⟩
theorem ce_J4_append_cf468 : xx_ce m_J4_append_cf468 := ⟨(gw_WJ4 _ (List.mem_of_getElem? (i := 18) rfl)), (gc_Z_1 _ (List.mem_of_getElem? (i := 12) rfl)), xx_nc21, xx_pd74, Nat.le_of_ble_eq_true rfl⟩
theorem iv_J4_append_cf468 : Cond.instanceMethod yJ4_append_cf468 ∈ xx_gws ∧ Cond.selects yJ4_append_cf468.cls yJ4_append_cf468 yJ4_append_cf468 ∈ xx_gws := ⟨(gw_WJ4 _ (List.mem_of_getElem? (i := 16) rfl)), (gw_WJ4 _ (List.mem_of_getElem? (i := 17) rfl))⟩
theorem ce_J4_append_bf812 : xx_ce m_J4_append_bf812 := ⟨(gw_WJ4 _ (List.mem_of_getElem? (i := 10) rfl)), (gc_Z_1 _ (List.mem_of_getElem? (i := 12) rfl)), xx_nc21, xx_pd75, Nat.le_of_ble_eq_true rfl⟩
theorem iv_J4_append_bf812 : Cond.instanceMethod yJ4_append_bf812 ∈ xx_gws ∧ Cond.selects yJ4_append_bf812.cls yJ4_append_bf812 yJ4_append_bf812 ∈ xx_gws := ⟨(gw_WJ4 _ (List.mem_of_getElem? (i := 8) rfl)), (gw_WJ4 _ (List.mem_of_getElem? (i := 9) rfl))⟩
theorem ce_J4_toString_0e30d : xx_ce m_J4_toString_0e30d := ⟨(gw_WJ4 _ (List.mem_of_getElem? (i := 13) rfl)), (gc_Z_1 _ (List.mem_of_getElem? (i := 12) rfl)), xx_nc21, xx_pd76, Nat.le_of_ble_eq_true rfl⟩
theorem iv_J4_toString_0e30d : Cond.instanceMethod yJ4_toString_0e30d ∈ xx_gws ∧ Cond.selects yJ4_toString_0e30d.cls yJ4_toString_0e30d yJ4_toString_0e30d ∈ xx_gws := ⟨(gw_WJ4 _ (List.mem_of_getElem? (i := 11) rfl)), (gw_WJ4 _ (List.mem_of_getElem? (i := 12) rfl))⟩
theorem ce_J4_setLength_d00df : xx_ce m_J4_setLength_d00df := ⟨(gw_WJ4 _ (List.mem_of_getElem? (i := 4) rfl)), (gc_Z_1 _ (List.mem_of_getElem? (i := 12) rfl)), xx_nc21, xx_pd11, Nat.le_of_ble_eq_true rfl⟩
theorem iv_J4_setLength_d00df : Cond.instanceMethod yJ4_setLength_d00df ∈ xx_gws ∧ Cond.selects yJ4_setLength_d00df.cls yJ4_setLength_d00df yJ4_setLength_d00df ∈ xx_gws := ⟨(gw_WJ4 _ (List.mem_of_getElem? (i := 2) rfl)), (gw_WJ4 _ (List.mem_of_getElem? (i := 3) rfl))⟩
theorem ce_J4_length_8abf5 : xx_ce m_J4_length_8abf5 := ⟨(gw_WJ4 _ (List.mem_of_getElem? (i := 15) rfl)), (gc_Z_1 _ (List.mem_of_getElem? (i := 12) rfl)), xx_nc21, xx_pd16, Nat.le_of_ble_eq_true rfl⟩
theorem iv_J4_length_8abf5 : Cond.instanceMethod yJ4_length_8abf5 ∈ xx_gws ∧ Cond.selects yJ4_length_8abf5.cls yJ4_length_8abf5 yJ4_length_8abf5 ∈ xx_gws := ⟨(gw_WJ4 _ (List.mem_of_getElem? (i := 14) rfl)), (gw_WJ4 _ (List.mem_of_getElem? (i := 19) rfl))⟩
theorem ce_Jx7c733_init_d00df : xx_ce m_Jx7c733_init_d00df := ⟨(gw_WJx7c733 _ (List.mem_of_getElem? (i := 1) rfl)), (gc_Z_2 _ (List.mem_of_getElem? (i := 0) rfl)), xx_nc22, xx_pd11, Nat.le_of_ble_eq_true rfl⟩
theorem ii_Jx7c733_init_d00df : yJx7c733_init_d00df.name = "<init>" ∧ m_Jx7c733_init_d00df.2.2.2.1 = none ∧ Cond.instanceMethod yJx7c733_init_d00df ∈ xx_gws := ⟨rfl, rfl, (gw_WJx7c733 _ (List.mem_of_getElem? (i := 0) rfl))⟩
theorem ce_J1_canEncode_fc78d : xx_ce m_J1_canEncode_fc78d := ⟨(gw_WJ1 _ (List.mem_of_getElem? (i := 5) rfl)), (gc_Z_1 _ (List.mem_of_getElem? (i := 15) rfl)), xx_nc23, xx_pd77, Nat.le_of_ble_eq_true rfl⟩
theorem st_J1_canEncode_fc78d : Cond.static yJ1_canEncode_fc78d ∈ xx_gws := (gw_WJ1 _ (List.mem_of_getElem? (i := 4) rfl))
theorem ce_J1_equals_b5fdf : xx_ce m_J1_equals_b5fdf := ⟨(gw_WJ1 _ (List.mem_of_getElem? (i := 7) rfl)), (gc_Z_1 _ (List.mem_of_getElem? (i := 15) rfl)), xx_nc23, xx_pd78, Nat.le_of_ble_eq_true rfl⟩
theorem st_J1_equals_b5fdf : Cond.static yJ1_equals_b5fdf ∈ xx_gws := (gw_WJ1 _ (List.mem_of_getElem? (i := 6) rfl))
theorem ce_J1_fillNull_b72d1 : xx_ce m_J1_fillNull_b72d1 := ⟨(gw_WJ1 _ (List.mem_of_getElem? (i := 3) rfl)), (gc_Z_1 _ (List.mem_of_getElem? (i := 15) rfl)), xx_nc23, xx_pd79, Nat.le_of_ble_eq_true rfl⟩
theorem st_J1_fillNull_b72d1 : Cond.static yJ1_fillNull_b72d1 ∈ xx_gws := (gw_WJ1 _ (List.mem_of_getElem? (i := 2) rfl))
theorem ce_J1_inflate_0e8fd : xx_ce m_J1_inflate_0e8fd := ⟨(gw_WJ1 _ (List.mem_of_getElem? (i := 1) rfl)), (gc_Z_1 _ (List.mem_of_getElem? (i := 15) rfl)), xx_nc23, xx_pd80, Nat.le_of_ble_eq_true rfl⟩
theorem st_J1_inflate_0e8fd : Cond.static yJ1_inflate_0e8fd ∈ xx_gws := (gw_WJ1 _ (List.mem_of_getElem? (i := 0) rfl))
theorem ce_J2_newBytesFor_77867 : xx_ce m_J2_newBytesFor_77867 := ⟨(gc_WJ2_0 _ (List.mem_of_getElem? (i := 1) rfl)), (gc_Z_1 _ (List.mem_of_getElem? (i := 14) rfl)), xx_nc24, xx_pd81, Nat.le_of_ble_eq_true rfl⟩
theorem st_J2_newBytesFor_77867 : Cond.static yJ2_newBytesFor_77867 ∈ xx_gws := (gc_WJ2_0 _ (List.mem_of_getElem? (i := 0) rfl))
theorem ce_J2_newBytesLength_0f7a4 : xx_ce m_J2_newBytesLength_0f7a4 := ⟨(gc_WJ2_0 _ (List.mem_of_getElem? (i := 3) rfl)), (gc_Z_1 _ (List.mem_of_getElem? (i := 14) rfl)), xx_nc24, xx_pd13, Nat.le_of_ble_eq_true rfl⟩
theorem st_J2_newBytesLength_0f7a4 : Cond.static yJ2_newBytesLength_0f7a4 ∈ xx_gws := (gc_WJ2_0 _ (List.mem_of_getElem? (i := 2) rfl))
theorem ce_J2_putChar_b72d1 : xx_ce m_J2_putChar_b72d1 := ⟨(gc_WJ2_0 _ (List.mem_of_getElem? (i := 11) rfl)), (gc_Z_1 _ (List.mem_of_getElem? (i := 14) rfl)), xx_nc24, xx_pd79, Nat.le_of_ble_eq_true rfl⟩
theorem st_J2_putChar_b72d1 : Cond.static yJ2_putChar_b72d1 ∈ xx_gws := (gc_WJ2_0 _ (List.mem_of_getElem? (i := 10) rfl))
theorem ce_J2_getChar_3b067 : xx_ce m_J2_getChar_3b067 := ⟨(gc_WJ2_1 _ (List.mem_of_getElem? (i := 9) rfl)), (gc_Z_1 _ (List.mem_of_getElem? (i := 14) rfl)), xx_nc24, xx_pd82, Nat.le_of_ble_eq_true rfl⟩
theorem st_J2_getChar_3b067 : Cond.static yJ2_getChar_3b067 ∈ xx_gws := (gc_WJ2_1 _ (List.mem_of_getElem? (i := 8) rfl))
theorem ce_J2_length_9d52b : xx_ce m_J2_length_9d52b := ⟨(gc_WJ2_0 _ (List.mem_of_getElem? (i := 9) rfl)), (gc_Z_1 _ (List.mem_of_getElem? (i := 14) rfl)), xx_nc24, xx_pd83, Nat.le_of_ble_eq_true rfl⟩
theorem st_J2_length_9d52b : Cond.static yJ2_length_9d52b ∈ xx_gws := (gc_WJ2_0 _ (List.mem_of_getElem? (i := 8) rfl))
theorem ce_J2_coderFromArrayLen_85cad : xx_ce m_J2_coderFromArrayLen_85cad := ⟨(gc_WJ2_1 _ (List.mem_of_getElem? (i := 11) rfl)), (gc_Z_1 _ (List.mem_of_getElem? (i := 14) rfl)), xx_nc24, xx_pd84, Nat.le_of_ble_eq_true rfl⟩
theorem st_J2_coderFromArrayLen_85cad : Cond.static yJ2_coderFromArrayLen_85cad ∈ xx_gws := (gc_WJ2_1 _ (List.mem_of_getElem? (i := 10) rfl))
theorem ce_J2_compress_39247 : xx_ce m_J2_compress_39247 := ⟨(gc_WJ2_1 _ (List.mem_of_getElem? (i := 5) rfl)), (gc_Z_1 _ (List.mem_of_getElem? (i := 14) rfl)), xx_nc24, xx_pd85, Nat.le_of_ble_eq_true rfl⟩
theorem st_J2_compress_39247 : Cond.static yJ2_compress_39247 ∈ xx_gws := (gc_WJ2_1 _ (List.mem_of_getElem? (i := 4) rfl))
theorem ce_J2_compress_5af95 : xx_ce m_J2_compress_5af95 := ⟨(gc_WJ2_1 _ (List.mem_of_getElem? (i := 7) rfl)), (gc_Z_1 _ (List.mem_of_getElem? (i := 14) rfl)), xx_nc24, xx_pd86, Nat.le_of_ble_eq_true rfl⟩
theorem st_J2_compress_5af95 : Cond.static yJ2_compress_5af95 ∈ xx_gws := (gc_WJ2_1 _ (List.mem_of_getElem? (i := 6) rfl))
theorem ce_J2_fillNull_b72d1 : xx_ce m_J2_fillNull_b72d1 := ⟨(gc_WJ2_1 _ (List.mem_of_getElem? (i := 13) rfl)), (gc_Z_1 _ (List.mem_of_getElem? (i := 14) rfl)), xx_nc24, xx_pd79, Nat.le_of_ble_eq_true rfl⟩
theorem st_J2_fillNull_b72d1 : Cond.static yJ2_fillNull_b72d1 ∈ xx_gws := (gc_WJ2_1 _ (List.mem_of_getElem? (i := 12) rfl))
theorem ce_J2_putCharSB_b72d1 : xx_ce m_J2_putCharSB_b72d1 := ⟨(gc_WJ2_1 _ (List.mem_of_getElem? (i := 15) rfl)), (gc_Z_1 _ (List.mem_of_getElem? (i := 14) rfl)), xx_nc24, xx_pd79, Nat.le_of_ble_eq_true rfl⟩
theorem st_J2_putCharSB_b72d1 : Cond.static yJ2_putCharSB_b72d1 ∈ xx_gws := (gc_WJ2_1 _ (List.mem_of_getElem? (i := 14) rfl))
theorem ce_J2_getChars_46870 : xx_ce m_J2_getChars_46870 := ⟨(gc_WJ2_1 _ (List.mem_of_getElem? (i := 1) rfl)), (gc_Z_1 _ (List.mem_of_getElem? (i := 14) rfl)), xx_nc24, xx_pd87, Nat.le_of_ble_eq_true rfl⟩
theorem st_J2_getChars_46870 : Cond.static yJ2_getChars_46870 ∈ xx_gws := (gc_WJ2_1 _ (List.mem_of_getElem? (i := 0) rfl))
theorem ce_J2_putCharsAt_cd4e5 : xx_ce m_J2_putCharsAt_cd4e5 := ⟨(gc_WJ2_0 _ (List.mem_of_getElem? (i := 5) rfl)), (gc_Z_1 _ (List.mem_of_getElem? (i := 14) rfl)), xx_nc24, xx_pd88, Nat.le_of_ble_eq_true rfl⟩
theorem st_J2_putCharsAt_cd4e5 : Cond.static yJ2_putCharsAt_cd4e5 ∈ xx_gws := (gc_WJ2_0 _ (List.mem_of_getElem? (i := 4) rfl))
theorem ce_J2_inflate_0e8fd : xx_ce m_J2_inflate_0e8fd := ⟨(gc_WJ2_0 _ (List.mem_of_getElem? (i := 13) rfl)), (gc_Z_1 _ (List.mem_of_getElem? (i := 14) rfl)), xx_nc24, xx_pd80, Nat.le_of_ble_eq_true rfl⟩
theorem st_J2_inflate_0e8fd : Cond.static yJ2_inflate_0e8fd ∈ xx_gws := (gc_WJ2_0 _ (List.mem_of_getElem? (i := 12) rfl))
theorem ce_J2_getChars_ba4f3 : xx_ce m_J2_getChars_ba4f3 := ⟨(gc_WJ2_1 _ (List.mem_of_getElem? (i := 3) rfl)), (gc_Z_1 _ (List.mem_of_getElem? (i := 14) rfl)), xx_nc24, xx_pd66, Nat.le_of_ble_eq_true rfl⟩
theorem st_J2_getChars_ba4f3 : Cond.static yJ2_getChars_ba4f3 ∈ xx_gws := (gc_WJ2_1 _ (List.mem_of_getElem? (i := 2) rfl))
theorem ce_J2_checkIndex_2214a : xx_ce m_J2_checkIndex_2214a := ⟨(gc_WJ2_2 _ (List.mem_of_getElem? (i := 1) rfl)), (gc_Z_1 _ (List.mem_of_getElem? (i := 14) rfl)), xx_nc24, xx_pd89, Nat.le_of_ble_eq_true rfl⟩
theorem st_J2_checkIndex_2214a : Cond.static yJ2_checkIndex_2214a ∈ xx_gws := (gc_WJ2_2 _ (List.mem_of_getElem? (i := 0) rfl))
theorem ce_J2_checkBoundsBeginEnd_d044e : xx_ce m_J2_checkBoundsBeginEnd_d044e := ⟨(gc_WJ2_0 _ (List.mem_of_getElem? (i := 7) rfl)), (gc_Z_1 _ (List.mem_of_getElem? (i := 14) rfl)), xx_nc24, xx_pd90, Nat.le_of_ble_eq_true rfl⟩
theorem st_J2_checkBoundsBeginEnd_d044e : Cond.static yJ2_checkBoundsBeginEnd_d044e ∈ xx_gws := (gc_WJ2_0 _ (List.mem_of_getElem? (i := 6) rfl))
theorem ce_J2_checkBoundsOffCount_d044e : xx_ce m_J2_checkBoundsOffCount_d044e := ⟨(gc_WJ2_0 _ (List.mem_of_getElem? (i := 15) rfl)), (gc_Z_1 _ (List.mem_of_getElem? (i := 14) rfl)), xx_nc24, xx_pd90, Nat.le_of_ble_eq_true rfl⟩
theorem st_J2_checkBoundsOffCount_d044e : Cond.static yJ2_checkBoundsOffCount_d044e ∈ xx_gws := (gc_WJ2_0 _ (List.mem_of_getElem? (i := 14) rfl))
theorem ce_Jxa1e45_init_da8c8 : xx_ce m_Jxa1e45_init_da8c8 := ⟨(gw_WJxa1e45 _ (List.mem_of_getElem? (i := 1) rfl)), (gc_Z_0 _ (List.mem_of_getElem? (i := 9) rfl)), xx_nc25, xx_pd6, Nat.le_of_ble_eq_true rfl⟩
theorem ii_Jxa1e45_init_da8c8 : yJxa1e45_init_da8c8.name = "<init>" ∧ m_Jxa1e45_init_da8c8.2.2.2.1 = none ∧ Cond.instanceMethod yJxa1e45_init_da8c8 ∈ xx_gws := ⟨rfl, rfl, (gw_WJxa1e45 _ (List.mem_of_getElem? (i := 0) rfl))⟩
theorem ce_Jxc12de_init_da8c8 : xx_ce m_Jxc12de_init_da8c8 := ⟨(gw_WJxc12de _ (List.mem_of_getElem? (i := 1) rfl)), (gc_Z_0 _ (List.mem_of_getElem? (i := 10) rfl)), xx_nc26, xx_pd6, Nat.le_of_ble_eq_true rfl⟩
theorem ii_Jxc12de_init_da8c8 : yJxc12de_init_da8c8.name = "<init>" ∧ m_Jxc12de_init_da8c8.2.2.2.1 = none ∧ Cond.instanceMethod yJxc12de_init_da8c8 ∈ xx_gws := ⟨rfl, rfl, (gw_WJxc12de _ (List.mem_of_getElem? (i := 0) rfl))⟩
theorem ce_Jx35411_init_45d68 : xx_ce m_Jx35411_init_45d68 := ⟨(gw_WJx35411 _ (List.mem_of_getElem? (i := 1) rfl)), (gc_Z_1 _ (List.mem_of_getElem? (i := 5) rfl)), xx_nc27, xx_pd91, Nat.le_of_ble_eq_true rfl⟩
theorem ii_Jx35411_init_45d68 : yJx35411_init_45d68.name = "<init>" ∧ m_Jx35411_init_45d68.2.2.2.1 = none ∧ Cond.instanceMethod yJx35411_init_45d68 ∈ xx_gws := ⟨rfl, rfl, (gw_WJx35411 _ (List.mem_of_getElem? (i := 0) rfl))⟩
theorem ce_Jx35411_hasNext_aae02 : xx_ce m_Jx35411_hasNext_aae02 := ⟨(gw_WJx35411 _ (List.mem_of_getElem? (i := 2) rfl)), (gc_Z_1 _ (List.mem_of_getElem? (i := 5) rfl)), xx_nc27, xx_pd41, Nat.le_of_ble_eq_true rfl⟩
theorem ce_Jx35411_next_0502b : xx_ce m_Jx35411_next_0502b := ⟨(gw_WJx35411 _ (List.mem_of_getElem? (i := 3) rfl)), (gc_Z_1 _ (List.mem_of_getElem? (i := 5) rfl)), xx_nc27, xx_pd92, Nat.le_of_ble_eq_true rfl⟩
theorem ce_Jx35411_checkForComodification_da8c8 : xx_ce m_Jx35411_checkForComodification_da8c8 := ⟨(gw_WJx35411 _ (List.mem_of_getElem? (i := 6) rfl)), (gc_Z_1 _ (List.mem_of_getElem? (i := 5) rfl)), xx_nc27, xx_pd6, Nat.le_of_ble_eq_true rfl⟩
theorem iv_Jx35411_checkForComodification_da8c8 : Cond.instanceMethod yJx35411_checkForComodification_da8c8 ∈ xx_gws ∧ Cond.selects yJx35411_checkForComodification_da8c8.cls yJx35411_checkForComodification_da8c8 yJx35411_checkForComodification_da8c8 ∈ xx_gws := ⟨(gw_WJx35411 _ (List.mem_of_getElem? (i := 4) rfl)), (gw_WJx35411 _ (List.mem_of_getElem? (i := 5) rfl))⟩
theorem ce_Jx4a65c_init_da8c8 : xx_ce m_Jx4a65c_init_da8c8 := ⟨(gc_WJx4a65c_0 _ (List.mem_of_getElem? (i := 4) rfl)), (gc_Z_0 _ (List.mem_of_getElem? (i := 11) rfl)), xx_nc28, xx_pd6, Nat.le_of_ble_eq_true rfl⟩
theorem ii_Jx4a65c_init_da8c8 : yJx4a65c_init_da8c8.name = "<init>" ∧ m_Jx4a65c_init_da8c8.2.2.2.1 = none ∧ Cond.instanceMethod yJx4a65c_init_da8c8 ∈ xx_gws := ⟨rfl, rfl, (gc_WJx4a65c_0 _ (List.mem_of_getElem? (i := 3) rfl))⟩
theorem ce_Jx4a65c_grow_92f84 : xx_ce m_Jx4a65c_grow_92f84 := ⟨(gc_WJx4a65c_1 _ (List.mem_of_getElem? (i := 0) rfl)), (gc_Z_0 _ (List.mem_of_getElem? (i := 11) rfl)), xx_nc28, xx_pd93, Nat.le_of_ble_eq_true rfl⟩
theorem iv_Jx4a65c_grow_92f84 : Cond.instanceMethod yJx4a65c_grow_92f84 ∈ xx_gws ∧ Cond.selects yJx4a65c_grow_92f84.cls yJx4a65c_grow_92f84 yJx4a65c_grow_92f84 ∈ xx_gws := ⟨(gc_WJx4a65c_0 _ (List.mem_of_getElem? (i := 15) rfl)), (gc_WJx4a65c_0 _ (List.mem_of_getElem? (i := 2) rfl))⟩
theorem ce_Jx4a65c_grow_d5877 : xx_ce m_Jx4a65c_grow_d5877 := ⟨(gc_WJx4a65c_0 _ (List.mem_of_getElem? (i := 14) rfl)), (gc_Z_0 _ (List.mem_of_getElem? (i := 11) rfl)), xx_nc28, xx_pd94, Nat.le_of_ble_eq_true rfl⟩
theorem iv_Jx4a65c_grow_d5877 : Cond.instanceMethod yJx4a65c_grow_d5877 ∈ xx_gws ∧ Cond.selects yJx4a65c_grow_d5877.cls yJx4a65c_grow_d5877 yJx4a65c_grow_d5877 ∈ xx_gws := ⟨(gc_WJx4a65c_0 _ (List.mem_of_getElem? (i := 13) rfl)), (gc_WJx4a65c_0 _ (List.mem_of_getElem? (i := 1) rfl))⟩
theorem ce_Jx4a65c_size_8abf5 : xx_ce m_Jx4a65c_size_8abf5 := ⟨(gc_WJx4a65c_0 _ (List.mem_of_getElem? (i := 7) rfl)), (gc_Z_0 _ (List.mem_of_getElem? (i := 11) rfl)), xx_nc28, xx_pd16, Nat.le_of_ble_eq_true rfl⟩
theorem iv_Jx4a65c_size_8abf5 : Cond.instanceMethod yJx4a65c_size_8abf5 ∈ xx_gws ∧ Cond.selects yJx4a65c_size_8abf5.cls yJx4a65c_size_8abf5 yJx4a65c_size_8abf5 ∈ xx_gws := ⟨(gc_WJx4a65c_0 _ (List.mem_of_getElem? (i := 5) rfl)), (gc_WJx4a65c_0 _ (List.mem_of_getElem? (i := 6) rfl))⟩
theorem ce_Jx4a65c_isEmpty_aae02 : xx_ce m_Jx4a65c_isEmpty_aae02 := ⟨(gc_WJx4a65c_1 _ (List.mem_of_getElem? (i := 12) rfl)), (gc_Z_0 _ (List.mem_of_getElem? (i := 11) rfl)), xx_nc28, xx_pd41, Nat.le_of_ble_eq_true rfl⟩
theorem iv_Jx4a65c_isEmpty_aae02 : Cond.instanceMethod yJx4a65c_isEmpty_aae02 ∈ xx_gws ∧ Cond.selects yJx4a65c_isEmpty_aae02.cls yJx4a65c_isEmpty_aae02 yJx4a65c_isEmpty_aae02 ∈ xx_gws := ⟨(gc_WJx4a65c_1 _ (List.mem_of_getElem? (i := 10) rfl)), (gc_WJx4a65c_1 _ (List.mem_of_getElem? (i := 11) rfl))⟩
theorem ce_Jx4a65c_elementData_915e3 : xx_ce m_Jx4a65c_elementData_915e3 := ⟨(gc_WJx4a65c_1 _ (List.mem_of_getElem? (i := 6) rfl)), (gc_Z_0 _ (List.mem_of_getElem? (i := 11) rfl)), xx_nc28, xx_pd95, Nat.le_of_ble_eq_true rfl⟩
theorem iv_Jx4a65c_elementData_915e3 : Cond.instanceMethod yJx4a65c_elementData_915e3 ∈ xx_gws ∧ Cond.selects yJx4a65c_elementData_915e3.cls yJx4a65c_elementData_915e3 yJx4a65c_elementData_915e3 ∈ xx_gws := ⟨(gc_WJx4a65c_1 _ (List.mem_of_getElem? (i := 4) rfl)), (gc_WJx4a65c_1 _ (List.mem_of_getElem? (i := 5) rfl))⟩
theorem ce_Jx4a65c_get_915e3 : xx_ce m_Jx4a65c_get_915e3 := ⟨(gc_WJx4a65c_1 _ (List.mem_of_getElem? (i := 3) rfl)), (gc_Z_0 _ (List.mem_of_getElem? (i := 11) rfl)), xx_nc28, xx_pd95, Nat.le_of_ble_eq_true rfl⟩
theorem iv_Jx4a65c_get_915e3 : Cond.instanceMethod yJx4a65c_get_915e3 ∈ xx_gws ∧ Cond.selects yJx4a65c_get_915e3.cls yJx4a65c_get_915e3 yJx4a65c_get_915e3 ∈ xx_gws := ⟨(gc_WJx4a65c_1 _ (List.mem_of_getElem? (i := 1) rfl)), (gc_WJx4a65c_1 _ (List.mem_of_getElem? (i := 2) rfl))⟩
theorem ce_Jx4a65c_set_bcc79 : xx_ce m_Jx4a65c_set_bcc79 := ⟨(gc_WJx4a65c_1 _ (List.mem_of_getElem? (i := 15) rfl)), (gc_Z_0 _ (List.mem_of_getElem? (i := 11) rfl)), xx_nc28, xx_pd96, Nat.le_of_ble_eq_true rfl⟩
theorem iv_Jx4a65c_set_bcc79 : Cond.instanceMethod yJx4a65c_set_bcc79 ∈ xx_gws ∧ Cond.selects yJx4a65c_set_bcc79.cls yJx4a65c_set_bcc79 yJx4a65c_set_bcc79 ∈ xx_gws := ⟨(gc_WJx4a65c_1 _ (List.mem_of_getElem? (i := 13) rfl)), (gc_WJx4a65c_1 _ (List.mem_of_getElem? (i := 14) rfl))⟩
theorem ce_Jx4a65c_add_72be8 : xx_ce m_Jx4a65c_add_72be8 := ⟨(gc_WJx4a65c_0 _ (List.mem_of_getElem? (i := 12) rfl)), (gc_Z_0 _ (List.mem_of_getElem? (i := 11) rfl)), xx_nc28, xx_pd97, Nat.le_of_ble_eq_true rfl⟩
theorem iv_Jx4a65c_add_72be8 : Cond.instanceMethod yJx4a65c_add_72be8 ∈ xx_gws ∧ Cond.selects yJx4a65c_add_72be8.cls yJx4a65c_add_72be8 yJx4a65c_add_72be8 ∈ xx_gws := ⟨(gc_WJx4a65c_0 _ (List.mem_of_getElem? (i := 11) rfl)), (gc_WJx4a65c_0 _ (List.mem_of_getElem? (i := 0) rfl))⟩
theorem ce_Jx4a65c_add_9ea2d : xx_ce m_Jx4a65c_add_9ea2d := ⟨(gc_WJx4a65c_0 _ (List.mem_of_getElem? (i := 10) rfl)), (gc_Z_0 _ (List.mem_of_getElem? (i := 11) rfl)), xx_nc28, xx_pd69, Nat.le_of_ble_eq_true rfl⟩
theorem iv_Jx4a65c_add_9ea2d : Cond.instanceMethod yJx4a65c_add_9ea2d ∈ xx_gws ∧ Cond.selects yJx4a65c_add_9ea2d.cls yJx4a65c_add_9ea2d yJx4a65c_add_9ea2d ∈ xx_gws := ⟨(gc_WJx4a65c_0 _ (List.mem_of_getElem? (i := 8) rfl)), (gc_WJx4a65c_0 _ (List.mem_of_getElem? (i := 9) rfl))⟩
theorem ce_Jx4a65c_iterator_32c93 : xx_ce m_Jx4a65c_iterator_32c93 := ⟨(gc_WJx4a65c_1 _ (List.mem_of_getElem? (i := 9) rfl)), (gc_Z_0 _ (List.mem_of_getElem? (i := 11) rfl)), xx_nc28, xx_pd98, Nat.le_of_ble_eq_true rfl⟩
theorem iv_Jx4a65c_iterator_32c93 : Cond.instanceMethod yJx4a65c_iterator_32c93 ∈ xx_gws ∧ Cond.selects yJx4a65c_iterator_32c93.cls yJx4a65c_iterator_32c93 yJx4a65c_iterator_32c93 ∈ xx_gws := ⟨(gc_WJx4a65c_1 _ (List.mem_of_getElem? (i := 7) rfl)), (gc_WJx4a65c_1 _ (List.mem_of_getElem? (i := 8) rfl))⟩
theorem ce_J7_rangeCheck_23922 : xx_ce m_J7_rangeCheck_23922 := ⟨(gw_WJ7 _ (List.mem_of_getElem? (i := 13) rfl)), (gc_Z_0 _ (List.mem_of_getElem? (i := 4) rfl)), xx_nc29, xx_pd43, Nat.le_of_ble_eq_true rfl⟩
theorem st_J7_rangeCheck_23922 : Cond.static yJ7_rangeCheck_23922 ∈ xx_gws := (gw_WJ7 _ (List.mem_of_getElem? (i := 12) rfl))
theorem ce_J7_fill_53178 : xx_ce m_J7_fill_53178 := ⟨(gw_WJ7 _ (List.mem_of_getElem? (i := 1) rfl)), (gc_Z_0 _ (List.mem_of_getElem? (i := 4) rfl)), xx_nc29, xx_pd99, Nat.le_of_ble_eq_true rfl⟩
theorem st_J7_fill_53178 : Cond.static yJ7_fill_53178 ∈ xx_gws := (gw_WJ7 _ (List.mem_of_getElem? (i := 0) rfl))
theorem ce_J7_fill_eb02e : xx_ce m_J7_fill_eb02e := ⟨(gw_WJ7 _ (List.mem_of_getElem? (i := 11) rfl)), (gc_Z_0 _ (List.mem_of_getElem? (i := 4) rfl)), xx_nc29, xx_pd100, Nat.le_of_ble_eq_true rfl⟩
theorem st_J7_fill_eb02e : Cond.static yJ7_fill_eb02e ∈ xx_gws := (gw_WJ7 _ (List.mem_of_getElem? (i := 10) rfl))
theorem ce_J7_copyOf_1904c : xx_ce m_J7_copyOf_1904c := ⟨(gw_WJ7 _ (List.mem_of_getElem? (i := 15) rfl)), (gc_Z_0 _ (List.mem_of_getElem? (i := 4) rfl)), xx_nc29, xx_pd101, Nat.le_of_ble_eq_true rfl⟩
theorem st_J7_copyOf_1904c : Cond.static yJ7_copyOf_1904c ∈ xx_gws := (gw_WJ7 _ (List.mem_of_getElem? (i := 14) rfl))
theorem ce_J7_copyOf_6403c : xx_ce m_J7_copyOf_6403c := ⟨(gw_WJ7 _ (List.mem_of_getElem? (i := 17) rfl)), (gc_Z_0 _ (List.mem_of_getElem? (i := 4) rfl)), xx_nc29, xx_pd102, Nat.le_of_ble_eq_true rfl⟩
theorem st_J7_copyOf_6403c : Cond.static yJ7_copyOf_6403c ∈ xx_gws := (gw_WJ7 _ (List.mem_of_getElem? (i := 16) rfl))
theorem ce_J7_copyOf_9075b : xx_ce m_J7_copyOf_9075b := ⟨(gw_WJ7 _ (List.mem_of_getElem? (i := 3) rfl)), (gc_Z_0 _ (List.mem_of_getElem? (i := 4) rfl)), xx_nc29, xx_pd103, Nat.le_of_ble_eq_true rfl⟩
theorem st_J7_copyOf_9075b : Cond.static yJ7_copyOf_9075b ∈ xx_gws := (gw_WJ7 _ (List.mem_of_getElem? (i := 2) rfl))
theorem ce_J7_checkLength_df160 : xx_ce m_J7_checkLength_df160 := ⟨(gw_WJ7 _ (List.mem_of_getElem? (i := 9) rfl)), (gc_Z_0 _ (List.mem_of_getElem? (i := 4) rfl)), xx_nc29, xx_pd21, Nat.le_of_ble_eq_true rfl⟩
theorem st_J7_checkLength_df160 : Cond.static yJ7_checkLength_df160 ∈ xx_gws := (gw_WJ7 _ (List.mem_of_getElem? (i := 8) rfl))
theorem ce_J7_copyOfRange_39247 : xx_ce m_J7_copyOfRange_39247 := ⟨(gw_WJ7 _ (List.mem_of_getElem? (i := 5) rfl)), (gc_Z_0 _ (List.mem_of_getElem? (i := 4) rfl)), xx_nc29, xx_pd85, Nat.le_of_ble_eq_true rfl⟩
theorem st_J7_copyOfRange_39247 : Cond.static yJ7_copyOfRange_39247 ∈ xx_gws := (gw_WJ7 _ (List.mem_of_getElem? (i := 4) rfl))
theorem ce_J7_copyOfRangeByte_39247 : xx_ce m_J7_copyOfRangeByte_39247 := ⟨(gw_WJ7 _ (List.mem_of_getElem? (i := 7) rfl)), (gc_Z_0 _ (List.mem_of_getElem? (i := 4) rfl)), xx_nc29, xx_pd85, Nat.le_of_ble_eq_true rfl⟩
theorem st_J7_copyOfRangeByte_39247 : Cond.static yJ7_copyOfRangeByte_39247 ∈ xx_gws := (gw_WJ7 _ (List.mem_of_getElem? (i := 6) rfl))
theorem ce_J15_checkIndex_7cf53 : xx_ce m_J15_checkIndex_7cf53 := ⟨(gw_WJ15 _ (List.mem_of_getElem? (i := 1) rfl)), (gc_Z_1 _ (List.mem_of_getElem? (i := 3) rfl)), xx_nc30, xx_pd0, Nat.le_of_ble_eq_true rfl⟩
theorem st_J15_checkIndex_7cf53 : Cond.static yJ15_checkIndex_7cf53 ∈ xx_gws := (gw_WJ15 _ (List.mem_of_getElem? (i := 0) rfl))
theorem ce_J8_newLength_cabcc : xx_ce m_J8_newLength_cabcc := ⟨(gw_WJ8 _ (List.mem_of_getElem? (i := 1) rfl)), (gc_Z_0 _ (List.mem_of_getElem? (i := 15) rfl)), xx_nc31, xx_pd1, Nat.le_of_ble_eq_true rfl⟩
theorem st_J8_newLength_cabcc : Cond.static yJ8_newLength_cabcc ∈ xx_gws := (gw_WJ8 _ (List.mem_of_getElem? (i := 0) rfl))
theorem ce_J8_hugeLength_7cf53 : xx_ce m_J8_hugeLength_7cf53 := ⟨(gw_WJ8 _ (List.mem_of_getElem? (i := 3) rfl)), (gc_Z_0 _ (List.mem_of_getElem? (i := 15) rfl)), xx_nc31, xx_pd0, Nat.le_of_ble_eq_true rfl⟩
theorem st_J8_hugeLength_7cf53 : Cond.static yJ8_hugeLength_7cf53 ∈ xx_gws := (gw_WJ8 _ (List.mem_of_getElem? (i := 2) rfl))
theorem ce_J3_checkIndex_8e157 : xx_ce m_J3_checkIndex_8e157 := ⟨(gw_WJ3 _ (List.mem_of_getElem? (i := 5) rfl)), (gc_Z_1 _ (List.mem_of_getElem? (i := 4) rfl)), xx_nc32, xx_pd104, Nat.le_of_ble_eq_true rfl⟩
theorem st_J3_checkIndex_8e157 : Cond.static yJ3_checkIndex_8e157 ∈ xx_gws := (gw_WJ3 _ (List.mem_of_getElem? (i := 4) rfl))
theorem ce_J3_checkFromToIndex_8c36e : xx_ce m_J3_checkFromToIndex_8c36e := ⟨(gw_WJ3 _ (List.mem_of_getElem? (i := 1) rfl)), (gc_Z_1 _ (List.mem_of_getElem? (i := 4) rfl)), xx_nc32, xx_pd105, Nat.le_of_ble_eq_true rfl⟩
theorem st_J3_checkFromToIndex_8c36e : Cond.static yJ3_checkFromToIndex_8c36e ∈ xx_gws := (gw_WJ3 _ (List.mem_of_getElem? (i := 0) rfl))
theorem ce_J3_checkFromIndexSize_8c36e : xx_ce m_J3_checkFromIndexSize_8c36e := ⟨(gw_WJ3 _ (List.mem_of_getElem? (i := 3) rfl)), (gc_Z_1 _ (List.mem_of_getElem? (i := 4) rfl)), xx_nc32, xx_pd105, Nat.le_of_ble_eq_true rfl⟩
theorem st_J3_checkFromIndexSize_8c36e : Cond.static yJ3_checkFromIndexSize_8c36e ∈ xx_gws := (gw_WJ3 _ (List.mem_of_getElem? (i := 2) rfl))
def xx_nl : List Cond := [(Jvm.Cond.methodLinkNest "Wavesale" (11 : Nat) ({ cls := "Wavesale$Terms", name := "<init>", desc := "()V" } : Jvm.MethodName) "Wavesale"), (Jvm.Cond.methodLinkNest "Wavesale" (18 : Nat) ({ cls := "Wavesale$Clock", name := "<init>", desc := "()V" } : Jvm.MethodName) "Wavesale"), (Jvm.Cond.methodLinkNest "Wavesale" (35 : Nat) ({ cls := "Wavesale$Payments", name := "<init>", desc := "()V" } : Jvm.MethodName) "Wavesale"), (Jvm.Cond.methodLinkNest "Wavesale" (49 : Nat) ({ cls := "Wavesale$Stations", name := "<init>", desc := "()V" } : Jvm.MethodName) "Wavesale"), (Jvm.Cond.methodLinkNest "WavesaleLaw" (140 : Nat) ({ cls := "WavesaleLaw$Out", name := "<init>", desc := "()V" } : Jvm.MethodName) "WavesaleLaw"), (Jvm.Cond.fieldLinkNest "WavesaleLaw" (13 : Nat) "WavesaleLaw$Out" "n" "J" "WavesaleLaw"), (Jvm.Cond.fieldLinkNest "WavesaleLaw" (111 : Nat) "WavesaleLaw$Out" "s" "Ljava/lang/String;" "WavesaleLaw"), (Jvm.Cond.fieldLinkNest "java/util/ArrayList$Itr" (28 : Nat) "java/util/ArrayList" "size" "I" "java/util/ArrayList"), (Jvm.Cond.fieldLinkNest "WavesaleModel$Choice" (54 : Nat) "WavesaleModel" "stage" "I" "WavesaleModel"), (Jvm.Cond.fieldLinkNest "WavesaleModel$Choice" (103 : Nat) "WavesaleModel" "cap" "I" "WavesaleModel"), (Jvm.Cond.fieldLinkNest "WavesaleModel$Clock" (81 : Nat) "WavesaleModel" "isRule" "Z" "WavesaleModel"), (Jvm.Cond.fieldLinkNest "WavesaleModel$Clock" (15 : Nat) "WavesaleModel" "regions" "Ljava/util/ArrayList;" "WavesaleModel"), (Jvm.Cond.fieldLinkNest "WavesaleModel$Choice" (35 : Nat) "WavesaleModel" "regions" "Ljava/util/ArrayList;" "WavesaleModel"), (Jvm.Cond.fieldLinkNest "WavesaleModel$Clock" (69 : Nat) "WavesaleModel" "bidders" "Ljava/util/ArrayList;" "WavesaleModel"), (Jvm.Cond.fieldLinkNest "WavesaleModel$Choice" (67 : Nat) "WavesaleModel" "bidders" "Ljava/util/ArrayList;" "WavesaleModel"), (Jvm.Cond.methodLinkNest "WavesaleModel" (80 : Nat) ({ cls := "WavesaleModel$Region", name := "<init>", desc := "()V" } : Jvm.MethodName) "WavesaleModel"), (Jvm.Cond.fieldLinkNest "WavesaleModel$Choice" (51 : Nat) "WavesaleModel$Region" "supply" "I" "WavesaleModel"), (Jvm.Cond.fieldLinkNest "WavesaleModel$Clock" (107 : Nat) "WavesaleModel$Region" "supply" "I" "WavesaleModel"), (Jvm.Cond.fieldLinkNest "WavesaleModel" (81 : Nat) "WavesaleModel$Region" "supply" "I" "WavesaleModel"), (Jvm.Cond.fieldLinkNest "WavesaleModel" (67 : Nat) "WavesaleModel$Region" "points" "I" "WavesaleModel"), (Jvm.Cond.fieldLinkNest "WavesaleModel$Clock" (65 : Nat) "WavesaleModel$Region" "start" "I" "WavesaleModel"), (Jvm.Cond.fieldLinkNest "WavesaleModel" (84 : Nat) "WavesaleModel$Region" "start" "I" "WavesaleModel"), (Jvm.Cond.fieldLinkNest "WavesaleModel" (95 : Nat) "WavesaleModel$Region" "beside" "I" "WavesaleModel"), (Jvm.Cond.methodLinkNest "WavesaleModel" (120 : Nat) ({ cls := "WavesaleModel$Bidder", name := "<init>", desc := "()V" } : Jvm.MethodName) "WavesaleModel"), (Jvm.Cond.fieldLinkNest "WavesaleModel" (121 : Nat) "WavesaleModel$Bidder" "budget" "I" "WavesaleModel"), (Jvm.Cond.fieldLinkNest "WavesaleModel$Clock" (74 : Nat) "WavesaleModel$Bidder" "eligible" "I" "WavesaleModel"), (Jvm.Cond.fieldLinkNest "WavesaleModel" (124 : Nat) "WavesaleModel$Bidder" "eligible" "I" "WavesaleModel"), (Jvm.Cond.fieldLinkNest "WavesaleModel" (127 : Nat) "WavesaleModel$Bidder" "credit" "I" "WavesaleModel"), (Jvm.Cond.fieldLinkNest "WavesaleModel$Choice" (100 : Nat) "WavesaleModel$Bidder" "group" "I" "WavesaleModel"), (Jvm.Cond.fieldLinkNest "WavesaleModel" (130 : Nat) "WavesaleModel$Bidder" "group" "I" "WavesaleModel"), (Jvm.Cond.fieldLinkNest "WavesaleModel$Choice" (81 : Nat) "WavesaleModel$Bidder" "isOut" "Z" "WavesaleModel"), (Jvm.Cond.fieldLinkNest "WavesaleModel" (258 : Nat) "WavesaleModel$Bidder" "isOut" "Z" "WavesaleModel"), (Jvm.Cond.fieldLinkNest "WavesaleModel" (203 : Nat) "WavesaleModel$Bidder" "packages" "Ljava/util/ArrayList;" "WavesaleModel"), (Jvm.Cond.methodLinkNest "WavesaleModel$Clock" (29 : Nat) ({ cls := "WavesaleModel", name := "codes", desc := "()[I" } : Jvm.MethodName) "WavesaleModel"), (Jvm.Cond.fieldLinkNest "WavesaleModel" (176 : Nat) "WavesaleModel$Clock" "prices" "[I" "WavesaleModel"), (Jvm.Cond.fieldLinkNest "WavesaleModel" (192 : Nat) "WavesaleModel$Clock" "held" "[I" "WavesaleModel"), (Jvm.Cond.fieldLinkNest "WavesaleModel" (145 : Nat) "WavesaleModel$Clock" "wished" "[I" "WavesaleModel"), (Jvm.Cond.fieldLinkNest "WavesaleModel" (165 : Nat) "WavesaleModel$Clock" "hasWaived" "[Z" "WavesaleModel"), (Jvm.Cond.fieldLinkNest "WavesaleModel" (154 : Nat) "WavesaleModel$Clock" "eligible" "[I" "WavesaleModel"), (Jvm.Cond.fieldLinkNest "WavesaleModel" (162 : Nat) "WavesaleModel$Clock" "waivers" "[I" "WavesaleModel"), (Jvm.Cond.fieldLinkNest "WavesaleModel" (308 : Nat) "WavesaleModel$Clock" "contradictions" "[I" "WavesaleModel"), (Jvm.Cond.fieldLinkNest "WavesaleModel" (196 : Nat) "WavesaleModel$Clock" "isOver" "Z" "WavesaleModel"), (Jvm.Cond.methodLinkNest "WavesaleModel" (174 : Nat) ({ cls := "WavesaleModel$Round", name := "<init>", desc := "()V" } : Jvm.MethodName) "WavesaleModel"), (Jvm.Cond.fieldLinkNest "WavesaleModel" (175 : Nat) "WavesaleModel$Round" "step" "I" "WavesaleModel"), (Jvm.Cond.fieldLinkNest "WavesaleModel" (183 : Nat) "WavesaleModel$Round" "prices" "[I" "WavesaleModel"), (Jvm.Cond.fieldLinkNest "WavesaleModel" (184 : Nat) "WavesaleModel$Round" "wished" "[I" "WavesaleModel"), (Jvm.Cond.fieldLinkNest "WavesaleModel" (195 : Nat) "WavesaleModel$Round" "held" "[I" "WavesaleModel"), (Jvm.Cond.fieldLinkNest "WavesaleModel" (187 : Nat) "WavesaleModel$Round" "hasWaived" "[Z" "WavesaleModel"), (Jvm.Cond.methodLinkNest "WavesaleModel$Clock" (76 : Nat) ({ cls := "WavesaleModel", name := "of", desc := "(II)I" } : Jvm.MethodName) "WavesaleModel"), (Jvm.Cond.methodLinkNest "WavesaleModel$Clock" (89 : Nat) ({ cls := "WavesaleModel", name := "points", desc := "(I)I" } : Jvm.MethodName) "WavesaleModel"), (Jvm.Cond.methodLinkNest "WavesaleModel$Clock" (100 : Nat) ({ cls := "WavesaleModel", name := "with", desc := "(III)I" } : Jvm.MethodName) "WavesaleModel"), (Jvm.Cond.methodLinkNest "WavesaleModel$Clock" (110 : Nat) ({ cls := "WavesaleModel", name := "power", desc := "(I)I" } : Jvm.MethodName) "WavesaleModel"), (Jvm.Cond.fieldLinkNest "WavesaleModel" (221 : Nat) "WavesaleModel$Choice" "picks" "[I" "WavesaleModel")]
theorem xx_nl_ok : ∀ w ∈ xx_nl, w ∈ xx_nws := by decide +kernel
theorem nw_L_8 : Cond.classLink RL 8 RX7 ∈ xx_gws ∧ Cond.instantiable RX7 12 ∈ xx_gws ∧ Cond.initialized RX7 ∈ xx_gws := ⟨(gc_WL_0 _ (List.mem_of_getElem? (i := 0) rfl)), (gc_Z_2 _ (List.mem_of_getElem? (i := 2) rfl)), (gc_Z_0 _ (List.mem_of_getElem? (i := 0) rfl))⟩
theorem ml_L_136 : xx_ml RL 136 yX7_init := Or.inl (gc_WL_0 _ (List.mem_of_getElem? (i := 1) rfl))
theorem oi_X7_3 : Cond.methodLink RX7 3 Lib.objectInit ∈ xx_gws ∧ Cond.instanceMethod Lib.objectInit ∈ xx_gws ∧ Cond.code Lib.objectInit ⟨#[0xb1]⟩ 1 none ∈ xx_gws := ⟨(gc_WX7_1 _ (List.mem_of_getElem? (i := 5) rfl)), oi_2, oi_3⟩
theorem nw_X7_9 : Cond.classLink RX7 9 RX6 ∈ xx_gws ∧ Cond.instantiable RX6 12 ∈ xx_gws ∧ Cond.initialized RX6 ∈ xx_gws := ⟨(gc_WX7_1 _ (List.mem_of_getElem? (i := 6) rfl)), (gc_Z_2 _ (List.mem_of_getElem? (i := 5) rfl)), (gc_Z_0 _ (List.mem_of_getElem? (i := 1) rfl))⟩
theorem ml_X7_11 : xx_ml RX7 11 yX6_init := Or.inr ⟨"Wavesale", xx_nl_ok _ (List.mem_of_getElem? (i := 0) rfl)⟩
theorem oi_X6_3 : Cond.methodLink RX6 3 Lib.objectInit ∈ xx_gws ∧ Cond.instanceMethod Lib.objectInit ∈ xx_gws ∧ Cond.code Lib.objectInit ⟨#[0xb1]⟩ 1 none ∈ xx_gws := ⟨(gc_WX6_0 _ (List.mem_of_getElem? (i := 3) rfl)), oi_2, oi_3⟩
theorem fl_X6_9 : xx_fl RX6 9 RX6 TX6 0 := ⟨Or.inl (gc_WX6_0 _ (List.mem_of_getElem? (i := 4) rfl)), rfl⟩
theorem fz_X6_9 : Cond.fieldLink RX6 9 RX6 (TX6 0).2.1 (TX6 0).2.2.1 ∈ xx_gws ∧ (TX6 0).1 = RX6 ∧ RX6 = RX6 := ⟨(gc_WX6_0 _ (List.mem_of_getElem? (i := 4) rfl)), rfl, rfl⟩
theorem fl_X1_89 : xx_fl RX1 89 RX6 TX6 0 := ⟨Or.inl (gc_WX1_0 _ (List.mem_of_getElem? (i := 5) rfl)), rfl⟩
theorem fl_X3_45 : xx_fl RX3 45 RX6 TX6 0 := ⟨Or.inl (gc_WX3_0 _ (List.mem_of_getElem? (i := 3) rfl)), rfl⟩
theorem fl_X2_93 : xx_fl RX2 93 RX6 TX6 0 := ⟨Or.inl (gc_WX2_0 _ (List.mem_of_getElem? (i := 9) rfl)), rfl⟩
theorem fl_X7_285 : xx_fl RX7 285 RX6 TX6 0 := ⟨Or.inl (gc_WX7_1 _ (List.mem_of_getElem? (i := 7) rfl)), rfl⟩
theorem fl_X6_15 : xx_fl RX6 15 RX6 TX6 1 := ⟨Or.inl (gc_WX6_0 _ (List.mem_of_getElem? (i := 5) rfl)), rfl⟩
theorem fz_X6_15 : Cond.fieldLink RX6 15 RX6 (TX6 1).2.1 (TX6 1).2.2.1 ∈ xx_gws ∧ (TX6 1).1 = RX6 ∧ RX6 = RX6 := ⟨(gc_WX6_0 _ (List.mem_of_getElem? (i := 5) rfl)), rfl, rfl⟩
theorem fl_X1_82 : xx_fl RX1 82 RX6 TX6 1 := ⟨Or.inl (gc_WX1_0 _ (List.mem_of_getElem? (i := 6) rfl)), rfl⟩
theorem fl_X7_142 : xx_fl RX7 142 RX6 TX6 1 := ⟨Or.inl (gc_WX7_1 _ (List.mem_of_getElem? (i := 8) rfl)), rfl⟩
theorem fl_X6_18 : xx_fl RX6 18 RX6 TX6 2 := ⟨Or.inl (gc_WX6_0 _ (List.mem_of_getElem? (i := 6) rfl)), rfl⟩
theorem fz_X6_18 : Cond.fieldLink RX6 18 RX6 (TX6 2).2.1 (TX6 2).2.2.1 ∈ xx_gws ∧ (TX6 2).1 = RX6 ∧ RX6 = RX6 := ⟨(gc_WX6_0 _ (List.mem_of_getElem? (i := 6) rfl)), rfl, rfl⟩
theorem fl_X1_47 : xx_fl RX1 47 RX6 TX6 2 := ⟨Or.inl (gc_WX1_0 _ (List.mem_of_getElem? (i := 7) rfl)), rfl⟩
theorem fl_X7_390 : xx_fl RX7 390 RX6 TX6 2 := ⟨Or.inl (gc_WX7_1 _ (List.mem_of_getElem? (i := 9) rfl)), rfl⟩
theorem fl_X6_21 : xx_fl RX6 21 RX6 TX6 3 := ⟨Or.inl (gc_WX6_0 _ (List.mem_of_getElem? (i := 7) rfl)), rfl⟩
theorem fz_X6_21 : Cond.fieldLink RX6 21 RX6 (TX6 3).2.1 (TX6 3).2.2.1 ∈ xx_gws ∧ (TX6 3).1 = RX6 ∧ RX6 = RX6 := ⟨(gc_WX6_0 _ (List.mem_of_getElem? (i := 7) rfl)), rfl, rfl⟩
theorem fl_X7_400 : xx_fl RX7 400 RX6 TX6 3 := ⟨Or.inl (gc_WX7_1 _ (List.mem_of_getElem? (i := 10) rfl)), rfl⟩
theorem fl_X6_44 : xx_fl RX6 44 RX6 TX6 4 := ⟨Or.inl (gc_WX6_0 _ (List.mem_of_getElem? (i := 8) rfl)), rfl⟩
theorem fl_X3_26 : xx_fl RX3 26 RX6 TX6 4 := ⟨Or.inl (gc_WX3_0 _ (List.mem_of_getElem? (i := 4) rfl)), rfl⟩
theorem fl_X7_69 : xx_fl RX7 69 RX6 TX6 4 := ⟨Or.inl (gc_WX7_1 _ (List.mem_of_getElem? (i := 11) rfl)), rfl⟩
theorem fl_X1_121 : xx_fl RX1 121 RX6 TX6 4 := ⟨Or.inl (gc_WX1_0 _ (List.mem_of_getElem? (i := 8) rfl)), rfl⟩
theorem fl_X2_90 : xx_fl RX2 90 RX6 TX6 4 := ⟨Or.inl (gc_WX2_0 _ (List.mem_of_getElem? (i := 10) rfl)), rfl⟩
theorem fl_X6_24 : xx_fl RX6 24 RX6 TX6 5 := ⟨Or.inl (gc_WX6_0 _ (List.mem_of_getElem? (i := 9) rfl)), rfl⟩
theorem fz_X6_24 : Cond.fieldLink RX6 24 RX6 (TX6 5).2.1 (TX6 5).2.2.1 ∈ xx_gws ∧ (TX6 5).1 = RX6 ∧ RX6 = RX6 := ⟨(gc_WX6_0 _ (List.mem_of_getElem? (i := 9) rfl)), rfl, rfl⟩
theorem fl_X7_406 : xx_fl RX7 406 RX6 TX6 5 := ⟨Or.inl (gc_WX7_1 _ (List.mem_of_getElem? (i := 12) rfl)), rfl⟩
theorem fl_X6_27 : xx_fl RX6 27 RX6 TX6 6 := ⟨Or.inl (gc_WX6_0 _ (List.mem_of_getElem? (i := 10) rfl)), rfl⟩
theorem fz_X6_27 : Cond.fieldLink RX6 27 RX6 (TX6 6).2.1 (TX6 6).2.2.1 ∈ xx_gws ∧ (TX6 6).1 = RX6 ∧ RX6 = RX6 := ⟨(gc_WX6_0 _ (List.mem_of_getElem? (i := 10) rfl)), rfl, rfl⟩
theorem fl_X1_58 : xx_fl RX1 58 RX6 TX6 6 := ⟨Or.inl (gc_WX1_0 _ (List.mem_of_getElem? (i := 9) rfl)), rfl⟩
theorem fl_X6_30 : xx_fl RX6 30 RX6 TX6 7 := ⟨Or.inl (gc_WX6_0 _ (List.mem_of_getElem? (i := 11) rfl)), rfl⟩
theorem fz_X6_30 : Cond.fieldLink RX6 30 RX6 (TX6 7).2.1 (TX6 7).2.2.1 ∈ xx_gws ∧ (TX6 7).1 = RX6 ∧ RX6 = RX6 := ⟨(gc_WX6_0 _ (List.mem_of_getElem? (i := 11) rfl)), rfl, rfl⟩
theorem fl_X7_387 : xx_fl RX7 387 RX6 TX6 7 := ⟨Or.inl (gc_WX7_1 _ (List.mem_of_getElem? (i := 13) rfl)), rfl⟩
theorem fl_X6_33 : xx_fl RX6 33 RX6 TX6 8 := ⟨Or.inl (gc_WX6_0 _ (List.mem_of_getElem? (i := 12) rfl)), rfl⟩
theorem fz_X6_33 : Cond.fieldLink RX6 33 RX6 (TX6 8).2.1 (TX6 8).2.2.1 ∈ xx_gws ∧ (TX6 8).1 = RX6 ∧ RX6 = RX6 := ⟨(gc_WX6_0 _ (List.mem_of_getElem? (i := 12) rfl)), rfl, rfl⟩
theorem fl_X2_87 : xx_fl RX2 87 RX6 TX6 8 := ⟨Or.inl (gc_WX2_0 _ (List.mem_of_getElem? (i := 11) rfl)), rfl⟩
theorem fl_X7_412 : xx_fl RX7 412 RX6 TX6 8 := ⟨Or.inl (gc_WX7_1 _ (List.mem_of_getElem? (i := 14) rfl)), rfl⟩
theorem fl_X6_53 : xx_fl RX6 53 RX6 TX6 9 := ⟨Or.inl (gc_WX6_0 _ (List.mem_of_getElem? (i := 13) rfl)), rfl⟩
theorem fl_X1_99 : xx_fl RX1 99 RX6 TX6 9 := ⟨Or.inl (gc_WX1_0 _ (List.mem_of_getElem? (i := 10) rfl)), rfl⟩
theorem fl_X7_100 : xx_fl RX7 100 RX6 TX6 9 := ⟨Or.inl (gc_WX7_1 _ (List.mem_of_getElem? (i := 15) rfl)), rfl⟩
theorem fl_X3_71 : xx_fl RX3 71 RX6 TX6 9 := ⟨Or.inl (gc_WX3_0 _ (List.mem_of_getElem? (i := 5) rfl)), rfl⟩
theorem fl_X2_78 : xx_fl RX2 78 RX6 TX6 9 := ⟨Or.inl (gc_WX2_0 _ (List.mem_of_getElem? (i := 12) rfl)), rfl⟩
theorem fl_X6_36 : xx_fl RX6 36 RX6 TX6 10 := ⟨Or.inl (gc_WX6_0 _ (List.mem_of_getElem? (i := 14) rfl)), rfl⟩
theorem fl_X1_96 : xx_fl RX1 96 RX6 TX6 10 := ⟨Or.inl (gc_WX1_0 _ (List.mem_of_getElem? (i := 11) rfl)), rfl⟩
theorem fl_X7_109 : xx_fl RX7 109 RX6 TX6 10 := ⟨Or.inl (gc_WX7_2 _ (List.mem_of_getElem? (i := 0) rfl)), rfl⟩
theorem fl_X2_96 : xx_fl RX2 96 RX6 TX6 10 := ⟨Or.inl (gc_WX2_0 _ (List.mem_of_getElem? (i := 13) rfl)), rfl⟩
theorem fl_X6_40 : xx_fl RX6 40 RX6 TX6 11 := ⟨Or.inl (gc_WX6_0 _ (List.mem_of_getElem? (i := 15) rfl)), rfl⟩
theorem fl_X7_112 : xx_fl RX7 112 RX6 TX6 11 := ⟨Or.inl (gc_WX7_2 _ (List.mem_of_getElem? (i := 1) rfl)), rfl⟩
theorem fl_X1_110 : xx_fl RX1 110 RX6 TX6 11 := ⟨Or.inl (gc_WX1_0 _ (List.mem_of_getElem? (i := 12) rfl)), rfl⟩
theorem nw_X7_16 : Cond.classLink RX7 16 RX1 ∈ xx_gws ∧ Cond.instantiable RX1 13 ∈ xx_gws ∧ Cond.initialized RX1 ∈ xx_gws := ⟨(gc_WX7_2 _ (List.mem_of_getElem? (i := 2) rfl)), (gc_Z_2 _ (List.mem_of_getElem? (i := 7) rfl)), (gc_Z_0 _ (List.mem_of_getElem? (i := 2) rfl))⟩
theorem ml_X7_18 : xx_ml RX7 18 yX1_init := Or.inr ⟨"Wavesale", xx_nl_ok _ (List.mem_of_getElem? (i := 1) rfl)⟩
theorem oi_X1_3 : Cond.methodLink RX1 3 Lib.objectInit ∈ xx_gws ∧ Cond.instanceMethod Lib.objectInit ∈ xx_gws ∧ Cond.code Lib.objectInit ⟨#[0xb1]⟩ 1 none ∈ xx_gws := ⟨(gc_WX1_0 _ (List.mem_of_getElem? (i := 15) rfl)), oi_2, oi_3⟩
theorem mu_X1_30 : Cond.classLink RX1 30 "[[I" ∈ xx_gws ∧ Cond.arrayClass .int ∈ xx_gws := ⟨(gc_WX1_1 _ (List.mem_of_getElem? (i := 0) rfl)), (gc_Z_2 _ (List.mem_of_getElem? (i := 6) rfl))⟩
theorem fl_X1_9 : xx_fl RX1 9 RX1 TX1 0 := ⟨Or.inl (gc_WX1_1 _ (List.mem_of_getElem? (i := 1) rfl)), rfl⟩
theorem fz_X1_9 : Cond.fieldLink RX1 9 RX1 (TX1 0).2.1 (TX1 0).2.2.1 ∈ xx_gws ∧ (TX1 0).1 = RX1 ∧ RX1 = RX1 := ⟨(gc_WX1_1 _ (List.mem_of_getElem? (i := 1) rfl)), rfl, rfl⟩
theorem fl_X7_393 : xx_fl RX7 393 RX1 TX1 0 := ⟨Or.inl (gc_WX7_2 _ (List.mem_of_getElem? (i := 3) rfl)), rfl⟩
theorem fl_X1_15 : xx_fl RX1 15 RX1 TX1 1 := ⟨Or.inl (gc_WX1_1 _ (List.mem_of_getElem? (i := 2) rfl)), rfl⟩
theorem fz_X1_15 : Cond.fieldLink RX1 15 RX1 (TX1 1).2.1 (TX1 1).2.2.1 ∈ xx_gws ∧ (TX1 1).1 = RX1 ∧ RX1 = RX1 := ⟨(gc_WX1_1 _ (List.mem_of_getElem? (i := 2) rfl)), rfl, rfl⟩
theorem fl_X7_249 : xx_fl RX7 249 RX1 TX1 1 := ⟨Or.inl (gc_WX7_2 _ (List.mem_of_getElem? (i := 4) rfl)), rfl⟩
theorem fl_X1_18 : xx_fl RX1 18 RX1 TX1 2 := ⟨Or.inl (gc_WX1_1 _ (List.mem_of_getElem? (i := 3) rfl)), rfl⟩
theorem fz_X1_18 : Cond.fieldLink RX1 18 RX1 (TX1 2).2.1 (TX1 2).2.2.1 ∈ xx_gws ∧ (TX1 2).1 = RX1 ∧ RX1 = RX1 := ⟨(gc_WX1_1 _ (List.mem_of_getElem? (i := 3) rfl)), rfl, rfl⟩
theorem fl_X7_133 : xx_fl RX7 133 RX1 TX1 2 := ⟨Or.inl (gc_WX7_2 _ (List.mem_of_getElem? (i := 5) rfl)), rfl⟩
theorem fl_X1_21 : xx_fl RX1 21 RX1 TX1 3 := ⟨Or.inl (gc_WX1_1 _ (List.mem_of_getElem? (i := 4) rfl)), rfl⟩
theorem fz_X1_21 : Cond.fieldLink RX1 21 RX1 (TX1 3).2.1 (TX1 3).2.2.1 ∈ xx_gws ∧ (TX1 3).1 = RX1 ∧ RX1 = RX1 := ⟨(gc_WX1_1 _ (List.mem_of_getElem? (i := 4) rfl)), rfl, rfl⟩
theorem fl_X7_409 : xx_fl RX7 409 RX1 TX1 3 := ⟨Or.inl (gc_WX7_2 _ (List.mem_of_getElem? (i := 6) rfl)), rfl⟩
theorem fl_X1_24 : xx_fl RX1 24 RX1 TX1 4 := ⟨Or.inl (gc_WX1_1 _ (List.mem_of_getElem? (i := 5) rfl)), rfl⟩
theorem fz_X1_24 : Cond.fieldLink RX1 24 RX1 (TX1 4).2.1 (TX1 4).2.2.1 ∈ xx_gws ∧ (TX1 4).1 = RX1 ∧ RX1 = RX1 := ⟨(gc_WX1_1 _ (List.mem_of_getElem? (i := 5) rfl)), rfl, rfl⟩
theorem fl_X7_149 : xx_fl RX7 149 RX1 TX1 4 := ⟨Or.inl (gc_WX7_2 _ (List.mem_of_getElem? (i := 7) rfl)), rfl⟩
theorem fl_X1_27 : xx_fl RX1 27 RX1 TX1 5 := ⟨Or.inl (gc_WX1_1 _ (List.mem_of_getElem? (i := 6) rfl)), rfl⟩
theorem fz_X1_27 : Cond.fieldLink RX1 27 RX1 (TX1 5).2.1 (TX1 5).2.2.1 ∈ xx_gws ∧ (TX1 5).1 = RX1 ∧ RX1 = RX1 := ⟨(gc_WX1_1 _ (List.mem_of_getElem? (i := 6) rfl)), rfl, rfl⟩
theorem fl_X7_418 : xx_fl RX7 418 RX1 TX1 5 := ⟨Or.inl (gc_WX7_2 _ (List.mem_of_getElem? (i := 8) rfl)), rfl⟩
theorem fl_X1_32 : xx_fl RX1 32 RX1 TX1 6 := ⟨Or.inl (gc_WX1_1 _ (List.mem_of_getElem? (i := 7) rfl)), rfl⟩
theorem fz_X1_32 : Cond.fieldLink RX1 32 RX1 (TX1 6).2.1 (TX1 6).2.2.1 ∈ xx_gws ∧ (TX1 6).1 = RX1 ∧ RX1 = RX1 := ⟨(gc_WX1_1 _ (List.mem_of_getElem? (i := 7) rfl)), rfl, rfl⟩
theorem fl_X7_258 : xx_fl RX7 258 RX1 TX1 6 := ⟨Or.inl (gc_WX7_2 _ (List.mem_of_getElem? (i := 9) rfl)), rfl⟩
theorem fl_X1_35 : xx_fl RX1 35 RX1 TX1 7 := ⟨Or.inl (gc_WX1_1 _ (List.mem_of_getElem? (i := 8) rfl)), rfl⟩
theorem fz_X1_35 : Cond.fieldLink RX1 35 RX1 (TX1 7).2.1 (TX1 7).2.2.1 ∈ xx_gws ∧ (TX1 7).1 = RX1 ∧ RX1 = RX1 := ⟨(gc_WX1_1 _ (List.mem_of_getElem? (i := 8) rfl)), rfl, rfl⟩
theorem fl_X7_265 : xx_fl RX7 265 RX1 TX1 7 := ⟨Or.inl (gc_WX7_2 _ (List.mem_of_getElem? (i := 10) rfl)), rfl⟩
theorem fl_X1_38 : xx_fl RX1 38 RX1 TX1 8 := ⟨Or.inl (gc_WX1_1 _ (List.mem_of_getElem? (i := 9) rfl)), rfl⟩
theorem fz_X1_38 : Cond.fieldLink RX1 38 RX1 (TX1 8).2.1 (TX1 8).2.2.1 ∈ xx_gws ∧ (TX1 8).1 = RX1 ∧ RX1 = RX1 := ⟨(gc_WX1_1 _ (List.mem_of_getElem? (i := 9) rfl)), rfl, rfl⟩
theorem fl_X7_262 : xx_fl RX7 262 RX1 TX1 8 := ⟨Or.inl (gc_WX7_2 _ (List.mem_of_getElem? (i := 11) rfl)), rfl⟩
theorem fl_X1_65 : xx_fl RX1 65 RX1 TX1 9 := ⟨Or.inl (gc_WX1_1 _ (List.mem_of_getElem? (i := 10) rfl)), rfl⟩
theorem fl_X7_379 : xx_fl RX7 379 RX1 TX1 9 := ⟨Or.inl (gc_WX7_2 _ (List.mem_of_getElem? (i := 12) rfl)), rfl⟩
theorem fl_X1_41 : xx_fl RX1 41 RX1 TX1 10 := ⟨Or.inl (gc_WX1_1 _ (List.mem_of_getElem? (i := 11) rfl)), rfl⟩
theorem fz_X1_41 : Cond.fieldLink RX1 41 RX1 (TX1 10).2.1 (TX1 10).2.2.1 ∈ xx_gws ∧ (TX1 10).1 = RX1 ∧ RX1 = RX1 := ⟨(gc_WX1_1 _ (List.mem_of_getElem? (i := 11) rfl)), rfl, rfl⟩
theorem fl_X1_44 : xx_fl RX1 44 RX1 TX1 11 := ⟨Or.inl (gc_WX1_1 _ (List.mem_of_getElem? (i := 12) rfl)), rfl⟩
theorem fz_X1_44 : Cond.fieldLink RX1 44 RX1 (TX1 11).2.1 (TX1 11).2.2.1 ∈ xx_gws ∧ (TX1 11).1 = RX1 ∧ RX1 = RX1 := ⟨(gc_WX1_1 _ (List.mem_of_getElem? (i := 12) rfl)), rfl, rfl⟩
theorem fl_X1_69 : xx_fl RX1 69 RX1 TX1 12 := ⟨Or.inl (gc_WX1_1 _ (List.mem_of_getElem? (i := 13) rfl)), rfl⟩
theorem nw_X7_26 : Cond.classLink RX7 26 RX2 ∈ xx_gws ∧ Cond.instantiable RX2 11 ∈ xx_gws ∧ Cond.initialized RX2 ∈ xx_gws := ⟨(gc_WX7_2 _ (List.mem_of_getElem? (i := 13) rfl)), (gc_Z_2 _ (List.mem_of_getElem? (i := 8) rfl)), (gc_Z_0 _ (List.mem_of_getElem? (i := 3) rfl))⟩
theorem ml_X7_28 : xx_ml RX7 28 yX2_init := Or.inl (gc_WX7_2 _ (List.mem_of_getElem? (i := 14) rfl))
theorem oi_X2_3 : Cond.methodLink RX2 3 Lib.objectInit ∈ xx_gws ∧ Cond.instanceMethod Lib.objectInit ∈ xx_gws ∧ Cond.code Lib.objectInit ⟨#[0xb1]⟩ 1 none ∈ xx_gws := ⟨(gc_WX2_1 _ (List.mem_of_getElem? (i := 0) rfl)), oi_2, oi_3⟩
theorem mu_X2_15 : Cond.classLink RX2 15 "[[I" ∈ xx_gws ∧ Cond.arrayClass .int ∈ xx_gws := ⟨(gc_WX2_1 _ (List.mem_of_getElem? (i := 1) rfl)), (gc_Z_2 _ (List.mem_of_getElem? (i := 6) rfl))⟩
theorem ml_X2_44 : xx_ml RX2 44 yJ7_fill_53178 := Or.inl (gc_WX2_1 _ (List.mem_of_getElem? (i := 2) rfl))
theorem fl_X2_9 : xx_fl RX2 9 RX2 TX2 0 := ⟨Or.inl (gc_WX2_1 _ (List.mem_of_getElem? (i := 3) rfl)), rfl⟩
theorem fz_X2_9 : Cond.fieldLink RX2 9 RX2 (TX2 0).2.1 (TX2 0).2.2.1 ∈ xx_gws ∧ (TX2 0).1 = RX2 ∧ RX2 = RX2 := ⟨(gc_WX2_1 _ (List.mem_of_getElem? (i := 3) rfl)), rfl, rfl⟩
theorem fl_X7_173 : xx_fl RX7 173 RX2 TX2 0 := ⟨Or.inl (gc_WX7_2 _ (List.mem_of_getElem? (i := 15) rfl)), rfl⟩
theorem fl_X2_17 : xx_fl RX2 17 RX2 TX2 1 := ⟨Or.inl (gc_WX2_1 _ (List.mem_of_getElem? (i := 4) rfl)), rfl⟩
theorem fz_X2_17 : Cond.fieldLink RX2 17 RX2 (TX2 1).2.1 (TX2 1).2.2.1 ∈ xx_gws ∧ (TX2 1).1 = RX2 ∧ RX2 = RX2 := ⟨(gc_WX2_1 _ (List.mem_of_getElem? (i := 4) rfl)), rfl, rfl⟩
theorem fl_X7_276 : xx_fl RX7 276 RX2 TX2 1 := ⟨Or.inl (gc_WX7_3 _ (List.mem_of_getElem? (i := 0) rfl)), rfl⟩
theorem fl_X2_20 : xx_fl RX2 20 RX2 TX2 2 := ⟨Or.inl (gc_WX2_1 _ (List.mem_of_getElem? (i := 5) rfl)), rfl⟩
theorem fz_X2_20 : Cond.fieldLink RX2 20 RX2 (TX2 2).2.1 (TX2 2).2.2.1 ∈ xx_gws ∧ (TX2 2).1 = RX2 ∧ RX2 = RX2 := ⟨(gc_WX2_1 _ (List.mem_of_getElem? (i := 5) rfl)), rfl, rfl⟩
theorem fl_X7_273 : xx_fl RX7 273 RX2 TX2 2 := ⟨Or.inl (gc_WX7_3 _ (List.mem_of_getElem? (i := 1) rfl)), rfl⟩
theorem fl_X2_23 : xx_fl RX2 23 RX2 TX2 3 := ⟨Or.inl (gc_WX2_1 _ (List.mem_of_getElem? (i := 6) rfl)), rfl⟩
theorem fz_X2_23 : Cond.fieldLink RX2 23 RX2 (TX2 3).2.1 (TX2 3).2.2.1 ∈ xx_gws ∧ (TX2 3).1 = RX2 ∧ RX2 = RX2 := ⟨(gc_WX2_1 _ (List.mem_of_getElem? (i := 6) rfl)), rfl, rfl⟩
theorem fl_X4_38 : xx_fl RX4 38 RX2 TX2 3 := ⟨Or.inl (gc_WX4_0 _ (List.mem_of_getElem? (i := 4) rfl)), rfl⟩
theorem fl_X7_200 : xx_fl RX7 200 RX2 TX2 3 := ⟨Or.inl (gc_WX7_3 _ (List.mem_of_getElem? (i := 2) rfl)), rfl⟩
theorem fl_X2_26 : xx_fl RX2 26 RX2 TX2 4 := ⟨Or.inl (gc_WX2_1 _ (List.mem_of_getElem? (i := 7) rfl)), rfl⟩
theorem fz_X2_26 : Cond.fieldLink RX2 26 RX2 (TX2 4).2.1 (TX2 4).2.2.1 ∈ xx_gws ∧ (TX2 4).1 = RX2 ∧ RX2 = RX2 := ⟨(gc_WX2_1 _ (List.mem_of_getElem? (i := 7) rfl)), rfl, rfl⟩
theorem fl_X4_42 : xx_fl RX4 42 RX2 TX2 4 := ⟨Or.inl (gc_WX4_0 _ (List.mem_of_getElem? (i := 5) rfl)), rfl⟩
theorem fl_X7_307 : xx_fl RX7 307 RX2 TX2 4 := ⟨Or.inl (gc_WX7_3 _ (List.mem_of_getElem? (i := 3) rfl)), rfl⟩
theorem fl_X2_50 : xx_fl RX2 50 RX2 TX2 5 := ⟨Or.inl (gc_WX2_1 _ (List.mem_of_getElem? (i := 8) rfl)), rfl⟩
theorem fl_X2_29 : xx_fl RX2 29 RX2 TX2 6 := ⟨Or.inl (gc_WX2_1 _ (List.mem_of_getElem? (i := 9) rfl)), rfl⟩
theorem fz_X2_29 : Cond.fieldLink RX2 29 RX2 (TX2 6).2.1 (TX2 6).2.2.1 ∈ xx_gws ∧ (TX2 6).1 = RX2 ∧ RX2 = RX2 := ⟨(gc_WX2_1 _ (List.mem_of_getElem? (i := 9) rfl)), rfl, rfl⟩
theorem fl_X2_32 : xx_fl RX2 32 RX2 TX2 7 := ⟨Or.inl (gc_WX2_1 _ (List.mem_of_getElem? (i := 10) rfl)), rfl⟩
theorem fz_X2_32 : Cond.fieldLink RX2 32 RX2 (TX2 7).2.1 (TX2 7).2.2.1 ∈ xx_gws ∧ (TX2 7).1 = RX2 ∧ RX2 = RX2 := ⟨(gc_WX2_1 _ (List.mem_of_getElem? (i := 10) rfl)), rfl, rfl⟩
theorem fl_X2_35 : xx_fl RX2 35 RX2 TX2 8 := ⟨Or.inl (gc_WX2_1 _ (List.mem_of_getElem? (i := 11) rfl)), rfl⟩
theorem fz_X2_35 : Cond.fieldLink RX2 35 RX2 (TX2 8).2.1 (TX2 8).2.2.1 ∈ xx_gws ∧ (TX2 8).1 = RX2 ∧ RX2 = RX2 := ⟨(gc_WX2_1 _ (List.mem_of_getElem? (i := 11) rfl)), rfl, rfl⟩
theorem fl_X2_38 : xx_fl RX2 38 RX2 TX2 9 := ⟨Or.inl (gc_WX2_1 _ (List.mem_of_getElem? (i := 12) rfl)), rfl⟩
theorem fz_X2_38 : Cond.fieldLink RX2 38 RX2 (TX2 9).2.1 (TX2 9).2.2.1 ∈ xx_gws ∧ (TX2 9).1 = RX2 ∧ RX2 = RX2 := ⟨(gc_WX2_1 _ (List.mem_of_getElem? (i := 12) rfl)), rfl, rfl⟩
theorem fl_X2_41 : xx_fl RX2 41 RX2 TX2 10 := ⟨Or.inl (gc_WX2_1 _ (List.mem_of_getElem? (i := 13) rfl)), rfl⟩
theorem fz_X2_41 : Cond.fieldLink RX2 41 RX2 (TX2 10).2.1 (TX2 10).2.2.1 ∈ xx_gws ∧ (TX2 10).1 = RX2 ∧ RX2 = RX2 := ⟨(gc_WX2_1 _ (List.mem_of_getElem? (i := 13) rfl)), rfl, rfl⟩
theorem nw_X7_33 : Cond.classLink RX7 33 RX4 ∈ xx_gws ∧ Cond.instantiable RX4 1 ∈ xx_gws ∧ Cond.initialized RX4 ∈ xx_gws := ⟨(gc_WX7_3 _ (List.mem_of_getElem? (i := 4) rfl)), (gc_Z_2 _ (List.mem_of_getElem? (i := 9) rfl)), (gc_Z_0 _ (List.mem_of_getElem? (i := 5) rfl))⟩
theorem ml_X7_35 : xx_ml RX7 35 yX4_init := Or.inr ⟨"Wavesale", xx_nl_ok _ (List.mem_of_getElem? (i := 2) rfl)⟩
theorem oi_X4_3 : Cond.methodLink RX4 3 Lib.objectInit ∈ xx_gws ∧ Cond.instanceMethod Lib.objectInit ∈ xx_gws ∧ Cond.code Lib.objectInit ⟨#[0xb1]⟩ 1 none ∈ xx_gws := ⟨(gc_WX4_0 _ (List.mem_of_getElem? (i := 8) rfl)), oi_2, oi_3⟩
theorem mu_X4_9 : Cond.classLink RX4 9 "[[I" ∈ xx_gws ∧ Cond.arrayClass .int ∈ xx_gws := ⟨(gc_WX4_0 _ (List.mem_of_getElem? (i := 9) rfl)), (gc_Z_2 _ (List.mem_of_getElem? (i := 6) rfl))⟩
theorem fl_X4_11 : xx_fl RX4 11 RX4 TX4 0 := ⟨Or.inl (gc_WX4_0 _ (List.mem_of_getElem? (i := 10) rfl)), rfl⟩
theorem fz_X4_11 : Cond.fieldLink RX4 11 RX4 (TX4 0).2.1 (TX4 0).2.2.1 ∈ xx_gws ∧ (TX4 0).1 = RX4 ∧ RX4 = RX4 := ⟨(gc_WX4_0 _ (List.mem_of_getElem? (i := 10) rfl)), rfl, rfl⟩
theorem fl_X7_310 : xx_fl RX7 310 RX4 TX4 0 := ⟨Or.inl (gc_WX7_3 _ (List.mem_of_getElem? (i := 5) rfl)), rfl⟩
theorem nw_X7_40 : Cond.classLink RX7 40 RX3 ∈ xx_gws ∧ Cond.instantiable RX3 2 ∈ xx_gws ∧ Cond.initialized RX3 ∈ xx_gws := ⟨(gc_WX7_3 _ (List.mem_of_getElem? (i := 6) rfl)), (gc_Z_2 _ (List.mem_of_getElem? (i := 10) rfl)), (gc_Z_0 _ (List.mem_of_getElem? (i := 6) rfl))⟩
theorem ml_X7_42 : xx_ml RX7 42 yX3_init := Or.inl (gc_WX7_3 _ (List.mem_of_getElem? (i := 7) rfl))
theorem oi_X3_3 : Cond.methodLink RX3 3 Lib.objectInit ∈ xx_gws ∧ Cond.instanceMethod Lib.objectInit ∈ xx_gws ∧ Cond.code Lib.objectInit ⟨#[0xb1]⟩ 1 none ∈ xx_gws := ⟨(gc_WX3_0 _ (List.mem_of_getElem? (i := 8) rfl)), oi_2, oi_3⟩
theorem mu_X3_9 : Cond.classLink RX3 9 "[[I" ∈ xx_gws ∧ Cond.arrayClass .int ∈ xx_gws := ⟨(gc_WX3_0 _ (List.mem_of_getElem? (i := 9) rfl)), (gc_Z_2 _ (List.mem_of_getElem? (i := 6) rfl))⟩
theorem ml_X3_16 : xx_ml RX3 16 yJ7_fill_53178 := Or.inl (gc_WX3_0 _ (List.mem_of_getElem? (i := 10) rfl))
theorem fl_X3_11 : xx_fl RX3 11 RX3 TX3 0 := ⟨Or.inl (gc_WX3_0 _ (List.mem_of_getElem? (i := 11) rfl)), rfl⟩
theorem fz_X3_11 : Cond.fieldLink RX3 11 RX3 (TX3 0).2.1 (TX3 0).2.2.1 ∈ xx_gws ∧ (TX3 0).1 = RX3 ∧ RX3 = RX3 := ⟨(gc_WX3_0 _ (List.mem_of_getElem? (i := 11) rfl)), rfl, rfl⟩
theorem fl_X7_290 : xx_fl RX7 290 RX3 TX3 0 := ⟨Or.inl (gc_WX7_3 _ (List.mem_of_getElem? (i := 8) rfl)), rfl⟩
theorem fl_X3_22 : xx_fl RX3 22 RX3 TX3 1 := ⟨Or.inl (gc_WX3_0 _ (List.mem_of_getElem? (i := 12) rfl)), rfl⟩
theorem fl_X7_430 : xx_fl RX7 430 RX3 TX3 1 := ⟨Or.inl (gc_WX7_3 _ (List.mem_of_getElem? (i := 9) rfl)), rfl⟩
theorem nw_X7_47 : Cond.classLink RX7 47 RX5 ∈ xx_gws ∧ Cond.instantiable RX5 5 ∈ xx_gws ∧ Cond.initialized RX5 ∈ xx_gws := ⟨(gc_WX7_3 _ (List.mem_of_getElem? (i := 10) rfl)), (gc_Z_2 _ (List.mem_of_getElem? (i := 11) rfl)), (gc_Z_0 _ (List.mem_of_getElem? (i := 7) rfl))⟩
theorem ml_X7_49 : xx_ml RX7 49 yX5_init := Or.inr ⟨"Wavesale", xx_nl_ok _ (List.mem_of_getElem? (i := 3) rfl)⟩
theorem oi_X5_3 : Cond.methodLink RX5 3 Lib.objectInit ∈ xx_gws ∧ Cond.instanceMethod Lib.objectInit ∈ xx_gws ∧ Cond.code Lib.objectInit ⟨#[0xb1]⟩ 1 none ∈ xx_gws := ⟨(gc_WX5_0 _ (List.mem_of_getElem? (i := 5) rfl)), oi_2, oi_3⟩
theorem fl_X5_9 : xx_fl RX5 9 RX5 TX5 0 := ⟨Or.inl (gc_WX5_0 _ (List.mem_of_getElem? (i := 6) rfl)), rfl⟩
theorem fz_X5_9 : Cond.fieldLink RX5 9 RX5 (TX5 0).2.1 (TX5 0).2.2.1 ∈ xx_gws ∧ (TX5 0).1 = RX5 ∧ RX5 = RX5 := ⟨(gc_WX5_0 _ (List.mem_of_getElem? (i := 6) rfl)), rfl, rfl⟩
theorem fl_X7_225 : xx_fl RX7 225 RX5 TX5 0 := ⟨Or.inl (gc_WX7_3 _ (List.mem_of_getElem? (i := 11) rfl)), rfl⟩
theorem fl_X5_24 : xx_fl RX5 24 RX5 TX5 1 := ⟨Or.inl (gc_WX5_0 _ (List.mem_of_getElem? (i := 7) rfl)), rfl⟩
theorem fl_X7_215 : xx_fl RX7 215 RX5 TX5 1 := ⟨Or.inl (gc_WX7_3 _ (List.mem_of_getElem? (i := 12) rfl)), rfl⟩
theorem fl_X5_15 : xx_fl RX5 15 RX5 TX5 2 := ⟨Or.inl (gc_WX5_0 _ (List.mem_of_getElem? (i := 8) rfl)), rfl⟩
theorem fz_X5_15 : Cond.fieldLink RX5 15 RX5 (TX5 2).2.1 (TX5 2).2.2.1 ∈ xx_gws ∧ (TX5 2).1 = RX5 ∧ RX5 = RX5 := ⟨(gc_WX5_0 _ (List.mem_of_getElem? (i := 8) rfl)), rfl, rfl⟩
theorem fl_X5_18 : xx_fl RX5 18 RX5 TX5 3 := ⟨Or.inl (gc_WX5_0 _ (List.mem_of_getElem? (i := 9) rfl)), rfl⟩
theorem fz_X5_18 : Cond.fieldLink RX5 18 RX5 (TX5 3).2.1 (TX5 3).2.2.1 ∈ xx_gws ∧ (TX5 3).1 = RX5 ∧ RX5 = RX5 := ⟨(gc_WX5_0 _ (List.mem_of_getElem? (i := 9) rfl)), rfl, rfl⟩
theorem fl_X5_21 : xx_fl RX5 21 RX5 TX5 4 := ⟨Or.inl (gc_WX5_0 _ (List.mem_of_getElem? (i := 10) rfl)), rfl⟩
theorem fz_X5_21 : Cond.fieldLink RX5 21 RX5 (TX5 4).2.1 (TX5 4).2.2.1 ∈ xx_gws ∧ (TX5 4).1 = RX5 ∧ RX5 = RX5 := ⟨(gc_WX5_0 _ (List.mem_of_getElem? (i := 10) rfl)), rfl, rfl⟩
theorem fl_X7_12 : xx_fl RX7 12 RX7 TX7 0 := ⟨Or.inl (gc_WX7_3 _ (List.mem_of_getElem? (i := 13) rfl)), rfl⟩
theorem fz_X7_12 : Cond.fieldLink RX7 12 RX7 (TX7 0).2.1 (TX7 0).2.2.1 ∈ xx_gws ∧ (TX7 0).1 = RX7 ∧ RX7 = RX7 := ⟨(gc_WX7_3 _ (List.mem_of_getElem? (i := 13) rfl)), rfl, rfl⟩
theorem fl_X7_19 : xx_fl RX7 19 RX7 TX7 1 := ⟨Or.inl (gc_WX7_3 _ (List.mem_of_getElem? (i := 14) rfl)), rfl⟩
theorem fz_X7_19 : Cond.fieldLink RX7 19 RX7 (TX7 1).2.1 (TX7 1).2.2.1 ∈ xx_gws ∧ (TX7 1).1 = RX7 ∧ RX7 = RX7 := ⟨(gc_WX7_3 _ (List.mem_of_getElem? (i := 14) rfl)), rfl, rfl⟩
theorem fl_X7_23 : xx_fl RX7 23 RX7 TX7 2 := ⟨Or.inl (gc_WX7_3 _ (List.mem_of_getElem? (i := 15) rfl)), rfl⟩
theorem fz_X7_23 : Cond.fieldLink RX7 23 RX7 (TX7 2).2.1 (TX7 2).2.2.1 ∈ xx_gws ∧ (TX7 2).1 = RX7 ∧ RX7 = RX7 := ⟨(gc_WX7_3 _ (List.mem_of_getElem? (i := 15) rfl)), rfl, rfl⟩
theorem fl_X7_29 : xx_fl RX7 29 RX7 TX7 3 := ⟨Or.inl (gc_WX7_4 _ (List.mem_of_getElem? (i := 0) rfl)), rfl⟩
theorem fz_X7_29 : Cond.fieldLink RX7 29 RX7 (TX7 3).2.1 (TX7 3).2.2.1 ∈ xx_gws ∧ (TX7 3).1 = RX7 ∧ RX7 = RX7 := ⟨(gc_WX7_4 _ (List.mem_of_getElem? (i := 0) rfl)), rfl, rfl⟩
theorem fl_X7_36 : xx_fl RX7 36 RX7 TX7 4 := ⟨Or.inl (gc_WX7_4 _ (List.mem_of_getElem? (i := 1) rfl)), rfl⟩
theorem fz_X7_36 : Cond.fieldLink RX7 36 RX7 (TX7 4).2.1 (TX7 4).2.2.1 ∈ xx_gws ∧ (TX7 4).1 = RX7 ∧ RX7 = RX7 := ⟨(gc_WX7_4 _ (List.mem_of_getElem? (i := 1) rfl)), rfl, rfl⟩
theorem fl_X7_43 : xx_fl RX7 43 RX7 TX7 5 := ⟨Or.inl (gc_WX7_4 _ (List.mem_of_getElem? (i := 2) rfl)), rfl⟩
theorem fz_X7_43 : Cond.fieldLink RX7 43 RX7 (TX7 5).2.1 (TX7 5).2.2.1 ∈ xx_gws ∧ (TX7 5).1 = RX7 ∧ RX7 = RX7 := ⟨(gc_WX7_4 _ (List.mem_of_getElem? (i := 2) rfl)), rfl, rfl⟩
theorem fl_X7_50 : xx_fl RX7 50 RX7 TX7 6 := ⟨Or.inl (gc_WX7_4 _ (List.mem_of_getElem? (i := 3) rfl)), rfl⟩
theorem fz_X7_50 : Cond.fieldLink RX7 50 RX7 (TX7 6).2.1 (TX7 6).2.2.1 ∈ xx_gws ∧ (TX7 6).1 = RX7 ∧ RX7 = RX7 := ⟨(gc_WX7_4 _ (List.mem_of_getElem? (i := 3) rfl)), rfl, rfl⟩
theorem fl_X7_54 : xx_fl RX7 54 RX7 TX7 7 := ⟨Or.inl (gc_WX7_4 _ (List.mem_of_getElem? (i := 4) rfl)), rfl⟩
theorem fl_X7_58 : xx_fl RX7 58 RX7 TX7 8 := ⟨Or.inl (gc_WX7_4 _ (List.mem_of_getElem? (i := 5) rfl)), rfl⟩
theorem fl_X7_190 : xx_fl RX7 190 RX7 TX7 9 := ⟨Or.inl (gc_WX7_4 _ (List.mem_of_getElem? (i := 6) rfl)), rfl⟩
theorem fl_X7_209 : xx_fl RX7 209 RX7 TX7 10 := ⟨Or.inl (gc_WX7_4 _ (List.mem_of_getElem? (i := 7) rfl)), rfl⟩
theorem fl_X7_333 : xx_fl RX7 333 RX7 TX7 11 := ⟨Or.inl (gc_WX7_4 _ (List.mem_of_getElem? (i := 8) rfl)), rfl⟩
theorem ml_L_261 : xx_ml RL 261 yX7_knock := Or.inl (gc_WL_0 _ (List.mem_of_getElem? (i := 2) rfl))
theorem ml_L_265 : xx_ml RL 265 yX7_isSound := Or.inl (gc_WL_0 _ (List.mem_of_getElem? (i := 3) rfl))
theorem ml_X7_329 : xx_ml RX7 329 yX1_runLog := Or.inl (gc_WX7_4 _ (List.mem_of_getElem? (i := 15) rfl))
theorem ml_X1_156 : xx_ml RX1 156 yX1_begin := Or.inl (gc_WX1_2 _ (List.mem_of_getElem? (i := 1) rfl))
theorem ay_X1_52 : xx_ac RX1 52 := ⟨(gc_WX1_2 _ (List.mem_of_getElem? (i := 5) rfl)), ac_nat, ac_sta, ac_ini⟩
theorem ml_X1_59 : xx_ml RX1 59 yJ7_fill_53178 := Or.inl (gc_WX1_2 _ (List.mem_of_getElem? (i := 6) rfl))
theorem ml_X1_78 : xx_ml RX1 78 yX0_replaced := Or.inl (gc_WX1_2 _ (List.mem_of_getElem? (i := 7) rfl))
theorem ml_X0_9 : xx_ml RX0 9 yX0_many := Or.inl (gw_WX0 _ (List.mem_of_getElem? (i := 2) rfl))
theorem ml_X1_159 : xx_ml RX1 159 yX1_closeRound := Or.inl (gc_WX1_2 _ (List.mem_of_getElem? (i := 8) rfl))
theorem ml_X1_114 : xx_ml RX1 114 yX1_undoContradictions := Or.inl (gc_WX1_2 _ (List.mem_of_getElem? (i := 12) rfl))
theorem ml_X1_132 : xx_ml RX1 132 yX1_contradictedRound := Or.inl (gc_WX1_2 _ (List.mem_of_getElem? (i := 15) rfl))
theorem ml_X1_136 : xx_ml RX1 136 yX0_dearer := Or.inl (gc_WX1_3 _ (List.mem_of_getElem? (i := 3) rfl))
theorem ml_X1_118 : xx_ml RX1 118 yX1_lowerEligible := Or.inl (gc_WX1_3 _ (List.mem_of_getElem? (i := 4) rfl))
theorem ml_X1_85 : xx_ml RX1 85 yX0_total := Or.inl (gc_WX1_3 _ (List.mem_of_getElem? (i := 7) rfl))
theorem ml_X1_140 : xx_ml RX1 140 yX1_hasWaived := Or.inl (gc_WX1_3 _ (List.mem_of_getElem? (i := 8) rfl))
theorem ml_X1_124 : xx_ml RX1 124 yX1_moveHeld := Or.inl (gc_WX1_3 _ (List.mem_of_getElem? (i := 12) rfl))
theorem ml_X1_72 : xx_ml RX1 72 yX0_many := Or.inl (gc_WX1_3 _ (List.mem_of_getElem? (i := 15) rfl))
theorem ml_X1_144 : xx_ml RX1 144 yX0_together := Or.inl (gc_WX1_4 _ (List.mem_of_getElem? (i := 0) rfl))
theorem ml_X1_148 : xx_ml RX1 148 yJ9_min_7cf53 := Or.inl (gc_WX1_4 _ (List.mem_of_getElem? (i := 1) rfl))
theorem mm_X1_148 : xx_mmin RX1 148 := ⟨(gc_WX1_4 _ (List.mem_of_getElem? (i := 1) rfl)), st_J9_min_7cf53, ce_J9_min_7cf53.2.1, ce_J9_min_7cf53.1⟩
theorem ml_X1_128 : xx_ml RX1 128 yX1_raisePrices := Or.inl (gc_WX1_4 _ (List.mem_of_getElem? (i := 2) rfl))
theorem ml_X1_153 : xx_ml RX1 153 yJ9_max_7cf53 := Or.inl (gc_WX1_4 _ (List.mem_of_getElem? (i := 5) rfl))
theorem mm_X1_153 : xx_mmax RX1 153 := ⟨(gc_WX1_4 _ (List.mem_of_getElem? (i := 5) rfl)), st_J9_max_7cf53, ce_J9_max_7cf53.2.1, ce_J9_max_7cf53.1⟩
theorem ml_X7_336 : xx_ml RX7 336 yX7_isReplaySame := Or.inl (gc_WX7_5 _ (List.mem_of_getElem? (i := 0) rfl))
theorem ml_X7_340 : xx_ml RX7 340 yX7_isClockSound := Or.inl (gc_WX7_5 _ (List.mem_of_getElem? (i := 3) rfl))
theorem ml_X7_437 : xx_ml RX7 437 yX0_isWithin := Or.inl (gc_WX7_5 _ (List.mem_of_getElem? (i := 6) rfl))
theorem ml_X7_343 : xx_ml RX7 343 yX7_isSettlementSound := Or.inl (gc_WX7_5 _ (List.mem_of_getElem? (i := 7) rfl))
theorem ml_X7_282 : xx_ml RX7 282 yX7_paymentOf := Or.inl (gc_WX7_5 _ (List.mem_of_getElem? (i := 10) rfl))
theorem ml_X7_205 : xx_ml RX7 205 yX2_amountWon := Or.inl (gc_WX7_5 _ (List.mem_of_getElem? (i := 13) rfl))
theorem ml_X7_441 : xx_ml RX7 441 yX3_agreeWith := Or.inl (gc_WX7_5 _ (List.mem_of_getElem? (i := 14) rfl))
theorem ml_X3_74 : xx_ml RX3 74 yX3_heldBy := Or.inl (gc_WX3_1 _ (List.mem_of_getElem? (i := 0) rfl))
theorem ml_X3_39 : xx_ml RX3 39 yX2_blocksWon := Or.inl (gc_WX3_1 _ (List.mem_of_getElem? (i := 3) rfl))
theorem ml_X2_54 : xx_ml RX2 54 yX0_many := Or.inl (gc_WX2_2 _ (List.mem_of_getElem? (i := 4) rfl))
theorem ml_L_270 : xx_ml RL 270 yX7_digest := Or.inl (gc_WL_0 _ (List.mem_of_getElem? (i := 4) rfl))
theorem ct_X7_346 : Cond.constantLong RX7 346 (58282 : Int64) ∈ xx_gws := (gc_WX7_6 _ (List.mem_of_getElem? (i := 2) rfl))
theorem ml_X7_304 : xx_ml RX7 304 yX7_saleFact := Or.inl (gc_WX7_6 _ (List.mem_of_getElem? (i := 3) rfl))
theorem ml_X7_421 : xx_ml RX7 421 yX7_roundNow := Or.inl (gc_WX7_6 _ (List.mem_of_getElem? (i := 6) rfl))
theorem ml_X7_424 : xx_ml RX7 424 yX1_allContradictions := Or.inl (gc_WX7_6 _ (List.mem_of_getElem? (i := 9) rfl))
theorem ml_X7_197 : xx_ml RX7 197 yX2_winners := Or.inl (gc_WX7_6 _ (List.mem_of_getElem? (i := 10) rfl))
theorem ml_X7_427 : xx_ml RX7 427 yX7_allDue := Or.inl (gc_WX7_6 _ (List.mem_of_getElem? (i := 11) rfl))
theorem ml_X7_279 : xx_ml RX7 279 yX7_dueOf := Or.inl (gc_WX7_6 _ (List.mem_of_getElem? (i := 14) rfl))
theorem ml_X7_433 : xx_ml RX7 433 yX2_signals := Or.inl (gc_WX7_7 _ (List.mem_of_getElem? (i := 1) rfl))
theorem ml_X2_122 : xx_ml RX2 122 yX2_isSignal := Or.inl (gc_WX2_2 _ (List.mem_of_getElem? (i := 11) rfl))
theorem ml_X2_125 : xx_ml RX2 125 yX6_areAllies := Or.inl (gc_WX2_2 _ (List.mem_of_getElem? (i := 14) rfl))
theorem ml_X2_129 : xx_ml RX2 129 yX2_asksFor := Or.inl (gc_WX2_2 _ (List.mem_of_getElem? (i := 15) rfl))
theorem ml_X7_348 : xx_ml RX7 348 yX7_mixed := Or.inl (gc_WX7_7 _ (List.mem_of_getElem? (i := 2) rfl))
theorem ct_X7_445 : Cond.constantLong RX7 445 (31 : Int64) ∈ xx_gws := (gc_WX7_7 _ (List.mem_of_getElem? (i := 5) rfl))
theorem nw_X7_293 : Cond.classLink RX7 293 RJ4 ∈ xx_gws ∧ Cond.instantiable RJ4 4 ∈ xx_gws ∧ Cond.initialized RJ4 ∈ xx_gws := ⟨(gc_WX7_7 _ (List.mem_of_getElem? (i := 6) rfl)), (gc_Z_2 _ (List.mem_of_getElem? (i := 14) rfl)), (gc_Z_1 _ (List.mem_of_getElem? (i := 12) rfl))⟩
theorem ml_X7_295 : xx_ml RX7 295 yJ4_init_da8c8 := Or.inl (gc_WX7_7 _ (List.mem_of_getElem? (i := 7) rfl))
theorem ml_X7_352 : xx_ml RX7 352 yX7_withRegion := Or.inl (gc_WX7_7 _ (List.mem_of_getElem? (i := 8) rfl))
theorem ml_X7_243 : xx_ml RX7 243 yX7_regionFact := Or.inl (gc_WX7_7 _ (List.mem_of_getElem? (i := 11) rfl))
theorem ml_X7_396 : xx_ml RX7 396 yX0_together := Or.inl (gc_WX7_7 _ (List.mem_of_getElem? (i := 14) rfl))
theorem ml_X7_403 : xx_ml RX7 403 yX5_countIn := Or.inl (gc_WX7_7 _ (List.mem_of_getElem? (i := 15) rfl))
theorem ml_X7_447 : xx_ml RX7 447 yJ4_setLength_d00df := Or.inl (gc_WX7_8 _ (List.mem_of_getElem? (i := 0) rfl))
theorem ml_X7_296 : xx_ml RX7 296 yX3_draw := Or.inl (gc_WX7_8 _ (List.mem_of_getElem? (i := 1) rfl))
theorem ml_X3_62 : xx_ml RX3 62 yJ4_append_cf468 := Or.inl (gc_WX3_1 _ (List.mem_of_getElem? (i := 7) rfl))
theorem ml_X3_68 : xx_ml RX3 68 yJ4_append_bf812 := Or.inl (gc_WX3_1 _ (List.mem_of_getElem? (i := 8) rfl))
theorem ml_X7_450 : xx_ml RX7 450 yJ4_length_8abf5 := Or.inl (gc_WX7_8 _ (List.mem_of_getElem? (i := 2) rfl))
theorem ml_X7_356 : xx_ml RX7 356 yX7_withBidder := Or.inl (gc_WX7_8 _ (List.mem_of_getElem? (i := 3) rfl))
theorem ml_X7_246 : xx_ml RX7 246 yX7_bidderFact := Or.inl (gc_WX7_8 _ (List.mem_of_getElem? (i := 6) rfl))
theorem ml_X7_145 : xx_ml RX7 145 yX0_total := Or.inl (gc_WX7_8 _ (List.mem_of_getElem? (i := 9) rfl))
theorem ml_X7_415 : xx_ml RX7 415 yX2_isOut := Or.inl (gc_WX7_8 _ (List.mem_of_getElem? (i := 10) rfl))
theorem ml_X7_360 : xx_ml RX7 360 yX7_withLastRound := Or.inl (gc_WX7_8 _ (List.mem_of_getElem? (i := 11) rfl))
theorem ml_X7_239 : xx_ml RX7 239 yX5_cheapest := Or.inl (gc_WX7_8 _ (List.mem_of_getElem? (i := 14) rfl))
theorem ml_X5_28 : xx_ml RX5 28 yX5_findDisturbed := Or.inl (gc_WX5_1 _ (List.mem_of_getElem? (i := 1) rfl))
theorem ml_X5_40 : xx_ml RX5 40 yX6_areNeighbours := Or.inl (gc_WX5_1 _ (List.mem_of_getElem? (i := 4) rfl))
theorem ml_X5_36 : xx_ml RX5 36 yX5_asksOf := Or.inl (gc_WX5_1 _ (List.mem_of_getElem? (i := 5) rfl))
theorem ml_X5_32 : xx_ml RX5 32 yX5_packAgain := Or.inl (gc_WX5_1 _ (List.mem_of_getElem? (i := 8) rfl))
theorem ml_X5_45 : xx_ml RX5 45 yJ7_fill_53178 := Or.inl (gc_WX5_1 _ (List.mem_of_getElem? (i := 11) rfl))
theorem ml_X5_51 : xx_ml RX5 51 yX5_packFrom := Or.inl (gc_WX5_1 _ (List.mem_of_getElem? (i := 12) rfl))
theorem ml_X5_55 : xx_ml RX5 55 yJ9_max_7cf53 := Or.inl (gc_WX5_1 _ (List.mem_of_getElem? (i := 15) rfl))
theorem mm_X5_55 : xx_mmax RX5 55 := ⟨(gc_WX5_1 _ (List.mem_of_getElem? (i := 15) rfl)), st_J9_max_7cf53, ce_J9_max_7cf53.2.1, ce_J9_max_7cf53.1⟩
theorem ml_X7_364 : xx_ml RX7 364 yX7_isSound := Or.inl (gc_WX7_8 _ (List.mem_of_getElem? (i := 15) rfl))
theorem nw_L_14 : Cond.classLink RL 14 RX8 ∈ xx_gws ∧ Cond.instantiable RX8 2 ∈ xx_gws ∧ Cond.initialized RX8 ∈ xx_gws := ⟨(gc_WL_0 _ (List.mem_of_getElem? (i := 5) rfl)), (gc_Z_3 _ (List.mem_of_getElem? (i := 0) rfl)), (gc_Z_0 _ (List.mem_of_getElem? (i := 12) rfl))⟩
theorem ml_L_140 : xx_ml RL 140 yX8_init := Or.inr ⟨"WavesaleLaw", xx_nl_ok _ (List.mem_of_getElem? (i := 4) rfl)⟩
theorem oi_X8_1 : Cond.methodLink RX8 1 Lib.objectInit ∈ xx_gws ∧ Cond.instanceMethod Lib.objectInit ∈ xx_gws ∧ Cond.code Lib.objectInit ⟨#[0xb1]⟩ 1 none ∈ xx_gws := ⟨(gw_WX8 _ (List.mem_of_getElem? (i := 2) rfl)), oi_2, oi_3⟩
theorem fl_L_13 : xx_fl RL 13 RX8 TX8 0 := ⟨Or.inr ⟨"WavesaleLaw", xx_nl_ok _ (List.mem_of_getElem? (i := 5) rfl)⟩, rfl⟩
theorem fl_L_111 : xx_fl RL 111 RX8 TX8 1 := ⟨Or.inr ⟨"WavesaleLaw", xx_nl_ok _ (List.mem_of_getElem? (i := 6) rfl)⟩, rfl⟩
theorem ml_L_141 : xx_ml RL 141 yL_region := Or.inl (gc_WL_0 _ (List.mem_of_getElem? (i := 6) rfl))
theorem ml_L_7 : xx_ml RL 7 yX7_region := Or.inl (gc_WL_0 _ (List.mem_of_getElem? (i := 7) rfl))
theorem ml_X7_61 : xx_ml RX7 61 yX7_needBetween := Or.inl (gc_WX7_9 _ (List.mem_of_getElem? (i := 3) rfl))
theorem ml_X7_65 : xx_ml RX7 65 yX7_needStage := Or.inl (gc_WX7_9 _ (List.mem_of_getElem? (i := 8) rfl))
theorem ml_X7_79 : xx_ml RX7 79 yX6_addRegion := Or.inl (gc_WX7_9 _ (List.mem_of_getElem? (i := 13) rfl))
theorem ml_X7_83 : xx_ml RX7 83 yX1_begin := Or.inl (gc_WX7_9 _ (List.mem_of_getElem? (i := 14) rfl))
theorem ml_L_150 : xx_ml RL 150 yL_border := Or.inl (gc_WL_0 _ (List.mem_of_getElem? (i := 8) rfl))
theorem ml_L_23 : xx_ml RL 23 yX7_border := Or.inl (gc_WL_0 _ (List.mem_of_getElem? (i := 9) rfl))
theorem ml_X7_87 : xx_ml RX7 87 yX7_needRegion := Or.inl (gc_WX7_10 _ (List.mem_of_getElem? (i := 2) rfl))
theorem ml_X7_95 : xx_ml RX7 95 yX6_addBorder := Or.inl (gc_WX7_10 _ (List.mem_of_getElem? (i := 7) rfl))
theorem ml_X6_47 : xx_ml RX6 47 yJ6_bitCount_0f7a4 := Or.inl (gc_WX6_1 _ (List.mem_of_getElem? (i := 12) rfl))
theorem ct_J6_265 : Cond.constant RJ6 265 (1431655765 : Int32) ∈ xx_gws := (gw_WJ6 _ (List.mem_of_getElem? (i := 6) rfl))
theorem ct_J6_266 : Cond.constant RJ6 266 (858993459 : Int32) ∈ xx_gws := (gw_WJ6 _ (List.mem_of_getElem? (i := 7) rfl))
theorem ct_J6_267 : Cond.constant RJ6 267 (252645135 : Int32) ∈ xx_gws := (gw_WJ6 _ (List.mem_of_getElem? (i := 8) rfl))
theorem ml_L_154 : xx_ml RL 154 yL_bidder := Or.inl (gc_WL_0 _ (List.mem_of_getElem? (i := 10) rfl))
theorem ml_L_29 : xx_ml RL 29 yX7_bidder := Or.inl (gc_WL_0 _ (List.mem_of_getElem? (i := 11) rfl))
theorem ct_X7_99 : Cond.constant RX7 99 (99999 : Int32) ∈ xx_gws := (gc_WX7_10 _ (List.mem_of_getElem? (i := 11) rfl))
theorem ml_X7_105 : xx_ml RX7 105 yX6_addBidder := Or.inl (gc_WX7_10 _ (List.mem_of_getElem? (i := 12) rfl))
theorem ml_L_158 : xx_ml RL 158 yL_rules := Or.inl (gc_WL_0 _ (List.mem_of_getElem? (i := 12) rfl))
theorem ml_L_33 : xx_ml RL 33 yX7_rules := Or.inl (gc_WL_0 _ (List.mem_of_getElem? (i := 13) rfl))
theorem ml_L_162 : xx_ml RL 162 yL_step := Or.inl (gc_WL_0 _ (List.mem_of_getElem? (i := 14) rfl))
theorem ml_L_37 : xx_ml RL 37 yX7_step := Or.inl (gc_WL_0 _ (List.mem_of_getElem? (i := 15) rfl))
theorem ml_L_166 : xx_ml RL 166 yL_open := Or.inl (gc_WL_1 _ (List.mem_of_getElem? (i := 0) rfl))
theorem ml_L_41 : xx_ml RL 41 yX7_open := Or.inl (gc_WL_1 _ (List.mem_of_getElem? (i := 1) rfl))
theorem ml_X7_120 : xx_ml RX7 120 yX1_allPrices := Or.inl (gc_WX7_11 _ (List.mem_of_getElem? (i := 6) rfl))
theorem ml_L_170 : xx_ml RL 170 yL_wish := Or.inl (gc_WL_1 _ (List.mem_of_getElem? (i := 2) rfl))
theorem ml_L_45 : xx_ml RL 45 yX7_wish := Or.inl (gc_WL_1 _ (List.mem_of_getElem? (i := 3) rfl))
theorem ml_X7_124 : xx_ml RX7 124 yX7_needBidder := Or.inl (gc_WX7_11 _ (List.mem_of_getElem? (i := 10) rfl))
theorem ml_X7_127 : xx_ml RX7 127 yX1_mayWish := Or.inl (gc_WX7_11 _ (List.mem_of_getElem? (i := 13) rfl))
theorem ml_X1_92 : xx_ml RX1 92 yX1_wishedByAllies := Or.inl (gc_WX1_4 _ (List.mem_of_getElem? (i := 15) rfl))
theorem ml_X1_102 : xx_ml RX1 102 yX6_areAllies := Or.inl (gc_WX1_5 _ (List.mem_of_getElem? (i := 2) rfl))
theorem ml_X7_137 : xx_ml RX7 137 yX0_replaced := Or.inl (gc_WX7_11 _ (List.mem_of_getElem? (i := 14) rfl))
theorem ml_L_173 : xx_ml RL 173 yL_waive := Or.inl (gc_WL_1 _ (List.mem_of_getElem? (i := 4) rfl))
theorem ml_L_48 : xx_ml RL 48 yX7_waive := Or.inl (gc_WL_1 _ (List.mem_of_getElem? (i := 5) rfl))
theorem ml_X7_152 : xx_ml RX7 152 yX1_hasWaived := Or.inl (gc_WX7_12 _ (List.mem_of_getElem? (i := 2) rfl))
theorem ml_X7_158 : xx_ml RX7 158 yX1_useWaiver := Or.inl (gc_WX7_12 _ (List.mem_of_getElem? (i := 3) rfl))
theorem ml_L_176 : xx_ml RL 176 yL_close := Or.inl (gc_WL_1 _ (List.mem_of_getElem? (i := 6) rfl))
theorem ml_L_51 : xx_ml RL 51 yX7_close := Or.inl (gc_WL_1 _ (List.mem_of_getElem? (i := 7) rfl))
theorem ml_X7_161 : xx_ml RX7 161 yX1_closeRound := Or.inl (gc_WX7_12 _ (List.mem_of_getElem? (i := 7) rfl))
theorem ml_X7_165 : xx_ml RX7 165 yX7_endClock := Or.inl (gc_WX7_12 _ (List.mem_of_getElem? (i := 8) rfl))
theorem ml_X7_384 : xx_ml RX7 384 yX1_lastValue := Or.inl (gc_WX7_12 _ (List.mem_of_getElem? (i := 11) rfl))
theorem ml_X7_182 : xx_ml RX7 182 yX2_add := Or.inl (gc_WX7_12 _ (List.mem_of_getElem? (i := 12) rfl))
theorem ml_X2_60 : xx_ml RX2 60 yX2_fits := Or.inl (gc_WX2_3 _ (List.mem_of_getElem? (i := 8) rfl))
theorem ml_X2_64 : xx_ml RX2 64 yX2_take := Or.inl (gc_WX2_3 _ (List.mem_of_getElem? (i := 11) rfl))
theorem ml_X2_99 : xx_ml RX2 99 yX2_moveTaken := Or.inl (gc_WX2_3 _ (List.mem_of_getElem? (i := 14) rfl))
theorem ml_X2_68 : xx_ml RX2 68 yX2_pickFrom := Or.inl (gc_WX2_4 _ (List.mem_of_getElem? (i := 1) rfl))
theorem ml_X2_83 : xx_ml RX2 83 yX2_keepIfBetter := Or.inl (gc_WX2_4 _ (List.mem_of_getElem? (i := 4) rfl))
theorem ml_X2_103 : xx_ml RX2 103 yX2_isAhead := Or.inl (gc_WX2_4 _ (List.mem_of_getElem? (i := 7) rfl))
theorem ay_X2_107 : xx_ac RX2 107 := ⟨(gc_WX2_4 _ (List.mem_of_getElem? (i := 10) rfl)), ac_nat, ac_sta, ac_ini⟩
theorem ml_X2_72 : xx_ml RX2 72 yX2_giveBack := Or.inl (gc_WX2_4 _ (List.mem_of_getElem? (i := 11) rfl))
theorem ml_X2_75 : xx_ml RX2 75 yX2_findWinners := Or.inl (gc_WX2_4 _ (List.mem_of_getElem? (i := 14) rfl))
theorem ml_X2_113 : xx_ml RX2 113 yX2_worthOf := Or.inl (gc_WX2_5 _ (List.mem_of_getElem? (i := 1) rfl))
theorem ml_X2_117 : xx_ml RX2 117 yJ9_max_7cf53 := Or.inl (gc_WX2_5 _ (List.mem_of_getElem? (i := 4) rfl))
theorem mm_X2_117 : xx_mmax RX2 117 := ⟨(gc_WX2_5 _ (List.mem_of_getElem? (i := 4) rfl)), st_J9_max_7cf53, ce_J9_max_7cf53.2.1, ce_J9_max_7cf53.1⟩
theorem ml_X7_186 : xx_ml RX7 186 yX4_find := Or.inl (gc_WX7_12 _ (List.mem_of_getElem? (i := 13) rfl))
theorem ml_X4_16 : xx_ml RX4 16 yX4_harmOf := Or.inl (gc_WX4_0 _ (List.mem_of_getElem? (i := 14) rfl))
theorem ml_X4_20 : xx_ml RX4 20 yX2_amountWon := Or.inl (gc_WX4_1 _ (List.mem_of_getElem? (i := 1) rfl))
theorem ml_X4_26 : xx_ml RX4 26 yX4_strongest := Or.inl (gc_WX4_1 _ (List.mem_of_getElem? (i := 2) rfl))
theorem ml_X4_30 : xx_ml RX4 30 yX4_objection := Or.inl (gc_WX4_1 _ (List.mem_of_getElem? (i := 5) rfl))
theorem ml_X4_34 : xx_ml RX4 34 yX4_raiseOutside := Or.inl (gc_WX4_1 _ (List.mem_of_getElem? (i := 9) rfl))
theorem ml_X4_45 : xx_ml RX4 45 yX4_roomOutside := Or.inl (gc_WX4_1 _ (List.mem_of_getElem? (i := 12) rfl))
theorem ml_X4_49 : xx_ml RX4 49 yJ9_min_7cf53 := Or.inl (gc_WX4_1 _ (List.mem_of_getElem? (i := 15) rfl))
theorem mm_X4_49 : xx_mmin RX4 49 := ⟨(gc_WX4_1 _ (List.mem_of_getElem? (i := 15) rfl)), st_J9_min_7cf53, ce_J9_min_7cf53.2.1, ce_J9_min_7cf53.1⟩
theorem ml_X4_54 : xx_ml RX4 54 yX4_raiseEach := Or.inl (gc_WX4_2 _ (List.mem_of_getElem? (i := 0) rfl))
theorem ml_L_179 : xx_ml RL 179 yL_offer := Or.inl (gc_WL_1 _ (List.mem_of_getElem? (i := 8) rfl))
theorem ml_L_54 : xx_ml RL 54 yX7_offer := Or.inl (gc_WL_1 _ (List.mem_of_getElem? (i := 9) rfl))
theorem ml_X7_168 : xx_ml RX7 168 yX6_isCode := Or.inl (gc_WX7_13 _ (List.mem_of_getElem? (i := 1) rfl))
theorem ml_X7_176 : xx_ml RX7 176 yX6_mayOffer := Or.inl (gc_WX7_13 _ (List.mem_of_getElem? (i := 2) rfl))
theorem ml_X6_58 : xx_ml RX6 58 yX0_isWithin := Or.inl (gc_WX6_2 _ (List.mem_of_getElem? (i := 6) rfl))
theorem ml_X6_62 : xx_ml RX6 62 yX6_isWithinCap := Or.inl (gc_WX6_2 _ (List.mem_of_getElem? (i := 7) rfl))
theorem ml_X6_70 : xx_ml RX6 70 yX0_many := Or.inl (gc_WX6_2 _ (List.mem_of_getElem? (i := 10) rfl))
theorem ml_X6_66 : xx_ml RX6 66 yX0_total := Or.inl (gc_WX6_2 _ (List.mem_of_getElem? (i := 11) rfl))
theorem ml_L_182 : xx_ml RL 182 yL_settle := Or.inl (gc_WL_1 _ (List.mem_of_getElem? (i := 10) rfl))
theorem ml_L_57 : xx_ml RL 57 yX7_settle := Or.inl (gc_WL_1 _ (List.mem_of_getElem? (i := 11) rfl))
theorem ml_X7_193 : xx_ml RX7 193 yX3_give := Or.inl (gc_WX7_13 _ (List.mem_of_getElem? (i := 6) rfl))
theorem ml_X3_31 : xx_ml RX3 31 yX3_giveByTurn := Or.inl (gc_WX3_1 _ (List.mem_of_getElem? (i := 12) rfl))
theorem ml_X3_49 : xx_ml RX3 49 yJ9_min_7cf53 := Or.inl (gc_WX3_1 _ (List.mem_of_getElem? (i := 15) rfl))
theorem mm_X3_49 : xx_mmin RX3 49 := ⟨(gc_WX3_1 _ (List.mem_of_getElem? (i := 15) rfl)), st_J9_min_7cf53, ce_J9_min_7cf53.2.1, ce_J9_min_7cf53.1⟩
theorem ml_X3_35 : xx_ml RX3 35 yX3_clashesOf := Or.inl (gc_WX3_2 _ (List.mem_of_getElem? (i := 0) rfl))
theorem ml_X3_54 : xx_ml RX3 54 yX6_areNeighbours := Or.inl (gc_WX3_2 _ (List.mem_of_getElem? (i := 3) rfl))
theorem ml_X3_58 : xx_ml RX3 58 yX3_clashesBetween := Or.inl (gc_WX3_2 _ (List.mem_of_getElem? (i := 4) rfl))
theorem ml_L_185 : xx_ml RL 185 yL_fail := Or.inl (gc_WL_1 _ (List.mem_of_getElem? (i := 12) rfl))
theorem ml_L_60 : xx_ml RL 60 yX7_fail := Or.inl (gc_WL_1 _ (List.mem_of_getElem? (i := 13) rfl))
theorem ml_X7_212 : xx_ml RX7 212 yX2_leaveOut := Or.inl (gc_WX7_13 _ (List.mem_of_getElem? (i := 10) rfl))
theorem ml_L_188 : xx_ml RL 188 yL_station := Or.inl (gc_WL_1 _ (List.mem_of_getElem? (i := 14) rfl))
theorem ml_L_63 : xx_ml RL 63 yX7_station := Or.inl (gc_WL_1 _ (List.mem_of_getElem? (i := 15) rfl))
theorem ml_X7_220 : xx_ml RX7 220 yX5_add := Or.inl (gc_WX7_13 _ (List.mem_of_getElem? (i := 14) rfl))
theorem ml_L_191 : xx_ml RL 191 yL_ask := Or.inl (gc_WL_2 _ (List.mem_of_getElem? (i := 0) rfl))
theorem ml_L_66 : xx_ml RL 66 yX7_ask := Or.inl (gc_WL_2 _ (List.mem_of_getElem? (i := 1) rfl))
theorem ml_X7_222 : xx_ml RX7 222 yX7_needStation := Or.inl (gc_WX7_14 _ (List.mem_of_getElem? (i := 2) rfl))
theorem ml_L_194 : xx_ml RL 194 yL_packs := Or.inl (gc_WL_2 _ (List.mem_of_getElem? (i := 2) rfl))
theorem ml_L_69 : xx_ml RL 69 yX7_packs := Or.inl (gc_WL_2 _ (List.mem_of_getElem? (i := 3) rfl))
theorem ml_X7_228 : xx_ml RX7 228 yX7_needSet := Or.inl (gc_WX7_14 _ (List.mem_of_getElem? (i := 8) rfl))
theorem ml_X7_232 : xx_ml RX7 232 yX5_pack := Or.inl (gc_WX7_14 _ (List.mem_of_getElem? (i := 11) rfl))
theorem ml_L_197 : xx_ml RL 197 yL_channel := Or.inl (gc_WL_2 _ (List.mem_of_getElem? (i := 4) rfl))
theorem ml_L_73 : xx_ml RL 73 yX7_channel := Or.inl (gc_WL_2 _ (List.mem_of_getElem? (i := 5) rfl))
theorem ml_X7_236 : xx_ml RX7 236 yX5_channelOf := Or.inl (gc_WX7_14 _ (List.mem_of_getElem? (i := 15) rfl))
theorem ml_L_200 : xx_ml RL 200 yL_clear := Or.inl (gc_WL_2 _ (List.mem_of_getElem? (i := 6) rfl))
theorem ml_L_76 : xx_ml RL 76 yX7_clear := Or.inl (gc_WL_2 _ (List.mem_of_getElem? (i := 7) rfl))
theorem ml_L_203 : xx_ml RL 203 yL_ofRegion := Or.inl (gc_WL_2 _ (List.mem_of_getElem? (i := 8) rfl))
theorem ml_L_79 : xx_ml RL 79 yX7_ofRegion := Or.inl (gc_WL_2 _ (List.mem_of_getElem? (i := 9) rfl))
theorem ml_L_206 : xx_ml RL 206 yL_ofBidder := Or.inl (gc_WL_2 _ (List.mem_of_getElem? (i := 10) rfl))
theorem ml_L_82 : xx_ml RL 82 yX7_ofBidder := Or.inl (gc_WL_2 _ (List.mem_of_getElem? (i := 11) rfl))
theorem ml_L_209 : xx_ml RL 209 yL_wants := Or.inl (gc_WL_2 _ (List.mem_of_getElem? (i := 12) rfl))
theorem ml_L_85 : xx_ml RL 85 yX7_wants := Or.inl (gc_WL_2 _ (List.mem_of_getElem? (i := 13) rfl))
theorem ml_X7_252 : xx_ml RX7 252 yX0_many := Or.inl (gc_WX7_15 _ (List.mem_of_getElem? (i := 12) rfl))
theorem ml_L_213 : xx_ml RL 213 yL_priceIn := Or.inl (gc_WL_2 _ (List.mem_of_getElem? (i := 14) rfl))
theorem ml_L_89 : xx_ml RL 89 yX7_priceIn := Or.inl (gc_WL_2 _ (List.mem_of_getElem? (i := 15) rfl))
theorem ml_X7_255 : xx_ml RX7 255 yX7_needRound := Or.inl (gc_WX7_16 _ (List.mem_of_getElem? (i := 0) rfl))
theorem ml_L_216 : xx_ml RL 216 yL_codeIn := Or.inl (gc_WL_3 _ (List.mem_of_getElem? (i := 0) rfl))
theorem ml_L_92 : xx_ml RL 92 yX7_codeIn := Or.inl (gc_WL_3 _ (List.mem_of_getElem? (i := 1) rfl))
theorem ml_L_219 : xx_ml RL 219 yL_ofPackage := Or.inl (gc_WL_3 _ (List.mem_of_getElem? (i := 2) rfl))
theorem ml_L_95 : xx_ml RL 95 yX7_ofPackage := Or.inl (gc_WL_3 _ (List.mem_of_getElem? (i := 3) rfl))
theorem ml_L_222 : xx_ml RL 222 yL_wins := Or.inl (gc_WL_3 _ (List.mem_of_getElem? (i := 4) rfl))
theorem ml_L_98 : xx_ml RL 98 yX7_wins := Or.inl (gc_WL_3 _ (List.mem_of_getElem? (i := 5) rfl))
theorem ml_L_225 : xx_ml RL 225 yL_pays := Or.inl (gc_WL_3 _ (List.mem_of_getElem? (i := 6) rfl))
theorem ml_L_101 : xx_ml RL 101 yX7_pays := Or.inl (gc_WL_3 _ (List.mem_of_getElem? (i := 7) rfl))
theorem ml_L_228 : xx_ml RL 228 yL_holder := Or.inl (gc_WL_3 _ (List.mem_of_getElem? (i := 8) rfl))
theorem ml_L_104 : xx_ml RL 104 yX7_holder := Or.inl (gc_WL_3 _ (List.mem_of_getElem? (i := 9) rfl))
theorem ml_L_231 : xx_ml RL 231 yL_chart := Or.inl (gc_WL_3 _ (List.mem_of_getElem? (i := 10) rfl))
theorem ml_L_107 : xx_ml RL 107 yX7_chart := Or.inl (gc_WL_3 _ (List.mem_of_getElem? (i := 11) rfl))
theorem ml_X7_300 : xx_ml RX7 300 yJ4_toString_0e30d := Or.inl (gc_WX7_17 _ (List.mem_of_getElem? (i := 5) rfl))
theorem ml_L_240 : xx_ml RL 240 yL_sale := Or.inl (gc_WL_3 _ (List.mem_of_getElem? (i := 12) rfl))
theorem ml_L_115 : xx_ml RL 115 yX7_sale := Or.inl (gc_WL_3 _ (List.mem_of_getElem? (i := 13) rfl))
theorem ml_L_243 : xx_ml RL 243 yL_worth := Or.inl (gc_WL_3 _ (List.mem_of_getElem? (i := 14) rfl))
theorem ml_L_118 : xx_ml RL 118 yX7_worth := Or.inl (gc_WL_3 _ (List.mem_of_getElem? (i := 15) rfl))
theorem ml_L_246 : xx_ml RL 246 yL_wouldPay := Or.inl (gc_WL_4 _ (List.mem_of_getElem? (i := 0) rfl))
theorem ml_L_121 : xx_ml RL 121 yX7_wouldPay := Or.inl (gc_WL_4 _ (List.mem_of_getElem? (i := 1) rfl))
theorem ml_L_249 : xx_ml RL 249 yL_objects := Or.inl (gc_WL_4 _ (List.mem_of_getElem? (i := 2) rfl))
theorem ml_L_124 : xx_ml RL 124 yX7_objects := Or.inl (gc_WL_4 _ (List.mem_of_getElem? (i := 3) rfl))
theorem ml_X7_313 : xx_ml RX7 313 yX4_objection := Or.inl (gc_WX7_18 _ (List.mem_of_getElem? (i := 2) rfl))
theorem ml_X7_317 : xx_ml RX7 317 yJ9_max_7cf53 := Or.inl (gc_WX7_18 _ (List.mem_of_getElem? (i := 3) rfl))
theorem mm_X7_317 : xx_mmax RX7 317 := ⟨(gc_WX7_18 _ (List.mem_of_getElem? (i := 3) rfl)), st_J9_max_7cf53, ce_J9_max_7cf53.2.1, ce_J9_max_7cf53.1⟩
theorem ml_L_252 : xx_ml RL 252 yL_most := Or.inl (gc_WL_4 _ (List.mem_of_getElem? (i := 4) rfl))
theorem ml_L_127 : xx_ml RL 127 yX7_most := Or.inl (gc_WL_4 _ (List.mem_of_getElem? (i := 5) rfl))
theorem ml_X7_322 : xx_ml RX7 322 yX1_greatestWish := Or.inl (gc_WX7_18 _ (List.mem_of_getElem? (i := 7) rfl))
theorem ml_X1_106 : xx_ml RX1 106 yX1_mayWish := Or.inl (gc_WX1_5 _ (List.mem_of_getElem? (i := 12) rfl))
theorem ml_L_255 : xx_ml RL 255 yL_contradicts := Or.inl (gc_WL_4 _ (List.mem_of_getElem? (i := 6) rfl))
theorem ml_L_130 : xx_ml RL 130 yX7_contradicts := Or.inl (gc_WL_4 _ (List.mem_of_getElem? (i := 7) rfl))
theorem ml_X7_326 : xx_ml RX7 326 yX1_contradictedRound := Or.inl (gc_WX7_18 _ (List.mem_of_getElem? (i := 11) rfl))
theorem ml_L_258 : xx_ml RL 258 yL_anew := Or.inl (gc_WL_4 _ (List.mem_of_getElem? (i := 8) rfl))
theorem ml_L_133 : xx_ml RL 133 yX7_anew := Or.inl (gc_WL_4 _ (List.mem_of_getElem? (i := 9) rfl))
theorem nw_L_137 : Cond.classLink RL 137 RX14 ∈ xx_gws ∧ Cond.instantiable RX14 17 ∈ xx_gws ∧ Cond.initialized RX14 ∈ xx_gws := ⟨(gc_WL_4 _ (List.mem_of_getElem? (i := 10) rfl)), (gc_Z_3 _ (List.mem_of_getElem? (i := 1) rfl)), (gc_Z_0 _ (List.mem_of_getElem? (i := 8) rfl))⟩
theorem ml_L_139 : xx_ml RL 139 yX14_init := Or.inl (gc_WL_4 _ (List.mem_of_getElem? (i := 11) rfl))
theorem oi_X14_1 : Cond.methodLink RX14 1 Lib.objectInit ∈ xx_gws ∧ Cond.instanceMethod Lib.objectInit ∈ xx_gws ∧ Cond.code Lib.objectInit ⟨#[0xb1]⟩ 1 none ∈ xx_gws := ⟨(gc_WX14_2 _ (List.mem_of_getElem? (i := 6) rfl)), oi_2, oi_3⟩
theorem nw_X14_20 : Cond.classLink RX14 20 RJx4a65c ∈ xx_gws ∧ Cond.instantiable RJx4a65c 3 ∈ xx_gws ∧ Cond.initialized RJx4a65c ∈ xx_gws := ⟨(gc_WX14_2 _ (List.mem_of_getElem? (i := 7) rfl)), (gc_Z_3 _ (List.mem_of_getElem? (i := 2) rfl)), (gc_Z_0 _ (List.mem_of_getElem? (i := 11) rfl))⟩
theorem ml_X14_22 : xx_ml RX14 22 yJx4a65c_init_da8c8 := Or.inl (gc_WX14_2 _ (List.mem_of_getElem? (i := 8) rfl))
theorem fl_X14_46 : xx_fl RX14 46 RX14 TX14 0 := ⟨Or.inl (gc_WX14_2 _ (List.mem_of_getElem? (i := 9) rfl)), rfl⟩
theorem fl_X10_54 : xx_fl RX10 54 RX14 TX14 1 := ⟨Or.inr ⟨"WavesaleModel", xx_nl_ok _ (List.mem_of_getElem? (i := 8) rfl)⟩, rfl⟩
theorem fl_X14_77 : xx_fl RX14 77 RX14 TX14 1 := ⟨Or.inl (gc_WX14_2 _ (List.mem_of_getElem? (i := 10) rfl)), rfl⟩
theorem fl_X14_7 : xx_fl RX14 7 RX14 TX14 2 := ⟨Or.inl (gc_WX14_2 _ (List.mem_of_getElem? (i := 11) rfl)), rfl⟩
theorem fl_X10_103 : xx_fl RX10 103 RX14 TX14 2 := ⟨Or.inr ⟨"WavesaleModel", xx_nl_ok _ (List.mem_of_getElem? (i := 9) rfl)⟩, rfl⟩
theorem fl_X14_13 : xx_fl RX14 13 RX14 TX14 3 := ⟨Or.inl (gc_WX14_2 _ (List.mem_of_getElem? (i := 12) rfl)), rfl⟩
theorem fl_X11_81 : xx_fl RX11 81 RX14 TX14 3 := ⟨Or.inr ⟨"WavesaleModel", xx_nl_ok _ (List.mem_of_getElem? (i := 10) rfl)⟩, rfl⟩
theorem fl_X14_17 : xx_fl RX14 17 RX14 TX14 4 := ⟨Or.inl (gc_WX14_2 _ (List.mem_of_getElem? (i := 13) rfl)), rfl⟩
theorem fl_X14_255 : xx_fl RX14 255 RX14 TX14 5 := ⟨Or.inl (gc_WX14_2 _ (List.mem_of_getElem? (i := 14) rfl)), rfl⟩
theorem fl_X14_371 : xx_fl RX14 371 RX14 TX14 6 := ⟨Or.inl (gc_WX14_2 _ (List.mem_of_getElem? (i := 15) rfl)), rfl⟩
theorem fl_X14_230 : xx_fl RX14 230 RX14 TX14 7 := ⟨Or.inl (gc_WX14_3 _ (List.mem_of_getElem? (i := 0) rfl)), rfl⟩
theorem fl_X11_15 : xx_fl RX11 15 RX14 TX14 8 := ⟨Or.inr ⟨"WavesaleModel", xx_nl_ok _ (List.mem_of_getElem? (i := 11) rfl)⟩, rfl⟩
theorem fl_X14_23 : xx_fl RX14 23 RX14 TX14 8 := ⟨Or.inl (gc_WX14_3 _ (List.mem_of_getElem? (i := 1) rfl)), rfl⟩
theorem fz_X14_23 : Cond.fieldLink RX14 23 RX14 (TX14 8).2.1 (TX14 8).2.2.1 ∈ xx_gws ∧ (TX14 8).1 = RX14 ∧ RX14 = RX14 := ⟨(gc_WX14_3 _ (List.mem_of_getElem? (i := 1) rfl)), rfl, rfl⟩
theorem fl_X10_35 : xx_fl RX10 35 RX14 TX14 8 := ⟨Or.inr ⟨"WavesaleModel", xx_nl_ok _ (List.mem_of_getElem? (i := 12) rfl)⟩, rfl⟩
theorem fl_X14_27 : xx_fl RX14 27 RX14 TX14 9 := ⟨Or.inl (gc_WX14_3 _ (List.mem_of_getElem? (i := 2) rfl)), rfl⟩
theorem fz_X14_27 : Cond.fieldLink RX14 27 RX14 (TX14 9).2.1 (TX14 9).2.2.1 ∈ xx_gws ∧ (TX14 9).1 = RX14 ∧ RX14 = RX14 := ⟨(gc_WX14_3 _ (List.mem_of_getElem? (i := 2) rfl)), rfl, rfl⟩
theorem fl_X11_69 : xx_fl RX11 69 RX14 TX14 9 := ⟨Or.inr ⟨"WavesaleModel", xx_nl_ok _ (List.mem_of_getElem? (i := 13) rfl)⟩, rfl⟩
theorem fl_X10_67 : xx_fl RX10 67 RX14 TX14 9 := ⟨Or.inr ⟨"WavesaleModel", xx_nl_ok _ (List.mem_of_getElem? (i := 14) rfl)⟩, rfl⟩
theorem fl_X14_30 : xx_fl RX14 30 RX14 TX14 10 := ⟨Or.inl (gc_WX14_3 _ (List.mem_of_getElem? (i := 3) rfl)), rfl⟩
theorem fz_X14_30 : Cond.fieldLink RX14 30 RX14 (TX14 10).2.1 (TX14 10).2.2.1 ∈ xx_gws ∧ (TX14 10).1 = RX14 ∧ RX14 = RX14 := ⟨(gc_WX14_3 _ (List.mem_of_getElem? (i := 3) rfl)), rfl, rfl⟩
theorem fl_X14_33 : xx_fl RX14 33 RX14 TX14 11 := ⟨Or.inl (gc_WX14_3 _ (List.mem_of_getElem? (i := 4) rfl)), rfl⟩
theorem fz_X14_33 : Cond.fieldLink RX14 33 RX14 (TX14 11).2.1 (TX14 11).2.2.1 ∈ xx_gws ∧ (TX14 11).1 = RX14 ∧ RX14 = RX14 := ⟨(gc_WX14_3 _ (List.mem_of_getElem? (i := 4) rfl)), rfl, rfl⟩
theorem fl_X14_141 : xx_fl RX14 141 RX14 TX14 12 := ⟨Or.inl (gc_WX14_3 _ (List.mem_of_getElem? (i := 5) rfl)), rfl⟩
theorem fl_X14_36 : xx_fl RX14 36 RX14 TX14 13 := ⟨Or.inl (gc_WX14_3 _ (List.mem_of_getElem? (i := 6) rfl)), rfl⟩
theorem fz_X14_36 : Cond.fieldLink RX14 36 RX14 (TX14 13).2.1 (TX14 13).2.2.1 ∈ xx_gws ∧ (TX14 13).1 = RX14 ∧ RX14 = RX14 := ⟨(gc_WX14_3 _ (List.mem_of_getElem? (i := 6) rfl)), rfl, rfl⟩
theorem fl_X14_40 : xx_fl RX14 40 RX14 TX14 14 := ⟨Or.inl (gc_WX14_3 _ (List.mem_of_getElem? (i := 7) rfl)), rfl⟩
theorem fz_X14_40 : Cond.fieldLink RX14 40 RX14 (TX14 14).2.1 (TX14 14).2.2.1 ∈ xx_gws ∧ (TX14 14).1 = RX14 ∧ RX14 = RX14 := ⟨(gc_WX14_3 _ (List.mem_of_getElem? (i := 7) rfl)), rfl, rfl⟩
theorem fl_X14_43 : xx_fl RX14 43 RX14 TX14 15 := ⟨Or.inl (gc_WX14_3 _ (List.mem_of_getElem? (i := 8) rfl)), rfl⟩
theorem fz_X14_43 : Cond.fieldLink RX14 43 RX14 (TX14 15).2.1 (TX14 15).2.2.1 ∈ xx_gws ∧ (TX14 15).1 = RX14 ∧ RX14 = RX14 := ⟨(gc_WX14_3 _ (List.mem_of_getElem? (i := 8) rfl)), rfl, rfl⟩
theorem fl_X14_407 : xx_fl RX14 407 RX14 TX14 16 := ⟨Or.inl (gc_WX14_3 _ (List.mem_of_getElem? (i := 9) rfl)), rfl⟩
theorem ml_L_147 : xx_ml RL 147 yX14_thrown := Or.inl (gc_WL_4 _ (List.mem_of_getElem? (i := 12) rfl))
theorem ml_L_146 : xx_ml RL 146 yX14_region := Or.inl (gc_WL_4 _ (List.mem_of_getElem? (i := 13) rfl))
theorem ml_X14_70 : xx_ml RX14 70 yX14_is := Or.inl (gc_WX14_4 _ (List.mem_of_getElem? (i := 0) rfl))
theorem ml_X14_74 : xx_ml RX14 74 yX14_refuse := Or.inl (gc_WX14_4 _ (List.mem_of_getElem? (i := 3) rfl))
theorem ml_X14_57 : xx_ml RX14 57 yJx4a65c_size_8abf5 := Or.inl (gc_WX14_4 _ (List.mem_of_getElem? (i := 6) rfl))
theorem nw_X14_65 : Cond.classLink RX14 65 RX12 ∈ xx_gws ∧ Cond.instantiable RX12 4 ∈ xx_gws ∧ Cond.initialized RX12 ∈ xx_gws := ⟨(gc_WX14_4 _ (List.mem_of_getElem? (i := 7) rfl)), (gc_Z_3 _ (List.mem_of_getElem? (i := 3) rfl)), (gc_Z_0 _ (List.mem_of_getElem? (i := 14) rfl))⟩
theorem ml_X14_80 : xx_ml RX14 80 yX12_init := Or.inr ⟨"WavesaleModel", xx_nl_ok _ (List.mem_of_getElem? (i := 15) rfl)⟩
theorem oi_X12_1 : Cond.methodLink RX12 1 Lib.objectInit ∈ xx_gws ∧ Cond.instanceMethod Lib.objectInit ∈ xx_gws ∧ Cond.code Lib.objectInit ⟨#[0xb1]⟩ 1 none ∈ xx_gws := ⟨(gw_WX12 _ (List.mem_of_getElem? (i := 2) rfl)), oi_2, oi_3⟩
theorem fl_X10_51 : xx_fl RX10 51 RX12 TX12 0 := ⟨Or.inr ⟨"WavesaleModel", xx_nl_ok _ (List.mem_of_getElem? (i := 16) rfl)⟩, rfl⟩
theorem fl_X11_107 : xx_fl RX11 107 RX12 TX12 0 := ⟨Or.inr ⟨"WavesaleModel", xx_nl_ok _ (List.mem_of_getElem? (i := 17) rfl)⟩, rfl⟩
theorem fl_X14_81 : xx_fl RX14 81 RX12 TX12 0 := ⟨Or.inr ⟨"WavesaleModel", xx_nl_ok _ (List.mem_of_getElem? (i := 18) rfl)⟩, rfl⟩
theorem fl_X14_67 : xx_fl RX14 67 RX12 TX12 1 := ⟨Or.inr ⟨"WavesaleModel", xx_nl_ok _ (List.mem_of_getElem? (i := 19) rfl)⟩, rfl⟩
theorem fl_X11_65 : xx_fl RX11 65 RX12 TX12 2 := ⟨Or.inr ⟨"WavesaleModel", xx_nl_ok _ (List.mem_of_getElem? (i := 20) rfl)⟩, rfl⟩
theorem fl_X14_84 : xx_fl RX14 84 RX12 TX12 2 := ⟨Or.inr ⟨"WavesaleModel", xx_nl_ok _ (List.mem_of_getElem? (i := 21) rfl)⟩, rfl⟩
theorem fl_X14_95 : xx_fl RX14 95 RX12 TX12 3 := ⟨Or.inr ⟨"WavesaleModel", xx_nl_ok _ (List.mem_of_getElem? (i := 22) rfl)⟩, rfl⟩
theorem ml_X14_87 : xx_ml RX14 87 yJx4a65c_add_9ea2d := Or.inl (gc_WX14_4 _ (List.mem_of_getElem? (i := 8) rfl))
theorem ml_L_153 : xx_ml RL 153 yX14_border := Or.inl (gc_WL_4 _ (List.mem_of_getElem? (i := 14) rfl))
theorem ml_X14_91 : xx_ml RX14 91 yX14_isRegion := Or.inl (gc_WX14_4 _ (List.mem_of_getElem? (i := 12) rfl))
theorem ml_X14_61 : xx_ml RX14 61 yJx4a65c_get_915e3 := Or.inl (gc_WX14_4 _ (List.mem_of_getElem? (i := 15) rfl))
theorem ml_X14_98 : xx_ml RX14 98 yJx4a65c_iterator_32c93 := Or.inl (gc_WX14_5 _ (List.mem_of_getElem? (i := 0) rfl))
theorem ml_X14_112 : xx_ml RX14 112 yJ6_bitCount_0f7a4 := Or.inl (gc_WX14_5 _ (List.mem_of_getElem? (i := 1) rfl))
theorem ml_L_157 : xx_ml RL 157 yX14_bidder := Or.inl (gc_WL_4 _ (List.mem_of_getElem? (i := 15) rfl))
theorem ct_X14_117 : Cond.constant RX14 117 (99999 : Int32) ∈ xx_gws := (gc_WX14_5 _ (List.mem_of_getElem? (i := 5) rfl))
theorem nw_X14_118 : Cond.classLink RX14 118 RX9 ∈ xx_gws ∧ Cond.instantiable RX9 6 ∈ xx_gws ∧ Cond.initialized RX9 ∈ xx_gws := ⟨(gc_WX14_5 _ (List.mem_of_getElem? (i := 6) rfl)), (gc_Z_3 _ (List.mem_of_getElem? (i := 4) rfl)), (gc_Z_1 _ (List.mem_of_getElem? (i := 6) rfl))⟩
theorem ml_X14_120 : xx_ml RX14 120 yX9_init := Or.inr ⟨"WavesaleModel", xx_nl_ok _ (List.mem_of_getElem? (i := 23) rfl)⟩
theorem oi_X9_1 : Cond.methodLink RX9 1 Lib.objectInit ∈ xx_gws ∧ Cond.instanceMethod Lib.objectInit ∈ xx_gws ∧ Cond.code Lib.objectInit ⟨#[0xb1]⟩ 1 none ∈ xx_gws := ⟨(gw_WX9 _ (List.mem_of_getElem? (i := 2) rfl)), oi_2, oi_3⟩
theorem nw_X9_7 : Cond.classLink RX9 7 RJx4a65c ∈ xx_gws ∧ Cond.instantiable RJx4a65c 3 ∈ xx_gws ∧ Cond.initialized RJx4a65c ∈ xx_gws := ⟨(gw_WX9 _ (List.mem_of_getElem? (i := 3) rfl)), (gc_Z_3 _ (List.mem_of_getElem? (i := 2) rfl)), (gc_Z_0 _ (List.mem_of_getElem? (i := 11) rfl))⟩
theorem ml_X9_9 : xx_ml RX9 9 yJx4a65c_init_da8c8 := Or.inl (gw_WX9 _ (List.mem_of_getElem? (i := 4) rfl))
theorem fl_X14_121 : xx_fl RX14 121 RX9 TX9 0 := ⟨Or.inr ⟨"WavesaleModel", xx_nl_ok _ (List.mem_of_getElem? (i := 24) rfl)⟩, rfl⟩
theorem fl_X11_74 : xx_fl RX11 74 RX9 TX9 1 := ⟨Or.inr ⟨"WavesaleModel", xx_nl_ok _ (List.mem_of_getElem? (i := 25) rfl)⟩, rfl⟩
theorem fl_X14_124 : xx_fl RX14 124 RX9 TX9 1 := ⟨Or.inr ⟨"WavesaleModel", xx_nl_ok _ (List.mem_of_getElem? (i := 26) rfl)⟩, rfl⟩
theorem fl_X14_127 : xx_fl RX14 127 RX9 TX9 2 := ⟨Or.inr ⟨"WavesaleModel", xx_nl_ok _ (List.mem_of_getElem? (i := 27) rfl)⟩, rfl⟩
theorem fl_X10_100 : xx_fl RX10 100 RX9 TX9 3 := ⟨Or.inr ⟨"WavesaleModel", xx_nl_ok _ (List.mem_of_getElem? (i := 28) rfl)⟩, rfl⟩
theorem fl_X14_130 : xx_fl RX14 130 RX9 TX9 3 := ⟨Or.inr ⟨"WavesaleModel", xx_nl_ok _ (List.mem_of_getElem? (i := 29) rfl)⟩, rfl⟩
theorem fl_X10_81 : xx_fl RX10 81 RX9 TX9 4 := ⟨Or.inr ⟨"WavesaleModel", xx_nl_ok _ (List.mem_of_getElem? (i := 30) rfl)⟩, rfl⟩
theorem fl_X14_258 : xx_fl RX14 258 RX9 TX9 4 := ⟨Or.inr ⟨"WavesaleModel", xx_nl_ok _ (List.mem_of_getElem? (i := 31) rfl)⟩, rfl⟩
theorem fl_X9_10 : xx_fl RX9 10 RX9 TX9 5 := ⟨Or.inl (gw_WX9 _ (List.mem_of_getElem? (i := 5) rfl)), rfl⟩
theorem fz_X9_10 : Cond.fieldLink RX9 10 RX9 (TX9 5).2.1 (TX9 5).2.2.1 ∈ xx_gws ∧ (TX9 5).1 = RX9 ∧ RX9 = RX9 := ⟨(gw_WX9 _ (List.mem_of_getElem? (i := 5) rfl)), rfl, rfl⟩
theorem fl_X14_203 : xx_fl RX14 203 RX9 TX9 5 := ⟨Or.inr ⟨"WavesaleModel", xx_nl_ok _ (List.mem_of_getElem? (i := 32) rfl)⟩, rfl⟩
theorem ml_L_161 : xx_ml RL 161 yX14_rules := Or.inl (gc_WL_5 _ (List.mem_of_getElem? (i := 0) rfl))
theorem ml_L_165 : xx_ml RL 165 yX14_step := Or.inl (gc_WL_5 _ (List.mem_of_getElem? (i := 1) rfl))
theorem ml_L_169 : xx_ml RL 169 yX14_open := Or.inl (gc_WL_5 _ (List.mem_of_getElem? (i := 2) rfl))
theorem ml_X14_133 : xx_ml RX14 133 yJx4a65c_isEmpty_aae02 := Or.inl (gc_WX14_6 _ (List.mem_of_getElem? (i := 0) rfl))
theorem nw_X14_136 : Cond.classLink RX14 136 RX11 ∈ xx_gws ∧ Cond.instantiable RX11 11 ∈ xx_gws ∧ Cond.initialized RX11 ∈ xx_gws := ⟨(gc_WX14_6 _ (List.mem_of_getElem? (i := 1) rfl)), (gc_Z_3 _ (List.mem_of_getElem? (i := 5) rfl)), (gc_Z_1 _ (List.mem_of_getElem? (i := 7) rfl))⟩
theorem ml_X14_138 : xx_ml RX14 138 yX11_init := Or.inl (gc_WX14_6 _ (List.mem_of_getElem? (i := 2) rfl))
theorem oi_X11_9 : Cond.methodLink RX11 9 Lib.objectInit ∈ xx_gws ∧ Cond.instanceMethod Lib.objectInit ∈ xx_gws ∧ Cond.code Lib.objectInit ⟨#[0xb1]⟩ 1 none ∈ xx_gws := ⟨(gc_WX11_0 _ (List.mem_of_getElem? (i := 2) rfl)), oi_2, oi_3⟩
theorem ml_X11_19 : xx_ml RX11 19 yJx4a65c_size_8abf5 := Or.inl (gc_WX11_0 _ (List.mem_of_getElem? (i := 3) rfl))
theorem ml_X11_29 : xx_ml RX11 29 yX14_codes := Or.inr ⟨"WavesaleModel", xx_nl_ok _ (List.mem_of_getElem? (i := 33) rfl)⟩
theorem nw_X11_20 : Cond.classLink RX11 20 RJx4a65c ∈ xx_gws ∧ Cond.instantiable RJx4a65c 3 ∈ xx_gws ∧ Cond.initialized RJx4a65c ∈ xx_gws := ⟨(gc_WX11_0 _ (List.mem_of_getElem? (i := 4) rfl)), (gc_Z_3 _ (List.mem_of_getElem? (i := 2) rfl)), (gc_Z_0 _ (List.mem_of_getElem? (i := 11) rfl))⟩
theorem ml_X11_52 : xx_ml RX11 52 yJx4a65c_init_da8c8 := Or.inl (gc_WX11_0 _ (List.mem_of_getElem? (i := 5) rfl))
theorem ml_X11_59 : xx_ml RX11 59 yJx4a65c_get_915e3 := Or.inl (gc_WX11_0 _ (List.mem_of_getElem? (i := 6) rfl))
theorem nw_X11_63 : Cond.classLink RX11 63 RX12 ∈ xx_gws ∧ Cond.instantiable RX12 4 ∈ xx_gws ∧ Cond.initialized RX12 ∈ xx_gws := ⟨(gc_WX11_0 _ (List.mem_of_getElem? (i := 7) rfl)), (gc_Z_3 _ (List.mem_of_getElem? (i := 3) rfl)), (gc_Z_0 _ (List.mem_of_getElem? (i := 14) rfl))⟩
theorem nw_X11_72 : Cond.classLink RX11 72 RX9 ∈ xx_gws ∧ Cond.instantiable RX9 6 ∈ xx_gws ∧ Cond.initialized RX9 ∈ xx_gws := ⟨(gc_WX11_0 _ (List.mem_of_getElem? (i := 8) rfl)), (gc_Z_3 _ (List.mem_of_getElem? (i := 4) rfl)), (gc_Z_1 _ (List.mem_of_getElem? (i := 6) rfl))⟩
theorem fl_X11_25 : xx_fl RX11 25 RX11 TX11 0 := ⟨Or.inl (gc_WX11_0 _ (List.mem_of_getElem? (i := 9) rfl)), rfl⟩
theorem fz_X11_25 : Cond.fieldLink RX11 25 RX11 (TX11 0).2.1 (TX11 0).2.2.1 ∈ xx_gws ∧ (TX11 0).1 = RX11 ∧ RX11 = RX11 := ⟨(gc_WX11_0 _ (List.mem_of_getElem? (i := 9) rfl)), rfl, rfl⟩
theorem fl_X14_176 : xx_fl RX14 176 RX11 TX11 0 := ⟨Or.inr ⟨"WavesaleModel", xx_nl_ok _ (List.mem_of_getElem? (i := 34) rfl)⟩, rfl⟩
theorem fl_X11_33 : xx_fl RX11 33 RX11 TX11 1 := ⟨Or.inl (gc_WX11_0 _ (List.mem_of_getElem? (i := 10) rfl)), rfl⟩
theorem fl_X14_192 : xx_fl RX14 192 RX11 TX11 1 := ⟨Or.inr ⟨"WavesaleModel", xx_nl_ok _ (List.mem_of_getElem? (i := 35) rfl)⟩, rfl⟩
theorem fl_X11_36 : xx_fl RX11 36 RX11 TX11 2 := ⟨Or.inl (gc_WX11_0 _ (List.mem_of_getElem? (i := 11) rfl)), rfl⟩
theorem fl_X14_145 : xx_fl RX14 145 RX11 TX11 2 := ⟨Or.inr ⟨"WavesaleModel", xx_nl_ok _ (List.mem_of_getElem? (i := 36) rfl)⟩, rfl⟩
theorem fl_X11_39 : xx_fl RX11 39 RX11 TX11 3 := ⟨Or.inl (gc_WX11_0 _ (List.mem_of_getElem? (i := 12) rfl)), rfl⟩
theorem fl_X14_165 : xx_fl RX14 165 RX11 TX11 3 := ⟨Or.inr ⟨"WavesaleModel", xx_nl_ok _ (List.mem_of_getElem? (i := 37) rfl)⟩, rfl⟩
theorem fl_X11_43 : xx_fl RX11 43 RX11 TX11 4 := ⟨Or.inl (gc_WX11_0 _ (List.mem_of_getElem? (i := 13) rfl)), rfl⟩
theorem fz_X11_43 : Cond.fieldLink RX11 43 RX11 (TX11 4).2.1 (TX11 4).2.2.1 ∈ xx_gws ∧ (TX11 4).1 = RX11 ∧ RX11 = RX11 := ⟨(gc_WX11_0 _ (List.mem_of_getElem? (i := 13) rfl)), rfl, rfl⟩
theorem fl_X14_154 : xx_fl RX14 154 RX11 TX11 4 := ⟨Or.inr ⟨"WavesaleModel", xx_nl_ok _ (List.mem_of_getElem? (i := 38) rfl)⟩, rfl⟩
theorem fl_X11_46 : xx_fl RX11 46 RX11 TX11 5 := ⟨Or.inl (gc_WX11_0 _ (List.mem_of_getElem? (i := 14) rfl)), rfl⟩
theorem fz_X11_46 : Cond.fieldLink RX11 46 RX11 (TX11 5).2.1 (TX11 5).2.2.1 ∈ xx_gws ∧ (TX11 5).1 = RX11 ∧ RX11 = RX11 := ⟨(gc_WX11_0 _ (List.mem_of_getElem? (i := 14) rfl)), rfl, rfl⟩
theorem fl_X14_162 : xx_fl RX14 162 RX11 TX11 5 := ⟨Or.inr ⟨"WavesaleModel", xx_nl_ok _ (List.mem_of_getElem? (i := 39) rfl)⟩, rfl⟩
theorem fl_X11_49 : xx_fl RX11 49 RX11 TX11 6 := ⟨Or.inl (gc_WX11_0 _ (List.mem_of_getElem? (i := 15) rfl)), rfl⟩
theorem fz_X11_49 : Cond.fieldLink RX11 49 RX11 (TX11 6).2.1 (TX11 6).2.2.1 ∈ xx_gws ∧ (TX11 6).1 = RX11 ∧ RX11 = RX11 := ⟨(gc_WX11_0 _ (List.mem_of_getElem? (i := 15) rfl)), rfl, rfl⟩
theorem fl_X14_308 : xx_fl RX14 308 RX11 TX11 6 := ⟨Or.inr ⟨"WavesaleModel", xx_nl_ok _ (List.mem_of_getElem? (i := 40) rfl)⟩, rfl⟩
theorem fl_X11_53 : xx_fl RX11 53 RX11 TX11 7 := ⟨Or.inl (gc_WX11_1 _ (List.mem_of_getElem? (i := 0) rfl)), rfl⟩
theorem fz_X11_53 : Cond.fieldLink RX11 53 RX11 (TX11 7).2.1 (TX11 7).2.2.1 ∈ xx_gws ∧ (TX11 7).1 = RX11 ∧ RX11 = RX11 := ⟨(gc_WX11_1 _ (List.mem_of_getElem? (i := 0) rfl)), rfl, rfl⟩
theorem fl_X11_56 : xx_fl RX11 56 RX11 TX11 8 := ⟨Or.inl (gc_WX11_1 _ (List.mem_of_getElem? (i := 1) rfl)), rfl⟩
theorem fz_X11_56 : Cond.fieldLink RX11 56 RX11 (TX11 8).2.1 (TX11 8).2.2.1 ∈ xx_gws ∧ (TX11 8).1 = RX11 ∧ RX11 = RX11 := ⟨(gc_WX11_1 _ (List.mem_of_getElem? (i := 1) rfl)), rfl, rfl⟩
theorem fl_X11_121 : xx_fl RX11 121 RX11 TX11 9 := ⟨Or.inl (gc_WX11_1 _ (List.mem_of_getElem? (i := 2) rfl)), rfl⟩
theorem fl_X14_196 : xx_fl RX14 196 RX11 TX11 9 := ⟨Or.inr ⟨"WavesaleModel", xx_nl_ok _ (List.mem_of_getElem? (i := 41) rfl)⟩, rfl⟩
theorem fl_X11_3 : xx_fl RX11 3 RX11 TX11 10 := ⟨Or.inl (gc_WX11_1 _ (List.mem_of_getElem? (i := 3) rfl)), rfl⟩
theorem fz_X11_3 : Cond.fieldLink RX11 3 RX11 (TX11 10).2.1 (TX11 10).2.2.1 ∈ xx_gws ∧ (TX11 10).1 = RX11 ∧ RX11 = RX11 := ⟨(gc_WX11_1 _ (List.mem_of_getElem? (i := 3) rfl)), rfl, rfl⟩
theorem ml_L_172 : xx_ml RL 172 yX14_wish := Or.inl (gc_WL_5 _ (List.mem_of_getElem? (i := 3) rfl))
theorem ml_X14_156 : xx_ml RX14 156 yX14_isBidder := Or.inl (gc_WX14_6 _ (List.mem_of_getElem? (i := 8) rfl))
theorem ml_X14_159 : xx_ml RX14 159 yX14_canWish := Or.inl (gc_WX14_6 _ (List.mem_of_getElem? (i := 11) rfl))
theorem ml_X14_53 : xx_ml RX14 53 yX14_of := Or.inl (gc_WX14_6 _ (List.mem_of_getElem? (i := 14) rfl))
theorem ml_X14_49 : xx_ml RX14 49 yX14_power := Or.inl (gc_WX14_7 _ (List.mem_of_getElem? (i := 1) rfl))
theorem ml_X14_148 : xx_ml RX14 148 yX14_with := Or.inl (gc_WX14_7 _ (List.mem_of_getElem? (i := 4) rfl))
theorem ml_X14_152 : xx_ml RX14 152 yX14_points := Or.inl (gc_WX14_7 _ (List.mem_of_getElem? (i := 7) rfl))
theorem ml_L_175 : xx_ml RL 175 yX14_waive := Or.inl (gc_WL_5 _ (List.mem_of_getElem? (i := 4) rfl))
theorem ml_L_178 : xx_ml RL 178 yX14_close := Or.inl (gc_WL_5 _ (List.mem_of_getElem? (i := 5) rfl))
theorem ml_X14_169 : xx_ml RX14 169 yX14_closeOne := Or.inl (gc_WX14_8 _ (List.mem_of_getElem? (i := 0) rfl))
theorem nw_X14_172 : Cond.classLink RX14 172 RX13 ∈ xx_gws ∧ Cond.instantiable RX13 5 ∈ xx_gws ∧ Cond.initialized RX13 ∈ xx_gws := ⟨(gc_WX14_8 _ (List.mem_of_getElem? (i := 3) rfl)), (gc_Z_3 _ (List.mem_of_getElem? (i := 7) rfl)), (gc_Z_1 _ (List.mem_of_getElem? (i := 9) rfl))⟩
theorem ml_X14_174 : xx_ml RX14 174 yX13_init := Or.inr ⟨"WavesaleModel", xx_nl_ok _ (List.mem_of_getElem? (i := 42) rfl)⟩
theorem oi_X13_1 : Cond.methodLink RX13 1 Lib.objectInit ∈ xx_gws ∧ Cond.instanceMethod Lib.objectInit ∈ xx_gws ∧ Cond.code Lib.objectInit ⟨#[0xb1]⟩ 1 none ∈ xx_gws := ⟨(gw_WX13 _ (List.mem_of_getElem? (i := 2) rfl)), oi_2, oi_3⟩
theorem fl_X14_175 : xx_fl RX14 175 RX13 TX13 0 := ⟨Or.inr ⟨"WavesaleModel", xx_nl_ok _ (List.mem_of_getElem? (i := 43) rfl)⟩, rfl⟩
theorem fl_X14_183 : xx_fl RX14 183 RX13 TX13 1 := ⟨Or.inr ⟨"WavesaleModel", xx_nl_ok _ (List.mem_of_getElem? (i := 44) rfl)⟩, rfl⟩
theorem fl_X14_184 : xx_fl RX14 184 RX13 TX13 2 := ⟨Or.inr ⟨"WavesaleModel", xx_nl_ok _ (List.mem_of_getElem? (i := 45) rfl)⟩, rfl⟩
theorem fl_X14_195 : xx_fl RX14 195 RX13 TX13 3 := ⟨Or.inr ⟨"WavesaleModel", xx_nl_ok _ (List.mem_of_getElem? (i := 46) rfl)⟩, rfl⟩
theorem fl_X14_187 : xx_fl RX14 187 RX13 TX13 4 := ⟨Or.inr ⟨"WavesaleModel", xx_nl_ok _ (List.mem_of_getElem? (i := 47) rfl)⟩, rfl⟩
theorem ml_X14_188 : xx_ml RX14 188 yX11_close := Or.inl (gc_WX14_8 _ (List.mem_of_getElem? (i := 4) rfl))
theorem ml_X11_85 : xx_ml RX11 85 yX11_contradicts := Or.inl (gc_WX11_1 _ (List.mem_of_getElem? (i := 7) rfl))
theorem ml_X11_76 : xx_ml RX11 76 yX14_of := Or.inr ⟨"WavesaleModel", xx_nl_ok _ (List.mem_of_getElem? (i := 48) rfl)⟩
theorem ml_X11_89 : xx_ml RX11 89 yX14_points := Or.inr ⟨"WavesaleModel", xx_nl_ok _ (List.mem_of_getElem? (i := 49) rfl)⟩
theorem ml_X11_96 : xx_ml RX11 96 yJx4a65c_add_9ea2d := Or.inl (gc_WX11_1 _ (List.mem_of_getElem? (i := 11) rfl))
theorem ml_X11_100 : xx_ml RX11 100 yX14_with := Or.inr ⟨"WavesaleModel", xx_nl_ok _ (List.mem_of_getElem? (i := 50) rfl)⟩
theorem ml_X11_104 : xx_ml RX11 104 yX11_heldIn := Or.inl (gc_WX11_1 _ (List.mem_of_getElem? (i := 12) rfl))
theorem ml_X11_110 : xx_ml RX11 110 yX14_power := Or.inr ⟨"WavesaleModel", xx_nl_ok _ (List.mem_of_getElem? (i := 51) rfl)⟩
theorem ml_X11_113 : xx_ml RX11 113 yJ9_max_7cf53 := Or.inl (gc_WX11_2 _ (List.mem_of_getElem? (i := 0) rfl))
theorem mm_X11_113 : xx_mmax RX11 113 := ⟨(gc_WX11_2 _ (List.mem_of_getElem? (i := 0) rfl)), st_J9_max_7cf53, ce_J9_max_7cf53.2.1, ce_J9_max_7cf53.1⟩
theorem ml_X11_118 : xx_ml RX11 118 yJ9_min_7cf53 := Or.inl (gc_WX11_2 _ (List.mem_of_getElem? (i := 1) rfl))
theorem mm_X11_118 : xx_mmin RX11 118 := ⟨(gc_WX11_2 _ (List.mem_of_getElem? (i := 1) rfl)), st_J9_min_7cf53, ce_J9_min_7cf53.2.1, ce_J9_min_7cf53.1⟩
theorem ml_X14_199 : xx_ml RX14 199 yX14_addPackage := Or.inl (gc_WX14_8 _ (List.mem_of_getElem? (i := 5) rfl))
theorem ml_X14_206 : xx_ml RX14 206 yJ6_valueOf_2dffe := Or.inl (gc_WX14_8 _ (List.mem_of_getElem? (i := 8) rfl))
theorem ml_L_181 : xx_ml RL 181 yX14_offer := Or.inl (gc_WL_5 _ (List.mem_of_getElem? (i := 6) rfl))
theorem ml_X14_210 : xx_ml RX14 210 yX9_many := Or.inl (gc_WX14_8 _ (List.mem_of_getElem? (i := 12) rfl))
theorem ml_X9_16 : xx_ml RX9 16 yJx4a65c_size_8abf5 := Or.inl (gw_WX9 _ (List.mem_of_getElem? (i := 9) rfl))
theorem ml_X14_213 : xx_ml RX14 213 yJ9_min_7cf53 := Or.inl (gc_WX14_8 _ (List.mem_of_getElem? (i := 13) rfl))
theorem mm_X14_213 : xx_mmin RX14 213 := ⟨(gc_WX14_8 _ (List.mem_of_getElem? (i := 13) rfl)), st_J9_min_7cf53, ce_J9_min_7cf53.2.1, ce_J9_min_7cf53.1⟩
theorem ml_L_184 : xx_ml RL 184 yX14_settle := Or.inl (gc_WL_5 _ (List.mem_of_getElem? (i := 7) rfl))
theorem ml_X14_246 : xx_ml RX14 246 yX14_keep := Or.inl (gc_WX14_9 _ (List.mem_of_getElem? (i := 1) rfl))
theorem nw_X14_218 : Cond.classLink RX14 218 RX10 ∈ xx_gws ∧ Cond.instantiable RX10 7 ∈ xx_gws ∧ Cond.initialized RX10 ∈ xx_gws := ⟨(gc_WX14_9 _ (List.mem_of_getElem? (i := 4) rfl)), (gc_Z_3 _ (List.mem_of_getElem? (i := 9) rfl)), (gc_Z_1 _ (List.mem_of_getElem? (i := 10) rfl))⟩
theorem ml_X14_220 : xx_ml RX14 220 yX10_init := Or.inl (gc_WX14_9 _ (List.mem_of_getElem? (i := 5) rfl))
theorem oi_X10_9 : Cond.methodLink RX10 9 Lib.objectInit ∈ xx_gws ∧ Cond.instanceMethod Lib.objectInit ∈ xx_gws ∧ Cond.code Lib.objectInit ⟨#[0xb1]⟩ 1 none ∈ xx_gws := ⟨(gc_WX10_0 _ (List.mem_of_getElem? (i := 6) rfl)), oi_2, oi_3⟩
theorem ml_X10_39 : xx_ml RX10 39 yJx4a65c_size_8abf5 := Or.inl (gc_WX10_0 _ (List.mem_of_getElem? (i := 7) rfl))
theorem ml_X10_45 : xx_ml RX10 45 yJx4a65c_get_915e3 := Or.inl (gc_WX10_0 _ (List.mem_of_getElem? (i := 8) rfl))
theorem nw_X10_49 : Cond.classLink RX10 49 RX12 ∈ xx_gws ∧ Cond.instantiable RX12 4 ∈ xx_gws ∧ Cond.initialized RX12 ∈ xx_gws := ⟨(gc_WX10_0 _ (List.mem_of_getElem? (i := 9) rfl)), (gc_Z_3 _ (List.mem_of_getElem? (i := 3) rfl)), (gc_Z_0 _ (List.mem_of_getElem? (i := 14) rfl))⟩
theorem ml_X10_57 : xx_ml RX10 57 yX10_pick := Or.inl (gc_WX10_0 _ (List.mem_of_getElem? (i := 10) rfl))
theorem ml_X10_61 : xx_ml RX10 61 yJ9_max_7cf53 := Or.inl (gc_WX10_0 _ (List.mem_of_getElem? (i := 13) rfl))
theorem mm_X10_61 : xx_mmax RX10 61 := ⟨(gc_WX10_0 _ (List.mem_of_getElem? (i := 13) rfl)), st_J9_max_7cf53, ce_J9_max_7cf53.2.1, ce_J9_max_7cf53.1⟩
theorem ay_X10_70 : xx_ac RX10 70 := ⟨(gc_WX10_0 _ (List.mem_of_getElem? (i := 14) rfl)), ac_nat, ac_sta, ac_ini⟩
theorem nw_X10_76 : Cond.classLink RX10 76 RX9 ∈ xx_gws ∧ Cond.instantiable RX9 6 ∈ xx_gws ∧ Cond.initialized RX9 ∈ xx_gws := ⟨(gc_WX10_0 _ (List.mem_of_getElem? (i := 15) rfl)), (gc_Z_3 _ (List.mem_of_getElem? (i := 4) rfl)), (gc_Z_1 _ (List.mem_of_getElem? (i := 6) rfl))⟩
theorem ml_X10_78 : xx_ml RX10 78 yX9_many := Or.inl (gc_WX10_1 _ (List.mem_of_getElem? (i := 0) rfl))
theorem ml_X10_85 : xx_ml RX10 85 yX9_code := Or.inl (gc_WX10_1 _ (List.mem_of_getElem? (i := 1) rfl))
theorem ml_X9_20 : xx_ml RX9 20 yJx4a65c_get_915e3 := Or.inl (gw_WX9 _ (List.mem_of_getElem? (i := 13) rfl))
theorem nw_X9_24 : Cond.classLink RX9 24 RJ6 ∈ xx_gws ∧ Cond.instantiable RJ6 1 ∈ xx_gws ∧ Cond.initialized RJ6 ∈ xx_gws := ⟨(gw_WX9 _ (List.mem_of_getElem? (i := 14) rfl)), (gc_Z_3 _ (List.mem_of_getElem? (i := 8) rfl)), (gc_Z_1 _ (List.mem_of_getElem? (i := 2) rfl))⟩
theorem ml_X9_26 : xx_ml RX9 26 yJ6_intValue_8abf5 := Or.inl (gw_WX9 _ (List.mem_of_getElem? (i := 15) rfl))
theorem ml_X10_89 : xx_ml RX10 89 yX10_canTake := Or.inl (gc_WX10_1 _ (List.mem_of_getElem? (i := 2) rfl))
theorem ml_X10_93 : xx_ml RX10 93 yX10_take := Or.inl (gc_WX10_1 _ (List.mem_of_getElem? (i := 5) rfl))
theorem ml_X10_97 : xx_ml RX10 97 yX9_amount := Or.inl (gc_WX10_1 _ (List.mem_of_getElem? (i := 8) rfl))
theorem fl_X10_15 : xx_fl RX10 15 RX10 TX10 0 := ⟨Or.inl (gc_WX10_1 _ (List.mem_of_getElem? (i := 9) rfl)), rfl⟩
theorem fz_X10_15 : Cond.fieldLink RX10 15 RX10 (TX10 0).2.1 (TX10 0).2.2.1 ∈ xx_gws ∧ (TX10 0).1 = RX10 ∧ RX10 = RX10 := ⟨(gc_WX10_1 _ (List.mem_of_getElem? (i := 9) rfl)), rfl, rfl⟩
theorem fl_X14_221 : xx_fl RX14 221 RX10 TX10 0 := ⟨Or.inr ⟨"WavesaleModel", xx_nl_ok _ (List.mem_of_getElem? (i := 52) rfl)⟩, rfl⟩
theorem fl_X10_19 : xx_fl RX10 19 RX10 TX10 1 := ⟨Or.inl (gc_WX10_1 _ (List.mem_of_getElem? (i := 10) rfl)), rfl⟩
theorem fz_X10_19 : Cond.fieldLink RX10 19 RX10 (TX10 1).2.1 (TX10 1).2.2.1 ∈ xx_gws ∧ (TX10 1).1 = RX10 ∧ RX10 = RX10 := ⟨(gc_WX10_1 _ (List.mem_of_getElem? (i := 10) rfl)), rfl, rfl⟩
theorem fl_X10_22 : xx_fl RX10 22 RX10 TX10 2 := ⟨Or.inl (gc_WX10_1 _ (List.mem_of_getElem? (i := 11) rfl)), rfl⟩
theorem fz_X10_22 : Cond.fieldLink RX10 22 RX10 (TX10 2).2.1 (TX10 2).2.2.1 ∈ xx_gws ∧ (TX10 2).1 = RX10 ∧ RX10 = RX10 := ⟨(gc_WX10_1 _ (List.mem_of_getElem? (i := 11) rfl)), rfl, rfl⟩
theorem fl_X10_25 : xx_fl RX10 25 RX10 TX10 3 := ⟨Or.inl (gc_WX10_1 _ (List.mem_of_getElem? (i := 12) rfl)), rfl⟩
theorem fz_X10_25 : Cond.fieldLink RX10 25 RX10 (TX10 3).2.1 (TX10 3).2.2.1 ∈ xx_gws ∧ (TX10 3).1 = RX10 ∧ RX10 = RX10 := ⟨(gc_WX10_1 _ (List.mem_of_getElem? (i := 12) rfl)), rfl, rfl⟩
theorem fl_X10_28 : xx_fl RX10 28 RX10 TX10 4 := ⟨Or.inl (gc_WX10_1 _ (List.mem_of_getElem? (i := 13) rfl)), rfl⟩
theorem fz_X10_28 : Cond.fieldLink RX10 28 RX10 (TX10 4).2.1 (TX10 4).2.2.1 ∈ xx_gws ∧ (TX10 4).1 = RX10 ∧ RX10 = RX10 := ⟨(gc_WX10_1 _ (List.mem_of_getElem? (i := 13) rfl)), rfl, rfl⟩
theorem fl_X10_31 : xx_fl RX10 31 RX10 TX10 5 := ⟨Or.inl (gc_WX10_1 _ (List.mem_of_getElem? (i := 14) rfl)), rfl⟩
theorem fl_X10_3 : xx_fl RX10 3 RX10 TX10 6 := ⟨Or.inl (gc_WX10_1 _ (List.mem_of_getElem? (i := 15) rfl)), rfl⟩
theorem fz_X10_3 : Cond.fieldLink RX10 3 RX10 (TX10 6).2.1 (TX10 6).2.2.1 ∈ xx_gws ∧ (TX10 6).1 = RX10 ∧ RX10 = RX10 := ⟨(gc_WX10_1 _ (List.mem_of_getElem? (i := 15) rfl)), rfl, rfl⟩
theorem ay_X14_224 : xx_ac RX14 224 := ⟨(gc_WX14_9 _ (List.mem_of_getElem? (i := 6) rfl)), ac_nat, ac_sta, ac_ini⟩
theorem ml_X14_233 : xx_ml RX14 233 yX10_payments := Or.inl (gc_WX14_9 _ (List.mem_of_getElem? (i := 7) rfl))
theorem ml_X10_109 : xx_ml RX10 109 yX10_amount := Or.inl (gc_WX10_2 _ (List.mem_of_getElem? (i := 3) rfl))
theorem ml_X10_110 : xx_ml RX10 110 yX10_all := Or.inl (gc_WX10_2 _ (List.mem_of_getElem? (i := 7) rfl))
theorem ml_X10_106 : xx_ml RX10 106 yX10_worth := Or.inl (gc_WX10_2 _ (List.mem_of_getElem? (i := 11) rfl))
theorem ml_X10_113 : xx_ml RX10 113 yX10_objection := Or.inl (gc_WX10_2 _ (List.mem_of_getElem? (i := 15) rfl))
theorem ml_X10_117 : xx_ml RX10 117 yX10_raise := Or.inl (gc_WX10_3 _ (List.mem_of_getElem? (i := 3) rfl))
theorem ml_X14_236 : xx_ml RX14 236 yX14_clashes := Or.inl (gc_WX14_9 _ (List.mem_of_getElem? (i := 8) rfl))
theorem ml_X14_243 : xx_ml RX14 243 yX14_holds := Or.inl (gc_WX14_9 _ (List.mem_of_getElem? (i := 11) rfl))
theorem ml_X14_240 : xx_ml RX14 240 yX9_code := Or.inl (gc_WX14_9 _ (List.mem_of_getElem? (i := 14) rfl))
theorem ml_X14_249 : xx_ml RX14 249 yX14_winnersKept := Or.inl (gc_WX14_9 _ (List.mem_of_getElem? (i := 15) rfl))
theorem ml_L_187 : xx_ml RL 187 yX14_fail := Or.inl (gc_WL_5 _ (List.mem_of_getElem? (i := 8) rfl))
theorem ml_X14_252 : xx_ml RX14 252 yX9_amount := Or.inl (gc_WX14_10 _ (List.mem_of_getElem? (i := 5) rfl))
theorem ml_L_190 : xx_ml RL 190 yX14_station := Or.inl (gc_WL_5 _ (List.mem_of_getElem? (i := 9) rfl))
theorem ml_L_193 : xx_ml RL 193 yX14_ask := Or.inl (gc_WL_5 _ (List.mem_of_getElem? (i := 10) rfl))
theorem ml_X14_261 : xx_ml RX14 261 yJx4a65c_set_bcc79 := Or.inl (gc_WX14_10 _ (List.mem_of_getElem? (i := 12) rfl))
theorem nw_X14_113 : Cond.classLink RX14 113 RJ6 ∈ xx_gws ∧ Cond.instantiable RJ6 1 ∈ xx_gws ∧ Cond.initialized RJ6 ∈ xx_gws := ⟨(gc_WX14_10 _ (List.mem_of_getElem? (i := 13) rfl)), (gc_Z_3 _ (List.mem_of_getElem? (i := 8) rfl)), (gc_Z_1 _ (List.mem_of_getElem? (i := 2) rfl))⟩
theorem ml_X14_265 : xx_ml RX14 265 yJ6_intValue_8abf5 := Or.inl (gc_WX14_10 _ (List.mem_of_getElem? (i := 14) rfl))
theorem ml_L_196 : xx_ml RL 196 yX14_packs := Or.inl (gc_WL_5 _ (List.mem_of_getElem? (i := 11) rfl))
theorem ml_X14_279 : xx_ml RX14 279 yX14_areStations := Or.inl (gc_WX14_11 _ (List.mem_of_getElem? (i := 2) rfl))
theorem ml_X14_272 : xx_ml RX14 272 yX14_canPack := Or.inl (gc_WX14_11 _ (List.mem_of_getElem? (i := 5) rfl))
theorem ml_X14_268 : xx_ml RX14 268 yX14_isFree := Or.inl (gc_WX14_11 _ (List.mem_of_getElem? (i := 8) rfl))
theorem ml_X14_276 : xx_ml RX14 276 yX14_areDisturbing := Or.inl (gc_WX14_11 _ (List.mem_of_getElem? (i := 11) rfl))
theorem ml_L_199 : xx_ml RL 199 yX14_channel := Or.inl (gc_WL_5 _ (List.mem_of_getElem? (i := 12) rfl))
theorem ml_X14_282 : xx_ml RX14 282 yX14_isFits := Or.inl (gc_WX14_12 _ (List.mem_of_getElem? (i := 1) rfl))
theorem ml_L_202 : xx_ml RL 202 yX14_clear := Or.inl (gc_WL_5 _ (List.mem_of_getElem? (i := 13) rfl))
theorem ml_X14_287 : xx_ml RX14 287 yX14_clearNow := Or.inl (gc_WX14_12 _ (List.mem_of_getElem? (i := 7) rfl))
theorem ct_X14_286 : Cond.constant RX14 286 (2147483647 : Int32) ∈ xx_gws := (gc_WX14_12 _ (List.mem_of_getElem? (i := 10) rfl))
theorem ml_L_205 : xx_ml RL 205 yX14_ofRegion := Or.inl (gc_WL_5 _ (List.mem_of_getElem? (i := 14) rfl))
theorem ml_X14_299 : xx_ml RX14 299 yX14_ofRegionNow := Or.inl (gc_WX14_12 _ (List.mem_of_getElem? (i := 14) rfl))
theorem ml_X14_290 : xx_ml RX14 290 yX11_heldIn := Or.inl (gc_WX14_13 _ (List.mem_of_getElem? (i := 1) rfl))
theorem ml_X14_293 : xx_ml RX14 293 yX11_wishedIn := Or.inl (gc_WX14_13 _ (List.mem_of_getElem? (i := 2) rfl))
theorem ml_X14_296 : xx_ml RX14 296 yX14_stationsIn := Or.inl (gc_WX14_13 _ (List.mem_of_getElem? (i := 3) rfl))
theorem ml_L_208 : xx_ml RL 208 yX14_ofBidder := Or.inl (gc_WL_5 _ (List.mem_of_getElem? (i := 15) rfl))
theorem ml_X14_311 : xx_ml RX14 311 yX14_ofBidderNow := Or.inl (gc_WX14_13 _ (List.mem_of_getElem? (i := 9) rfl))
theorem ml_X14_302 : xx_ml RX14 302 yX14_heldCode := Or.inl (gc_WX14_13 _ (List.mem_of_getElem? (i := 12) rfl))
theorem ml_X14_305 : xx_ml RX14 305 yX14_wishedCode := Or.inl (gc_WX14_13 _ (List.mem_of_getElem? (i := 15) rfl))
theorem ml_L_212 : xx_ml RL 212 yX14_wants := Or.inl (gc_WL_6 _ (List.mem_of_getElem? (i := 0) rfl))
theorem ml_L_215 : xx_ml RL 215 yX14_priceIn := Or.inl (gc_WL_6 _ (List.mem_of_getElem? (i := 1) rfl))
theorem ml_X14_314 : xx_ml RX14 314 yX14_isRound := Or.inl (gc_WX14_14 _ (List.mem_of_getElem? (i := 8) rfl))
theorem ml_L_218 : xx_ml RL 218 yX14_codeIn := Or.inl (gc_WL_6 _ (List.mem_of_getElem? (i := 2) rfl))
theorem ml_L_221 : xx_ml RL 221 yX14_ofPackage := Or.inl (gc_WL_6 _ (List.mem_of_getElem? (i := 3) rfl))
theorem ml_L_224 : xx_ml RL 224 yX14_wins := Or.inl (gc_WL_6 _ (List.mem_of_getElem? (i := 4) rfl))
theorem ml_X14_317 : xx_ml RX14 317 yX14_winsNow := Or.inl (gc_WX14_15 _ (List.mem_of_getElem? (i := 4) rfl))
theorem ml_L_227 : xx_ml RL 227 yX14_pays := Or.inl (gc_WL_6 _ (List.mem_of_getElem? (i := 5) rfl))
theorem ml_X14_323 : xx_ml RX14 323 yX14_due := Or.inl (gc_WX14_15 _ (List.mem_of_getElem? (i := 10) rfl))
theorem ct_X14_321 : Cond.constantLong RX14 321 (100 : Int64) ∈ xx_gws := (gc_WX14_15 _ (List.mem_of_getElem? (i := 13) rfl))
theorem ml_X14_326 : xx_ml RX14 326 yX14_paid := Or.inl (gc_WX14_15 _ (List.mem_of_getElem? (i := 14) rfl))
theorem ml_L_230 : xx_ml RL 230 yX14_holder := Or.inl (gc_WL_6 _ (List.mem_of_getElem? (i := 6) rfl))
theorem ml_X14_329 : xx_ml RX14 329 yX14_holderNow := Or.inl (gc_WX14_16 _ (List.mem_of_getElem? (i := 4) rfl))
theorem ml_L_233 : xx_ml RL 233 yX14_chart := Or.inl (gc_WL_6 _ (List.mem_of_getElem? (i := 7) rfl))
theorem ml_X14_352 : xx_ml RX14 352 yX14_chartNow := Or.inl (gc_WX14_16 _ (List.mem_of_getElem? (i := 10) rfl))
theorem nw_X14_332 : Cond.classLink RX14 332 RJ4 ∈ xx_gws ∧ Cond.instantiable RJ4 4 ∈ xx_gws ∧ Cond.initialized RJ4 ∈ xx_gws := ⟨(gc_WX14_16 _ (List.mem_of_getElem? (i := 13) rfl)), (gc_Z_2 _ (List.mem_of_getElem? (i := 14) rfl)), (gc_Z_1 _ (List.mem_of_getElem? (i := 12) rfl))⟩
theorem ml_X14_334 : xx_ml RX14 334 yJ4_init_da8c8 := Or.inl (gc_WX14_16 _ (List.mem_of_getElem? (i := 14) rfl))
theorem ml_X14_339 : xx_ml RX14 339 yJ4_append_15ec4 := Or.inl (gc_WX14_16 _ (List.mem_of_getElem? (i := 15) rfl))
theorem ml_X14_345 : xx_ml RX14 345 yJ4_append_bf812 := Or.inl (gc_WX14_17 _ (List.mem_of_getElem? (i := 0) rfl))
theorem ml_X14_348 : xx_ml RX14 348 yJ4_toString_0e30d := Or.inl (gc_WX14_17 _ (List.mem_of_getElem? (i := 1) rfl))
theorem ml_L_242 : xx_ml RL 242 yX14_sale := Or.inl (gc_WL_6 _ (List.mem_of_getElem? (i := 8) rfl))
theorem ml_X14_374 : xx_ml RX14 374 yX14_saleNow := Or.inl (gc_WX14_17 _ (List.mem_of_getElem? (i := 5) rfl))
theorem ml_X14_359 : xx_ml RX14 359 yX10_winners := Or.inl (gc_WX14_17 _ (List.mem_of_getElem? (i := 8) rfl))
theorem ml_X14_362 : xx_ml RX14 362 yX10_all := Or.inl (gc_WX14_17 _ (List.mem_of_getElem? (i := 9) rfl))
theorem ml_X14_365 : xx_ml RX14 365 yX10_worth := Or.inl (gc_WX14_17 _ (List.mem_of_getElem? (i := 10) rfl))
theorem ml_X14_368 : xx_ml RX14 368 yX14_signals := Or.inl (gc_WX14_17 _ (List.mem_of_getElem? (i := 11) rfl))
theorem ml_X14_356 : xx_ml RX14 356 yX14_isSignal := Or.inl (gc_WX14_17 _ (List.mem_of_getElem? (i := 14) rfl))
theorem ml_L_245 : xx_ml RL 245 yX14_worth := Or.inl (gc_WL_6 _ (List.mem_of_getElem? (i := 9) rfl))
theorem ml_X14_377 : xx_ml RX14 377 yX14_areBidders := Or.inl (gc_WX14_18 _ (List.mem_of_getElem? (i := 4) rfl))
theorem ml_L_248 : xx_ml RL 248 yX14_wouldPay := Or.inl (gc_WL_6 _ (List.mem_of_getElem? (i := 10) rfl))
theorem ml_L_251 : xx_ml RL 251 yX14_objects := Or.inl (gc_WL_6 _ (List.mem_of_getElem? (i := 11) rfl))
theorem ml_X14_380 : xx_ml RX14 380 yX10_objection := Or.inl (gc_WX14_18 _ (List.mem_of_getElem? (i := 13) rfl))
theorem ml_X14_384 : xx_ml RX14 384 yJ9_max_7cf53 := Or.inl (gc_WX14_18 _ (List.mem_of_getElem? (i := 14) rfl))
theorem mm_X14_384 : xx_mmax RX14 384 := ⟨(gc_WX14_18 _ (List.mem_of_getElem? (i := 14) rfl)), st_J9_max_7cf53, ce_J9_max_7cf53.2.1, ce_J9_max_7cf53.1⟩
theorem ml_L_254 : xx_ml RL 254 yX14_most := Or.inl (gc_WL_6 _ (List.mem_of_getElem? (i := 12) rfl))
theorem ml_L_257 : xx_ml RL 257 yX14_contradicts := Or.inl (gc_WL_6 _ (List.mem_of_getElem? (i := 13) rfl))
theorem ml_X14_387 : xx_ml RX14 387 yX11_contradicts := Or.inl (gc_WX14_19 _ (List.mem_of_getElem? (i := 5) rfl))
theorem ml_L_260 : xx_ml RL 260 yX14_anew := Or.inl (gc_WL_6 _ (List.mem_of_getElem? (i := 14) rfl))
theorem ml_X14_390 : xx_ml RX14 390 yX14_runAnew := Or.inl (gc_WX14_19 _ (List.mem_of_getElem? (i := 9) rfl))
theorem ml_L_264 : xx_ml RL 264 yX14_knock := Or.inl (gc_WL_6 _ (List.mem_of_getElem? (i := 15) rfl))
theorem ml_L_269 : xx_ml RL 269 yX14_isSound := Or.inl (gc_WL_7 _ (List.mem_of_getElem? (i := 0) rfl))
theorem ml_X14_404 : xx_ml RX14 404 yX14_isSoundNow := Or.inl (gc_WX14_20 _ (List.mem_of_getElem? (i := 2) rfl))
theorem ml_X14_394 : xx_ml RX14 394 yX14_areNamed := Or.inl (gc_WX14_20 _ (List.mem_of_getElem? (i := 5) rfl))
theorem ml_X14_400 : xx_ml RX14 400 yX14_codes := Or.inl (gc_WX14_20 _ (List.mem_of_getElem? (i := 8) rfl))
theorem ml_X14_397 : xx_ml RX14 397 yX14_isLogged := Or.inl (gc_WX14_20 _ (List.mem_of_getElem? (i := 9) rfl))
theorem ml_L_274 : xx_ml RL 274 yX14_digest := Or.inl (gc_WL_7 _ (List.mem_of_getElem? (i := 1) rfl))
theorem ct_X14_413 : Cond.constantLong RX14 413 (58282 : Int64) ∈ xx_gws := (gc_WX14_20 _ (List.mem_of_getElem? (i := 15) rfl))
theorem ml_X14_415 : xx_ml RX14 415 yX14_add := Or.inl (gc_WX14_21 _ (List.mem_of_getElem? (i := 0) rfl))
theorem ct_X14_411 : Cond.constantLong RX14 411 (31 : Int64) ∈ xx_gws := (gc_WX14_21 _ (List.mem_of_getElem? (i := 3) rfl))
theorem ml_X14_418 : xx_ml RX14 418 yJ0_length_8abf5 := Or.inl (gc_WX14_21 _ (List.mem_of_getElem? (i := 4) rfl))
theorem ml_L_234 : xx_ml RL 234 yJ0_equals_9ea2d := Or.inl (gc_WL_7 _ (List.mem_of_getElem? (i := 2) rfl))
