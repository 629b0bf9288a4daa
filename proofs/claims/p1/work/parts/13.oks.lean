theorem kX0_init : pv_okM pv_prog mX0_init = true := by decide +kernel
theorem kX0_carries : pv_okM pv_prog mX0_carries = true := by decide +kernel
theorem kX0_factOf : pv_okM pv_prog mX0_factOf = true := by decide +kernel
theorem kX1_init : pv_okM pv_prog mX1_init = true := by decide +kernel
theorem kX1_growth : pv_okM pv_prog mX1_growth = true := by decide +kernel
theorem kX1_oddsOfFall : pv_okM pv_prog mX1_oddsOfFall = true := by decide +kernel
theorem kX1_ageing : pv_okM pv_prog mX1_ageing = true := by decide +kernel
theorem kX1_catchingLevel : pv_okM pv_prog mX1_catchingLevel = true := by decide +kernel
theorem kX1_ownerOf : pv_okM pv_prog mX1_ownerOf = true := by decide +kernel
theorem kX1_pointsOf : pv_okM pv_prog mX1_pointsOf = true := by decide +kernel
theorem kX1_seeCell : pv_okM pv_prog mX1_seeCell = true := by decide +kernel
theorem kX1_seeCellAndCrop : pv_okM pv_prog mX1_seeCellAndCrop = true := by decide +kernel
theorem kX1_seeFallen : pv_okM pv_prog mX1_seeFallen = true := by decide +kernel
theorem kX1_seeFallFromItsCell : pv_okM pv_prog mX1_seeFallFromItsCell = true := by decide +kernel
theorem kX2_init : pv_okM pv_prog mX2_init = true := by decide +kernel
theorem kX2_open : pv_okM pv_prog mX2_open = true := by decide +kernel
theorem kX2_close : pv_okM pv_prog mX2_close = true := by decide +kernel
theorem kX2_isWritten : pv_okM pv_prog mX2_isWritten = true := by decide +kernel
theorem kX2_factOf : pv_okM pv_prog mX2_factOf = true := by decide +kernel
theorem kX3_init : pv_okM pv_prog mX3_init = true := by decide +kernel
theorem kX3_endOfColumn : pv_okM pv_prog mX3_endOfColumn = true := by decide +kernel
theorem kX3_hangs : pv_okM pv_prog mX3_hangs = true := by decide +kernel
theorem kX3_hasCrop : pv_okM pv_prog mX3_hasCrop = true := by decide +kernel
theorem kX3_isRipe : pv_okM pv_prog mX3_isRipe = true := by decide +kernel
theorem kX3_needOf : pv_okM pv_prog mX3_needOf = true := by decide +kernel
theorem kX3_setCrop : pv_okM pv_prog mX3_setCrop = true := by decide +kernel
theorem kX3_clearCrop : pv_okM pv_prog mX3_clearCrop = true := by decide +kernel
theorem kX3_crops : pv_okM pv_prog mX3_crops = true := by decide +kernel
theorem kX3_factOf : pv_okM pv_prog mX3_factOf = true := by decide +kernel
theorem kX3_loadOf : pv_okM pv_prog mX3_loadOf = true := by decide +kernel
theorem kX3_ripeLoadOf : pv_okM pv_prog mX3_ripeLoadOf = true := by decide +kernel
theorem kX3_firstOverloaded : pv_okM pv_prog mX3_firstOverloaded = true := by decide +kernel
theorem kX3_unhang : pv_okM pv_prog mX3_unhang = true := by decide +kernel
theorem kX3_loosen : pv_okM pv_prog mX3_loosen = true := by decide +kernel
theorem kX3_wouldGo : pv_okM pv_prog mX3_wouldGo = true := by decide +kernel
theorem kX3_columnsOf : pv_okM pv_prog mX3_columnsOf = true := by decide +kernel
theorem kX3_highestFall : pv_okM pv_prog mX3_highestFall = true := by decide +kernel
theorem kX4_init : pv_okM pv_prog mX4_init = true := by decide +kernel
theorem kX4_choose : pv_okM pv_prog mX4_choose = true := by decide +kernel
theorem kX4_tryCell : pv_okM pv_prog mX4_tryCell = true := by decide +kernel
theorem kX4_fits : pv_okM pv_prog mX4_fits = true := by decide +kernel
theorem kX4_burden : pv_okM pv_prog mX4_burden = true := by decide +kernel
theorem kX4_carryOut : pv_okM pv_prog mX4_carryOut = true := by decide +kernel
theorem kX4_kindAt : pv_okM pv_prog mX4_kindAt = true := by decide +kernel
theorem kX5_init : pv_okM pv_prog mX5_init = true := by decide +kernel
theorem kX5_read : pv_okM pv_prog mX5_read = true := by decide +kernel
theorem kX5_look : pv_okM pv_prog mX5_look = true := by decide +kernel
theorem kX5_fail : pv_okM pv_prog mX5_fail = true := by decide +kernel
theorem kX5_expect : pv_okM pv_prog mX5_expect = true := by decide +kernel
theorem kX5_enter : pv_okM pv_prog mX5_enter = true := by decide +kernel
theorem kX5_isOneOf : pv_okM pv_prog mX5_isOneOf = true := by decide +kernel
theorem kX5_readClause : pv_okM pv_prog mX5_readClause = true := by decide +kernel
theorem kX5_readCondition : pv_okM pv_prog mX5_readCondition = true := by decide +kernel
theorem kX5_readPart : pv_okM pv_prog mX5_readPart = true := by decide +kernel
theorem kX5_readJump : pv_okM pv_prog mX5_readJump = true := by decide +kernel
theorem kX5_readPiece : pv_okM pv_prog mX5_readPiece = true := by decide +kernel
theorem kX5_readComparison : pv_okM pv_prog mX5_readComparison = true := by decide +kernel
theorem kX5_readSum : pv_okM pv_prog mX5_readSum = true := by decide +kernel
theorem kX5_readTerm : pv_okM pv_prog mX5_readTerm = true := by decide +kernel
theorem kX5_readFactor : pv_okM pv_prog mX5_readFactor = true := by decide +kernel
theorem kX5_isDigit : pv_okM pv_prog mX5_isDigit = true := by decide +kernel
theorem kX5_readNumber : pv_okM pv_prog mX5_readNumber = true := by decide +kernel
theorem kX6_init : pv_okM pv_prog mX6_init = true := by decide +kernel
theorem kX6_tell : pv_okM pv_prog mX6_tell = true := by decide +kernel
theorem kX6_asWork : pv_okM pv_prog mX6_asWork = true := by decide +kernel
theorem kX6_hoursBetween : pv_okM pv_prog mX6_hoursBetween = true := by decide +kernel
theorem kX6_asMending : pv_okM pv_prog mX6_asMending = true := by decide +kernel
theorem kX6_solve : pv_okM pv_prog mX6_solve = true := by decide +kernel
theorem kX6_spentOn : pv_okM pv_prog mX6_spentOn = true := by decide +kernel
theorem kX6_leastOnward : pv_okM pv_prog mX6_leastOnward = true := by decide +kernel
theorem kX6_costVia : pv_okM pv_prog mX6_costVia = true := by decide +kernel
theorem kX6_findRow : pv_okM pv_prog mX6_findRow = true := by decide +kernel
theorem kX6_least : pv_okM pv_prog mX6_least = true := by decide +kernel
theorem kX6_cellAt : pv_okM pv_prog mX6_cellAt = true := by decide +kernel
theorem kX7_init : pv_okM pv_prog mX7_init = true := by decide +kernel
theorem kX7_put : pv_okM pv_prog mX7_put = true := by decide +kernel
theorem kX7_answer : pv_okM pv_prog mX7_answer = true := by decide +kernel
theorem kX7_reckon : pv_okM pv_prog mX7_reckon = true := by decide +kernel
theorem kX7_joined : pv_okM pv_prog mX7_joined = true := by decide +kernel
theorem kX8_init : pv_okM pv_prog mX8_init = true := by decide +kernel
theorem kX8_fly : pv_okM pv_prog mX8_fly = true := by decide +kernel
theorem kX8_arrive : pv_okM pv_prog mX8_arrive = true := by decide +kernel
theorem kX8_cancel : pv_okM pv_prog mX8_cancel = true := by decide +kernel
theorem kX9_init : pv_okM pv_prog mX9_init = true := by decide +kernel
theorem kX9_append : pv_okM pv_prog mX9_append = true := by decide +kernel
theorem kX9_numberAt : pv_okM pv_prog mX9_numberAt = true := by decide +kernel
theorem kX10_init : pv_okM pv_prog mX10_init = true := by decide +kernel
theorem kX10_pour : pv_okM pv_prog mX10_pour = true := by decide +kernel
theorem kX10_passOn : pv_okM pv_prog mX10_passOn = true := by decide +kernel
theorem kX10_share : pv_okM pv_prog mX10_share = true := by decide +kernel
theorem kX10_reckonGrowth : pv_okM pv_prog mX10_reckonGrowth = true := by decide +kernel
theorem kX10_tryValve : pv_okM pv_prog mX10_tryValve = true := by decide +kernel
theorem kX10_weighTrial : pv_okM pv_prog mX10_weighTrial = true := by decide +kernel
theorem kX10_dropsAt : pv_okM pv_prog mX10_dropsAt = true := by decide +kernel
theorem kX11_init : pv_okM pv_prog mX11_init = true := by decide +kernel
theorem kX11_hang : pv_okM pv_prog mX11_hang = true := by decide +kernel
theorem kX11_knot : pv_okM pv_prog mX11_knot = true := by decide +kernel
theorem kX11_kind : pv_okM pv_prog mX11_kind = true := by decide +kernel
theorem kX11_plant : pv_okM pv_prog mX11_plant = true := by decide +kernel
theorem kX11_valve : pv_okM pv_prog mX11_valve = true := by decide +kernel
theorem kX11_kitchen : pv_okM pv_prog mX11_kitchen = true := by decide +kernel
theorem kX11_rope : pv_okM pv_prog mX11_rope = true := by decide +kernel
theorem kX11_seed : pv_okM pv_prog mX11_seed = true := by decide +kernel
theorem kX11_feed : pv_okM pv_prog mX11_feed = true := by decide +kernel
theorem kX11_law : pv_okM pv_prog mX11_law = true := by decide +kernel
theorem kX11_cell : pv_okM pv_prog mX11_cell = true := by decide +kernel
theorem kX11_byLaw : pv_okM pv_prog mX11_byLaw = true := by decide +kernel
theorem kX11_water : pv_okM pv_prog mX11_water = true := by decide +kernel
theorem kX11_fall : pv_okM pv_prog mX11_fall = true := by decide +kernel
theorem kX11_go : pv_okM pv_prog mX11_go = true := by decide +kernel
theorem kX11_day : pv_okM pv_prog mX11_day = true := by decide +kernel
theorem kX11_torn : pv_okM pv_prog mX11_torn = true := by decide +kernel
theorem kX11_fallIs : pv_okM pv_prog mX11_fallIs = true := by decide +kernel
theorem kX11_claimed : pv_okM pv_prog mX11_claimed = true := by decide +kernel
theorem kX11_right : pv_okM pv_prog mX11_right = true := by decide +kernel
theorem kX11_food : pv_okM pv_prog mX11_food = true := by decide +kernel
theorem kX11_kitchenIs : pv_okM pv_prog mX11_kitchenIs = true := by decide +kernel
theorem kX11_mayWork : pv_okM pv_prog mX11_mayWork = true := by decide +kernel
theorem kX11_work : pv_okM pv_prog mX11_work = true := by decide +kernel
theorem kX11_pollen : pv_okM pv_prog mX11_pollen = true := by decide +kernel
theorem kX11_pollinate : pv_okM pv_prog mX11_pollinate = true := by decide +kernel
theorem kX11_planted : pv_okM pv_prog mX11_planted = true := by decide +kernel
theorem kX11_drought : pv_okM pv_prog mX11_drought = true := by decide +kernel
theorem kX11_mended : pv_okM pv_prog mX11_mended = true := by decide +kernel
theorem kX11_hail : pv_okM pv_prog mX11_hail = true := by decide +kernel
theorem kX11_check : pv_okM pv_prog mX11_check = true := by decide +kernel
theorem kX11_count : pv_okM pv_prog mX11_count = true := by decide +kernel
theorem kX11_countOfRow : pv_okM pv_prog mX11_countOfRow = true := by decide +kernel
theorem kX11_letWaterFlow : pv_okM pv_prog mX11_letWaterFlow = true := by decide +kernel
theorem kX11_letCropsGrow : pv_okM pv_prog mX11_letCropsGrow = true := by decide +kernel
theorem kX11_letCropsFall : pv_okM pv_prog mX11_letCropsFall = true := by decide +kernel
theorem kX11_letKnotsAge : pv_okM pv_prog mX11_letKnotsAge = true := by decide +kernel
theorem kX11_letKnotsGo : pv_okM pv_prog mX11_letKnotsGo = true := by decide +kernel
theorem kX11_tearDown : pv_okM pv_prog mX11_tearDown = true := by decide +kernel
theorem kX11_dropCrop : pv_okM pv_prog mX11_dropCrop = true := by decide +kernel
theorem kX11_landInKitchen : pv_okM pv_prog mX11_landInKitchen = true := by decide +kernel
theorem kX11_claimantOf : pv_okM pv_prog mX11_claimantOf = true := by decide +kernel
theorem kX11_hungCell : pv_okM pv_prog mX11_hungCell = true := by decide +kernel
theorem kX11_within : pv_okM pv_prog mX11_within = true := by decide +kernel
theorem kX11_isColumn : pv_okM pv_prog mX11_isColumn = true := by decide +kernel
theorem kX11_isPerson : pv_okM pv_prog mX11_isPerson = true := by decide +kernel
theorem kX11_isCell : pv_okM pv_prog mX11_isCell = true := by decide +kernel
theorem kX11_isTold : pv_okM pv_prog mX11_isTold = true := by decide +kernel
theorem kX11_toldCells : pv_okM pv_prog mX11_toldCells = true := by decide +kernel
theorem kX12_init : pv_okM pv_prog mX12_init = true := by decide +kernel
theorem kX12_in : pv_okM pv_prog mX12_in = true := by decide +kernel
theorem kX12_less : pv_okM pv_prog mX12_less = true := by decide +kernel
theorem kX12_more : pv_okM pv_prog mX12_more = true := by decide +kernel
theorem kX12_isCell : pv_okM pv_prog mX12_isCell = true := by decide +kernel
theorem kX12_at : pv_okM pv_prog mX12_at = true := by decide +kernel
theorem kX12_isHung : pv_okM pv_prog mX12_isHung = true := by decide +kernel
theorem kX12_hang : pv_okM pv_prog mX12_hang = true := by decide +kernel
theorem kX12_empties : pv_okM pv_prog mX12_empties = true := by decide +kernel
theorem kX12_knot : pv_okM pv_prog mX12_knot = true := by decide +kernel
theorem kX12_kind : pv_okM pv_prog mX12_kind = true := by decide +kernel
theorem kX12_plant : pv_okM pv_prog mX12_plant = true := by decide +kernel
theorem kX12_valve : pv_okM pv_prog mX12_valve = true := by decide +kernel
theorem kX12_kitchen : pv_okM pv_prog mX12_kitchen = true := by decide +kernel
theorem kX12_rope : pv_okM pv_prog mX12_rope = true := by decide +kernel
theorem kX12_seed : pv_okM pv_prog mX12_seed = true := by decide +kernel
theorem kX12_types : pv_okM pv_prog mX12_types = true := by decide +kernel
theorem kX12_feed : pv_okM pv_prog mX12_feed = true := by decide +kernel
theorem kX12_here : pv_okM pv_prog mX12_here = true := by decide +kernel
theorem kX12_isDigit : pv_okM pv_prog mX12_isDigit = true := by decide +kernel
theorem kX12_wrongAt : pv_okM pv_prog mX12_wrongAt = true := by decide +kernel
theorem kX12_takes : pv_okM pv_prog mX12_takes = true := by decide +kernel
theorem kX12_readsNumber : pv_okM pv_prog mX12_readsNumber = true := by decide +kernel
theorem kX12_notes : pv_okM pv_prog mX12_notes = true := by decide +kernel
theorem kX12_opens : pv_okM pv_prog mX12_opens = true := by decide +kernel
theorem kX12_top : pv_okM pv_prog mX12_top = true := by decide +kernel
theorem kX12_factOf : pv_okM pv_prog mX12_factOf = true := by decide +kernel
theorem kX12_sumSign : pv_okM pv_prog mX12_sumSign = true := by decide +kernel
theorem kX12_closesSums : pv_okM pv_prog mX12_closesSums = true := by decide +kernel
theorem kX12_readsFactor : pv_okM pv_prog mX12_readsFactor = true := by decide +kernel
theorem kX12_hasOpenSum : pv_okM pv_prog mX12_hasOpenSum = true := by decide +kernel
theorem kX12_readsSum : pv_okM pv_prog mX12_readsSum = true := by decide +kernel
theorem kX12_endsPiece : pv_okM pv_prog mX12_endsPiece = true := by decide +kernel
theorem kX12_lands : pv_okM pv_prog mX12_lands = true := by decide +kernel
theorem kX12_jumps : pv_okM pv_prog mX12_jumps = true := by decide +kernel
theorem kX12_readsCompared : pv_okM pv_prog mX12_readsCompared = true := by decide +kernel
theorem kX12_readsCondition : pv_okM pv_prog mX12_readsCondition = true := by decide +kernel
theorem kX12_canBegin : pv_okM pv_prog mX12_canBegin = true := by decide +kernel
theorem kX12_readsClause : pv_okM pv_prog mX12_readsClause = true := by decide +kernel
theorem kX12_law : pv_okM pv_prog mX12_law = true := by decide +kernel
theorem kX12_reckon : pv_okM pv_prog mX12_reckon = true := by decide +kernel
theorem kX12_comesTo : pv_okM pv_prog mX12_comesTo = true := by decide +kernel
theorem kX12_told : pv_okM pv_prog mX12_told = true := by decide +kernel
theorem kX12_feelsCell : pv_okM pv_prog mX12_feelsCell = true := by decide +kernel
theorem kX12_feelsCrop : pv_okM pv_prog mX12_feelsCrop = true := by decide +kernel
theorem kX12_isRipe : pv_okM pv_prog mX12_isRipe = true := by decide +kernel
theorem kX12_feels : pv_okM pv_prog mX12_feels = true := by decide +kernel
theorem kX12_asked : pv_okM pv_prog mX12_asked = true := by decide +kernel
theorem kX12_byLaw : pv_okM pv_prog mX12_byLaw = true := by decide +kernel
theorem kX12_sends : pv_okM pv_prog mX12_sends = true := by decide +kernel
theorem kX12_drips : pv_okM pv_prog mX12_drips = true := by decide +kernel
theorem kX12_flows : pv_okM pv_prog mX12_flows = true := by decide +kernel
theorem kX12_water : pv_okM pv_prog mX12_water = true := by decide +kernel
theorem kX12_ownLoad : pv_okM pv_prog mX12_ownLoad = true := by decide +kernel
theorem kX12_loadOf : pv_okM pv_prog mX12_loadOf = true := by decide +kernel
theorem kX12_cell : pv_okM pv_prog mX12_cell = true := by decide +kernel
theorem kX12_catcher : pv_okM pv_prog mX12_catcher = true := by decide +kernel
theorem kX12_writes : pv_okM pv_prog mX12_writes = true := by decide +kernel
theorem kX12_falls : pv_okM pv_prog mX12_falls = true := by decide +kernel
theorem kX12_fall : pv_okM pv_prog mX12_fall = true := by decide +kernel
theorem kX12_firstGoing : pv_okM pv_prog mX12_firstGoing = true := by decide +kernel
theorem kX12_tears : pv_okM pv_prog mX12_tears = true := by decide +kernel
theorem kX12_goesOff : pv_okM pv_prog mX12_goesOff = true := by decide +kernel
theorem kX12_go : pv_okM pv_prog mX12_go = true := by decide +kernel
theorem kX12_torn : pv_okM pv_prog mX12_torn = true := by decide +kernel
theorem kX12_day : pv_okM pv_prog mX12_day = true := by decide +kernel
theorem kX12_isFall : pv_okM pv_prog mX12_isFall = true := by decide +kernel
theorem kX12_fallIs : pv_okM pv_prog mX12_fallIs = true := by decide +kernel
theorem kX12_claimer : pv_okM pv_prog mX12_claimer = true := by decide +kernel
theorem kX12_claimed : pv_okM pv_prog mX12_claimed = true := by decide +kernel
theorem kX12_right : pv_okM pv_prog mX12_right = true := by decide +kernel
theorem kX12_food : pv_okM pv_prog mX12_food = true := by decide +kernel
theorem kX12_kitchenIs : pv_okM pv_prog mX12_kitchenIs = true := by decide +kernel
theorem kX12_lays : pv_okM pv_prog mX12_lays = true := by decide +kernel
theorem kX12_mayBe : pv_okM pv_prog mX12_mayBe = true := by decide +kernel
theorem kX12_mayWork : pv_okM pv_prog mX12_mayWork = true := by decide +kernel
theorem kX12_apart : pv_okM pv_prog mX12_apart = true := by decide +kernel
theorem kX12_way : pv_okM pv_prog mX12_way = true := by decide +kernel
theorem kX12_laysHours : pv_okM pv_prog mX12_laysHours = true := by decide +kernel
theorem kX12_work : pv_okM pv_prog mX12_work = true := by decide +kernel
theorem kX12_hasKind : pv_okM pv_prog mX12_hasKind = true := by decide +kernel
theorem kX12_takesUp : pv_okM pv_prog mX12_takesUp = true := by decide +kernel
theorem kX12_moved : pv_okM pv_prog mX12_moved = true := by decide +kernel
theorem kX12_flies : pv_okM pv_prog mX12_flies = true := by decide +kernel
theorem kX12_gcd : pv_okM pv_prog mX12_gcd = true := by decide +kernel
theorem kX12_pollen : pv_okM pv_prog mX12_pollen = true := by decide +kernel
theorem kX12_pollinate : pv_okM pv_prog mX12_pollinate = true := by decide +kernel
theorem kX12_bearsAll : pv_okM pv_prog mX12_bearsAll = true := by decide +kernel
theorem kX12_areWhole : pv_okM pv_prog mX12_areWhole = true := by decide +kernel
theorem kX12_planted : pv_okM pv_prog mX12_planted = true := by decide +kernel
theorem kX12_growth : pv_okM pv_prog mX12_growth = true := by decide +kernel
theorem kX12_drought : pv_okM pv_prog mX12_drought = true := by decide +kernel
theorem kX12_bits : pv_okM pv_prog mX12_bits = true := by decide +kernel
theorem kX12_takesOf : pv_okM pv_prog mX12_takesOf = true := by decide +kernel
theorem kX12_hoursOf : pv_okM pv_prog mX12_hoursOf = true := by decide +kernel
theorem kX12_canBeNext : pv_okM pv_prog mX12_canBeNext = true := by decide +kernel
theorem kX12_costBy : pv_okM pv_prog mX12_costBy = true := by decide +kernel
theorem kX12_mended : pv_okM pv_prog mX12_mended = true := by decide +kernel
theorem kX12_isHit : pv_okM pv_prog mX12_isHit = true := by decide +kernel
theorem kX12_hail : pv_okM pv_prog mX12_hail = true := by decide +kernel
theorem kX12_tapeNumber : pv_okM pv_prog mX12_tapeNumber = true := by decide +kernel
theorem kX12_check : pv_okM pv_prog mX12_check = true := by decide +kernel
theorem kX12_cells : pv_okM pv_prog mX12_cells = true := by decide +kernel
theorem kX12_count : pv_okM pv_prog mX12_count = true := by decide +kernel
theorem kJ6_bitCount_0f7a4 : pv_okM pv_prog mJ6_bitCount_0f7a4 = true := by decide +kernel
theorem kJ13_bitCount_95d88 : pv_okM pv_prog mJ13_bitCount_95d88 = true := by decide +kernel
theorem kJ7_fill_53178 : pv_okM pv_prog mJ7_fill_53178 = true := by decide +kernel
theorem pv_prog_all : ∀ M ∈ pv_prog, pv_okM pv_prog M = true := by
  intro M hM
  simp only [pv_prog, List.mem_cons, List.not_mem_nil, or_false] at hM
  rcases hM with rfl | rfl | rfl | rfl | rfl | rfl | rfl | rfl | rfl | rfl | rfl | rfl | rfl | rfl | rfl | rfl | rfl | rfl | rfl | rfl | rfl | rfl | rfl | rfl | rfl | rfl | rfl | rfl | rfl | rfl | rfl | rfl | rfl | rfl | rfl | rfl | rfl | rfl | rfl | rfl | rfl | rfl | rfl | rfl | rfl | rfl | rfl | rfl | rfl | rfl | rfl | rfl | rfl | rfl | rfl | rfl | rfl | rfl | rfl | rfl | rfl | rfl | rfl | rfl | rfl | rfl | rfl | rfl | rfl | rfl | rfl | rfl | rfl | rfl | rfl | rfl | rfl | rfl | rfl | rfl | rfl | rfl | rfl | rfl | rfl | rfl | rfl | rfl | rfl | rfl | rfl | rfl | rfl | rfl | rfl | rfl | rfl | rfl | rfl | rfl | rfl | rfl | rfl | rfl | rfl | rfl | rfl | rfl | rfl | rfl | rfl | rfl | rfl | rfl | rfl | rfl | rfl | rfl | rfl | rfl | rfl | rfl | rfl | rfl | rfl | rfl | rfl | rfl | rfl | rfl | rfl | rfl | rfl | rfl | rfl | rfl | rfl | rfl | rfl | rfl | rfl | rfl | rfl | rfl | rfl | rfl | rfl | rfl | rfl | rfl | rfl | rfl | rfl | rfl | rfl | rfl | rfl | rfl | rfl | rfl | rfl | rfl | rfl | rfl | rfl | rfl | rfl | rfl | rfl | rfl | rfl | rfl | rfl | rfl | rfl | rfl | rfl | rfl | rfl | rfl | rfl | rfl | rfl | rfl | rfl | rfl | rfl | rfl | rfl | rfl | rfl | rfl | rfl | rfl | rfl | rfl | rfl | rfl | rfl | rfl | rfl | rfl | rfl | rfl | rfl | rfl | rfl | rfl | rfl | rfl | rfl | rfl | rfl | rfl | rfl | rfl | rfl | rfl | rfl | rfl | rfl | rfl | rfl | rfl | rfl | rfl | rfl | rfl | rfl | rfl | rfl | rfl | rfl | rfl | rfl | rfl | rfl | rfl | rfl | rfl | rfl | rfl | rfl | rfl | rfl | rfl | rfl | rfl | rfl | rfl | rfl
  · exact kX0_init
  · exact kX0_carries
  · exact kX0_factOf
  · exact kX1_init
  · exact kX1_growth
  · exact kX1_oddsOfFall
  · exact kX1_ageing
  · exact kX1_catchingLevel
  · exact kX1_ownerOf
  · exact kX1_pointsOf
  · exact kX1_seeCell
  · exact kX1_seeCellAndCrop
  · exact kX1_seeFallen
  · exact kX1_seeFallFromItsCell
  · exact kX2_init
  · exact kX2_open
  · exact kX2_close
  · exact kX2_isWritten
  · exact kX2_factOf
  · exact kX3_init
  · exact kX3_endOfColumn
  · exact kX3_hangs
  · exact kX3_hasCrop
  · exact kX3_isRipe
  · exact kX3_needOf
  · exact kX3_setCrop
  · exact kX3_clearCrop
  · exact kX3_crops
  · exact kX3_factOf
  · exact kX3_loadOf
  · exact kX3_ripeLoadOf
  · exact kX3_firstOverloaded
  · exact kX3_unhang
  · exact kX3_loosen
  · exact kX3_wouldGo
  · exact kX3_columnsOf
  · exact kX3_highestFall
  · exact kX4_init
  · exact kX4_choose
  · exact kX4_tryCell
  · exact kX4_fits
  · exact kX4_burden
  · exact kX4_carryOut
  · exact kX4_kindAt
  · exact kX5_init
  · exact kX5_read
  · exact kX5_look
  · exact kX5_fail
  · exact kX5_expect
  · exact kX5_enter
  · exact kX5_isOneOf
  · exact kX5_readClause
  · exact kX5_readCondition
  · exact kX5_readPart
  · exact kX5_readJump
  · exact kX5_readPiece
  · exact kX5_readComparison
  · exact kX5_readSum
  · exact kX5_readTerm
  · exact kX5_readFactor
  · exact kX5_isDigit
  · exact kX5_readNumber
  · exact kX6_init
  · exact kX6_tell
  · exact kX6_asWork
  · exact kX6_hoursBetween
  · exact kX6_asMending
  · exact kX6_solve
  · exact kX6_spentOn
  · exact kX6_leastOnward
  · exact kX6_costVia
  · exact kX6_findRow
  · exact kX6_least
  · exact kX6_cellAt
  · exact kX7_init
  · exact kX7_put
  · exact kX7_answer
  · exact kX7_reckon
  · exact kX7_joined
  · exact kX8_init
  · exact kX8_fly
  · exact kX8_arrive
  · exact kX8_cancel
  · exact kX9_init
  · exact kX9_append
  · exact kX9_numberAt
  · exact kX10_init
  · exact kX10_pour
  · exact kX10_passOn
  · exact kX10_share
  · exact kX10_reckonGrowth
  · exact kX10_tryValve
  · exact kX10_weighTrial
  · exact kX10_dropsAt
  · exact kX11_init
  · exact kX11_hang
  · exact kX11_knot
  · exact kX11_kind
  · exact kX11_plant
  · exact kX11_valve
  · exact kX11_kitchen
  · exact kX11_rope
  · exact kX11_seed
  · exact kX11_feed
  · exact kX11_law
  · exact kX11_cell
  · exact kX11_byLaw
  · exact kX11_water
  · exact kX11_fall
  · exact kX11_go
  · exact kX11_day
  · exact kX11_torn
  · exact kX11_fallIs
  · exact kX11_claimed
  · exact kX11_right
  · exact kX11_food
  · exact kX11_kitchenIs
  · exact kX11_mayWork
  · exact kX11_work
  · exact kX11_pollen
  · exact kX11_pollinate
  · exact kX11_planted
  · exact kX11_drought
  · exact kX11_mended
  · exact kX11_hail
  · exact kX11_check
  · exact kX11_count
  · exact kX11_countOfRow
  · exact kX11_letWaterFlow
  · exact kX11_letCropsGrow
  · exact kX11_letCropsFall
  · exact kX11_letKnotsAge
  · exact kX11_letKnotsGo
  · exact kX11_tearDown
  · exact kX11_dropCrop
  · exact kX11_landInKitchen
  · exact kX11_claimantOf
  · exact kX11_hungCell
  · exact kX11_within
  · exact kX11_isColumn
  · exact kX11_isPerson
  · exact kX11_isCell
  · exact kX11_isTold
  · exact kX11_toldCells
  · exact kX12_init
  · exact kX12_in
  · exact kX12_less
  · exact kX12_more
  · exact kX12_isCell
  · exact kX12_at
  · exact kX12_isHung
  · exact kX12_hang
  · exact kX12_empties
  · exact kX12_knot
  · exact kX12_kind
  · exact kX12_plant
  · exact kX12_valve
  · exact kX12_kitchen
  · exact kX12_rope
  · exact kX12_seed
  · exact kX12_types
  · exact kX12_feed
  · exact kX12_here
  · exact kX12_isDigit
  · exact kX12_wrongAt
  · exact kX12_takes
  · exact kX12_readsNumber
  · exact kX12_notes
  · exact kX12_opens
  · exact kX12_top
  · exact kX12_factOf
  · exact kX12_sumSign
  · exact kX12_closesSums
  · exact kX12_readsFactor
  · exact kX12_hasOpenSum
  · exact kX12_readsSum
  · exact kX12_endsPiece
  · exact kX12_lands
  · exact kX12_jumps
  · exact kX12_readsCompared
  · exact kX12_readsCondition
  · exact kX12_canBegin
  · exact kX12_readsClause
  · exact kX12_law
  · exact kX12_reckon
  · exact kX12_comesTo
  · exact kX12_told
  · exact kX12_feelsCell
  · exact kX12_feelsCrop
  · exact kX12_isRipe
  · exact kX12_feels
  · exact kX12_asked
  · exact kX12_byLaw
  · exact kX12_sends
  · exact kX12_drips
  · exact kX12_flows
  · exact kX12_water
  · exact kX12_ownLoad
  · exact kX12_loadOf
  · exact kX12_cell
  · exact kX12_catcher
  · exact kX12_writes
  · exact kX12_falls
  · exact kX12_fall
  · exact kX12_firstGoing
  · exact kX12_tears
  · exact kX12_goesOff
  · exact kX12_go
  · exact kX12_torn
  · exact kX12_day
  · exact kX12_isFall
  · exact kX12_fallIs
  · exact kX12_claimer
  · exact kX12_claimed
  · exact kX12_right
  · exact kX12_food
  · exact kX12_kitchenIs
  · exact kX12_lays
  · exact kX12_mayBe
  · exact kX12_mayWork
  · exact kX12_apart
  · exact kX12_way
  · exact kX12_laysHours
  · exact kX12_work
  · exact kX12_hasKind
  · exact kX12_takesUp
  · exact kX12_moved
  · exact kX12_flies
  · exact kX12_gcd
  · exact kX12_pollen
  · exact kX12_pollinate
  · exact kX12_bearsAll
  · exact kX12_areWhole
  · exact kX12_planted
  · exact kX12_growth
  · exact kX12_drought
  · exact kX12_bits
  · exact kX12_takesOf
  · exact kX12_hoursOf
  · exact kX12_canBeNext
  · exact kX12_costBy
  · exact kX12_mended
  · exact kX12_isHit
  · exact kX12_hail
  · exact kX12_tapeNumber
  · exact kX12_check
  · exact kX12_cells
  · exact kX12_count
  · exact kJ6_bitCount_0f7a4
  · exact kJ13_bitCount_95d88
  · exact kJ7_fill_53178
theorem pv_prog_ok (j : Nat) (M : pv_M) (h : pv_prog[j]? = some M) : pv_okM pv_prog M = true := pv_prog_all M (List.mem_of_getElem? h)
