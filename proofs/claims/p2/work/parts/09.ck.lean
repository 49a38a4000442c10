theorem ck_X0_copyFrom : a_ckM mt_X0_copyFrom = true := by decide +kernel
theorem ck_X0_startGroup : a_ckM mt_X0_startGroup = true := by decide +kernel
theorem ck_X0_startPlaces : a_ckM mt_X0_startPlaces = true := by decide +kernel
theorem ck_X0_weighKin : a_ckM mt_X0_weighKin = true := by decide +kernel
theorem ck_X0_makeHole : a_ckM mt_X0_makeHole = true := by decide +kernel
theorem ck_X0_countText : a_ckM mt_X0_countText = true := by decide +kernel
theorem ck_X0_group : a_ckM mt_X0_group = true := by decide +kernel
theorem ck_X0_wide : a_ckM mt_X0_wide = true := by decide +kernel
theorem ck_X0_high : a_ckM mt_X0_high = true := by decide +kernel
theorem ck_X0_shape : a_ckM mt_X0_shape = true := by decide +kernel
theorem ck_X0_texts : a_ckM mt_X0_texts = true := by decide +kernel
theorem ck_X0_squares : a_ckM mt_X0_squares = true := by decide +kernel
theorem ck_X0_isFlat : a_ckM mt_X0_isFlat = true := by decide +kernel
theorem ck_X0_isClosed : a_ckM mt_X0_isClosed = true := by decide +kernel
theorem ck_X0_corners : a_ckM mt_X0_corners = true := by decide +kernel
theorem ck_X0_lines : a_ckM mt_X0_lines = true := by decide +kernel
theorem ck_X0_holes : a_ckM mt_X0_holes = true := by decide +kernel
theorem ck_X0_cornerAt : a_ckM mt_X0_cornerAt = true := by decide +kernel
theorem ck_X0_lineAt : a_ckM mt_X0_lineAt = true := by decide +kernel
theorem ck_X0_squareAt : a_ckM mt_X0_squareAt = true := by decide +kernel
theorem ck_X0_columnOf : a_ckM mt_X0_columnOf = true := by decide +kernel
theorem ck_X0_rowOf : a_ckM mt_X0_rowOf = true := by decide +kernel
theorem ck_X0_isNorth : a_ckM mt_X0_isNorth = true := by decide +kernel
theorem ck_X0_beginOf : a_ckM mt_X0_beginOf = true := by decide +kernel
theorem ck_X0_endOf : a_ckM mt_X0_endOf = true := by decide +kernel
theorem ck_X0_hasLine : a_ckM mt_X0_hasLine = true := by decide +kernel
theorem ck_X0_isOfTree : a_ckM mt_X0_isOfTree = true := by decide +kernel
theorem ck_X0_sideOf : a_ckM mt_X0_sideOf = true := by decide +kernel
theorem ck_X0_turnOn : a_ckM mt_X0_turnOn = true := by decide +kernel
theorem ck_X0_putTurn : a_ckM mt_X0_putTurn = true := by decide +kernel
theorem ck_X0_turnRound : a_ckM mt_X0_turnRound = true := by decide +kernel
theorem ck_X0_isHole : a_ckM mt_X0_isHole = true := by decide +kernel
theorem ck_X0_weight : a_ckM mt_X0_weight = true := by decide +kernel
theorem ck_X0_weightIn : a_ckM mt_X0_weightIn = true := by decide +kernel
theorem ck_X0_weightSum : a_ckM mt_X0_weightSum = true := by decide +kernel
theorem ck_X0_worthOfTurns : a_ckM mt_X0_worthOfTurns = true := by decide +kernel
theorem ck_X0_turnedSquares : a_ckM mt_X0_turnedSquares = true := by decide +kernel
theorem ck_X0_reframe : a_ckM mt_X0_reframe = true := by decide +kernel
theorem ck_X0_isReframed : a_ckM mt_X0_isReframed = true := by decide +kernel
theorem ck_X0_isReframedFrom : a_ckM mt_X0_isReframedFrom = true := by decide +kernel
theorem ck_X0_agrees : a_ckM mt_X0_agrees = true := by decide +kernel
theorem ck_X0_drawTurns : a_ckM mt_X0_drawTurns = true := by decide +kernel
theorem ck_X0_drawnTurn : a_ckM mt_X0_drawnTurn = true := by decide +kernel
theorem ck_X1_read : a_ckM mt_X1_read = true := by decide +kernel
theorem ck_X1_readPart : a_ckM mt_X1_readPart = true := by decide +kernel
theorem ck_X1_readGroup : a_ckM mt_X1_readGroup = true := by decide +kernel
theorem ck_X1_readSize : a_ckM mt_X1_readSize = true := by decide +kernel
theorem ck_X1_readShape : a_ckM mt_X1_readShape = true := by decide +kernel
theorem ck_X1_readWeight : a_ckM mt_X1_readWeight = true := by decide +kernel
theorem ck_X1_readHole : a_ckM mt_X1_readHole = true := by decide +kernel
theorem ck_X1_readLine : a_ckM mt_X1_readLine = true := by decide +kernel
theorem ck_X2_exists : a_ckM mt_X2_exists = true := by decide +kernel
theorem ck_X2_become : a_ckM mt_X2_become = true := by decide +kernel
theorem ck_X2_fillProducts : a_ckM mt_X2_fillProducts = true := by decide +kernel
theorem ck_X2_product : a_ckM mt_X2_product = true := by decide +kernel
theorem ck_X2_fillKins : a_ckM mt_X2_fillKins = true := by decide +kernel
theorem ck_X2_fillCounts : a_ckM mt_X2_fillCounts = true := by decide +kernel
theorem ck_X2_has : a_ckM mt_X2_has = true := by decide +kernel
theorem ck_X2_hasKin : a_ckM mt_X2_hasKin = true := by decide +kernel
theorem ck_X2_times : a_ckM mt_X2_times = true := by decide +kernel
theorem ck_X2_against : a_ckM mt_X2_against = true := by decide +kernel
theorem ck_X2_commute : a_ckM mt_X2_commute = true := by decide +kernel
theorem ck_X2_timesToRest : a_ckM mt_X2_timesToRest = true := by decide +kernel
theorem ck_X2_kind : a_ckM mt_X2_kind = true := by decide +kernel
theorem ck_X2_order : a_ckM mt_X2_order = true := by decide +kernel
theorem ck_X2_kins : a_ckM mt_X2_kins = true := by decide +kernel
theorem ck_X2_isOfHalves : a_ckM mt_X2_isOfHalves = true := by decide +kernel
theorem ck_X2_kinOf : a_ckM mt_X2_kinOf = true := by decide +kernel
theorem ck_X2_kinSize : a_ckM mt_X2_kinSize = true := by decide +kernel
theorem ck_X2_commutators : a_ckM mt_X2_commutators = true := by decide +kernel
theorem ck_X2_roots : a_ckM mt_X2_roots = true := by decide +kernel
theorem ck_X3_forget : a_ckM mt_X3_forget = true := by decide +kernel
theorem ck_X3_noteLine : a_ckM mt_X3_noteLine = true := by decide +kernel
theorem ck_X3_noteFrame : a_ckM mt_X3_noteFrame = true := by decide +kernel
theorem ck_X3_note : a_ckM mt_X3_note = true := by decide +kernel
theorem ck_X3_dropOldest : a_ckM mt_X3_dropOldest = true := by decide +kernel
theorem ck_X3_takeBack : a_ckM mt_X3_takeBack = true := by decide +kernel
theorem ck_X3_doAgain : a_ckM mt_X3_doAgain = true := by decide +kernel
theorem ck_X3_apply : a_ckM mt_X3_apply = true := by decide +kernel
theorem ck_X3_undoable : a_ckM mt_X3_undoable = true := by decide +kernel
theorem ck_X3_redoable : a_ckM mt_X3_redoable = true := by decide +kernel
theorem ck_X4_ofStates : a_ckM mt_X4_ofStates = true := by decide +kernel
theorem ck_X4_findLevels : a_ckM mt_X4_findLevels = true := by decide +kernel
theorem ck_X4_findSquares : a_ckM mt_X4_findSquares = true := by decide +kernel
theorem ck_X4_findSquare : a_ckM mt_X4_findSquare = true := by decide +kernel
theorem ck_X4_goOn : a_ckM mt_X4_goOn = true := by decide +kernel
theorem ck_X4_weighFrom : a_ckM mt_X4_weighFrom = true := by decide +kernel
theorem ck_X4_comesRound : a_ckM mt_X4_comesRound = true := by decide +kernel
theorem ck_X4_turnOf : a_ckM mt_X4_turnOf = true := by decide +kernel
theorem ck_X5_open : a_ckM mt_X5_open = true := by decide +kernel
theorem ck_X5_wrong : a_ckM mt_X5_wrong = true := by decide +kernel
theorem ck_X5_begin : a_ckM mt_X5_begin = true := by decide +kernel
theorem ck_X5_first : a_ckM mt_X5_first = true := by decide +kernel
theorem ck_X5_second : a_ckM mt_X5_second = true := by decide +kernel
theorem ck_X5_refuse : a_ckM mt_X5_refuse = true := by decide +kernel
theorem ck_X5_refuseLatest : a_ckM mt_X5_refuseLatest = true := by decide +kernel
theorem ck_X5_refuseNext : a_ckM mt_X5_refuseNext = true := by decide +kernel
theorem ck_X5_hasMore : a_ckM mt_X5_hasMore = true := by decide +kernel
theorem ck_X5_isEnded : a_ckM mt_X5_isEnded = true := by decide +kernel
theorem ck_X5_passSemicolon : a_ckM mt_X5_passSemicolon = true := by decide +kernel
theorem ck_X5_passWord : a_ckM mt_X5_passWord = true := by decide +kernel
theorem ck_X5_isWord : a_ckM mt_X5_isWord = true := by decide +kernel
theorem ck_X5_number : a_ckM mt_X5_number = true := by decide +kernel
theorem ck_X5_passTwo : a_ckM mt_X5_passTwo = true := by decide +kernel
theorem ck_X6_at : a_ckM mt_X6_at = true := by decide +kernel
theorem ck_X6_at_ : a_ckM mt_X6_at_ = true := by decide +kernel
theorem ck_X6_put : a_ckM mt_X6_put = true := by decide +kernel
theorem ck_X6_add : a_ckM mt_X6_add = true := by decide +kernel
theorem ck_X6_put_ : a_ckM mt_X6_put_ = true := by decide +kernel
theorem ck_X6_add_ : a_ckM mt_X6_add_ = true := by decide +kernel
theorem ck_X6_fill : a_ckM mt_X6_fill = true := by decide +kernel
theorem ck_X6_fill_ : a_ckM mt_X6_fill_ = true := by decide +kernel
theorem ck_X6_copy : a_ckM mt_X6_copy = true := by decide +kernel
theorem ck_X7_begin : a_ckM mt_X7_begin = true := by decide +kernel
theorem ck_X7_multiply : a_ckM mt_X7_multiply = true := by decide +kernel
theorem ck_X7_multiplyOnce : a_ckM mt_X7_multiplyOnce = true := by decide +kernel
theorem ck_X7_takeSquare : a_ckM mt_X7_takeSquare = true := by decide +kernel
theorem ck_X7_takeSame : a_ckM mt_X7_takeSame = true := by decide +kernel
theorem ck_X7_together : a_ckM mt_X7_together = true := by decide +kernel
theorem ck_X7_overShape : a_ckM mt_X7_overShape = true := by decide +kernel
theorem ck_X7_ofStates : a_ckM mt_X7_ofStates = true := by decide +kernel
theorem ck_X7_statesTurned : a_ckM mt_X7_statesTurned = true := by decide +kernel
theorem ck_X7_choices : a_ckM mt_X7_choices = true := by decide +kernel
theorem ck_X7_ofWalk : a_ckM mt_X7_ofWalk = true := by decide +kernel
theorem ck_X7_restsInAll : a_ckM mt_X7_restsInAll = true := by decide +kernel
theorem ck_X7_restsOnce : a_ckM mt_X7_restsOnce = true := by decide +kernel
theorem ck_X7_commutingPairsOnce : a_ckM mt_X7_commutingPairsOnce = true := by decide +kernel
theorem ck_X7_ofBody : a_ckM mt_X7_ofBody = true := by decide +kernel
theorem ck_X7_dualOf : a_ckM mt_X7_dualOf = true := by decide +kernel
theorem ck_X7_ofDuals : a_ckM mt_X7_ofDuals = true := by decide +kernel
theorem ck_X8_hasRoom : a_ckM mt_X8_hasRoom = true := by decide +kernel
theorem ck_X8_append : a_ckM mt_X8_append = true := by decide +kernel
theorem ck_X8_cutTo : a_ckM mt_X8_cutTo = true := by decide +kernel
theorem ck_X8_clear : a_ckM mt_X8_clear = true := by decide +kernel
theorem ck_X8_size : a_ckM mt_X8_size = true := by decide +kernel
theorem ck_X8_byteAt : a_ckM mt_X8_byteAt = true := by decide +kernel
theorem ck_X9_read : a_ckM mt_X9_read = true := by decide +kernel
theorem ck_X9_readBegin : a_ckM mt_X9_readBegin = true := by decide +kernel
theorem ck_X9_begin : a_ckM mt_X9_begin = true := by decide +kernel
theorem ck_X9_readPart : a_ckM mt_X9_readPart = true := by decide +kernel
theorem ck_X9_wayRead : a_ckM mt_X9_wayRead = true := by decide +kernel
theorem ck_X9_go : a_ckM mt_X9_go = true := by decide +kernel
theorem ck_X9_stepBehind : a_ckM mt_X9_stepBehind = true := by decide +kernel
theorem ck_X9_arrive : a_ckM mt_X9_arrive = true := by decide +kernel
theorem ck_X9_comesTo : a_ckM mt_X9_comesTo = true := by decide +kernel
theorem ck_X9_length : a_ckM mt_X9_length = true := by decide +kernel
theorem ck_X9_isClosed : a_ckM mt_X9_isClosed = true := by decide +kernel
theorem ck_X9_isSimple : a_ckM mt_X9_isSimple = true := by decide +kernel
theorem ck_X9_windsRound : a_ckM mt_X9_windsRound = true := by decide +kernel
theorem ck_X9_squaresWithin : a_ckM mt_X9_squaresWithin = true := by decide +kernel
theorem ck_X10_feed : a_ckM mt_X10_feed = true := by decide +kernel
theorem ck_X10_end : a_ckM mt_X10_end = true := by decide +kernel
theorem ck_X10_board : a_ckM mt_X10_board = true := by decide +kernel
theorem ck_X10_fault : a_ckM mt_X10_fault = true := by decide +kernel
theorem ck_X10_by : a_ckM mt_X10_by = true := by decide +kernel
theorem ck_X10_turn : a_ckM mt_X10_turn = true := by decide +kernel
theorem ck_X10_line : a_ckM mt_X10_line = true := by decide +kernel
theorem ck_X10_set : a_ckM mt_X10_set = true := by decide +kernel
theorem ck_X10_round : a_ckM mt_X10_round = true := by decide +kernel
theorem ck_X10_frame : a_ckM mt_X10_frame = true := by decide +kernel
theorem ck_X10_undo : a_ckM mt_X10_undo = true := by decide +kernel
theorem ck_X10_redo : a_ckM mt_X10_redo = true := by decide +kernel
theorem ck_X10_walk : a_ckM mt_X10_walk = true := by decide +kernel
theorem ck_X10_worth : a_ckM mt_X10_worth = true := by decide +kernel
theorem ck_X10_turned : a_ckM mt_X10_turned = true := by decide +kernel
theorem ck_X10_alike : a_ckM mt_X10_alike = true := by decide +kernel
theorem ck_X10_sum : a_ckM mt_X10_sum = true := by decide +kernel
theorem ck_X10_listed : a_ckM mt_X10_listed = true := by decide +kernel
theorem ck_X10_states : a_ckM mt_X10_states = true := by decide +kernel
theorem ck_X10_mean : a_ckM mt_X10_mean = true := by decide +kernel
theorem ck_X10_rests : a_ckM mt_X10_rests = true := by decide +kernel
theorem ck_X10_body : a_ckM mt_X10_body = true := by decide +kernel
theorem ck_X10_dual : a_ckM mt_X10_dual = true := by decide +kernel
theorem ck_X10_dualSum : a_ckM mt_X10_dualSum = true := by decide +kernel
theorem ck_X10_draw : a_ckM mt_X10_draw = true := by decide +kernel
theorem ck_X10_image : a_ckM mt_X10_image = true := by decide +kernel
theorem ck_X10_back : a_ckM mt_X10_back = true := by decide +kernel
theorem ck_X10_count : a_ckM mt_X10_count = true := by decide +kernel
theorem ck_X11_isIn : a_ckM mt_X11_isIn = true := by decide +kernel
theorem ck_X11_isGroup : a_ckM mt_X11_isGroup = true := by decide +kernel
theorem ck_X11_times : a_ckM mt_X11_times = true := by decide +kernel
theorem ck_X11_against : a_ckM mt_X11_against = true := by decide +kernel
theorem ck_X11_isKin : a_ckM mt_X11_isKin = true := by decide +kernel
theorem ck_X11_leastOf : a_ckM mt_X11_leastOf = true := by decide +kernel
theorem ck_X11_kinOf : a_ckM mt_X11_kinOf = true := by decide +kernel
theorem ck_X11_kins : a_ckM mt_X11_kins = true := by decide +kernel
theorem ck_X11_commutators : a_ckM mt_X11_commutators = true := by decide +kernel
theorem ck_X11_roots : a_ckM mt_X11_roots = true := by decide +kernel
theorem ck_X11_isTurn : a_ckM mt_X11_isTurn = true := by decide +kernel
theorem ck_X11_columns : a_ckM mt_X11_columns = true := by decide +kernel
theorem ck_X11_rowsOf : a_ckM mt_X11_rowsOf = true := by decide +kernel
theorem ck_X11_isCorner : a_ckM mt_X11_isCorner = true := by decide +kernel
theorem ck_X11_isSquare : a_ckM mt_X11_isSquare = true := by decide +kernel
theorem ck_X11_isHole : a_ckM mt_X11_isHole = true := by decide +kernel
theorem ck_X11_lineOf : a_ckM mt_X11_lineOf = true := by decide +kernel
theorem ck_X11_lineMany : a_ckM mt_X11_lineMany = true := by decide +kernel
theorem ck_X11_cornerOf : a_ckM mt_X11_cornerOf = true := by decide +kernel
theorem ck_X11_endOf : a_ckM mt_X11_endOf = true := by decide +kernel
theorem ck_X11_held : a_ckM mt_X11_held = true := by decide +kernel
theorem ck_X11_roundOf : a_ckM mt_X11_roundOf = true := by decide +kernel
theorem ck_X11_feed : a_ckM mt_X11_feed = true := by decide +kernel
theorem ck_X11_end : a_ckM mt_X11_end = true := by decide +kernel
theorem ck_X11_skip : a_ckM mt_X11_skip = true := by decide +kernel
theorem ck_X11_isSign : a_ckM mt_X11_isSign = true := by decide +kernel
theorem ck_X11_has : a_ckM mt_X11_has = true := by decide +kernel
theorem ck_X11_wrong : a_ckM mt_X11_wrong = true := by decide +kernel
theorem ck_X11_figures : a_ckM mt_X11_figures = true := by decide +kernel
theorem ck_X11_rests0 : a_ckM mt_X11_rests0 = true := by decide +kernel
theorem ck_X11_lineTold : a_ckM mt_X11_lineTold = true := by decide +kernel
theorem ck_X11_boardLine : a_ckM mt_X11_boardLine = true := by decide +kernel
theorem ck_X11_begins : a_ckM mt_X11_begins = true := by decide +kernel
theorem ck_X11_board : a_ckM mt_X11_board = true := by decide +kernel
theorem ck_X11_fault : a_ckM mt_X11_fault = true := by decide +kernel
theorem ck_X11_by : a_ckM mt_X11_by = true := by decide +kernel
theorem ck_X11_turn : a_ckM mt_X11_turn = true := by decide +kernel
theorem ck_X11_line : a_ckM mt_X11_line = true := by decide +kernel
theorem ck_X11_remembers : a_ckM mt_X11_remembers = true := by decide +kernel
theorem ck_X11_done : a_ckM mt_X11_done = true := by decide +kernel
theorem ck_X11_set : a_ckM mt_X11_set = true := by decide +kernel
theorem ck_X11_round : a_ckM mt_X11_round = true := by decide +kernel
theorem ck_X11_frame : a_ckM mt_X11_frame = true := by decide +kernel
theorem ck_X11_undo : a_ckM mt_X11_undo = true := by decide +kernel
theorem ck_X11_redo : a_ckM mt_X11_redo = true := by decide +kernel
theorem ck_X11_goes : a_ckM mt_X11_goes = true := by decide +kernel
theorem ck_X11_walks : a_ckM mt_X11_walks = true := by decide +kernel
theorem ck_X11_isClosed : a_ckM mt_X11_isClosed = true := by decide +kernel
theorem ck_X11_walk : a_ckM mt_X11_walk = true := by decide +kernel
theorem ck_X11_worthNow : a_ckM mt_X11_worthNow = true := by decide +kernel
theorem ck_X11_worth : a_ckM mt_X11_worth = true := by decide +kernel
theorem ck_X11_turnedNow : a_ckM mt_X11_turnedNow = true := by decide +kernel
theorem ck_X11_turned : a_ckM mt_X11_turned = true := by decide +kernel
theorem ck_X11_alike : a_ckM mt_X11_alike = true := by decide +kernel
theorem ck_X11_isAlikeBy : a_ckM mt_X11_isAlikeBy = true := by decide +kernel
theorem ck_X11_weightOf : a_ckM mt_X11_weightOf = true := by decide +kernel
theorem ck_X11_folds0 : a_ckM mt_X11_folds0 = true := by decide +kernel
theorem ck_X11_foldsSquare : a_ckM mt_X11_foldsSquare = true := by decide +kernel
theorem ck_X11_foldsAll : a_ckM mt_X11_foldsAll = true := by decide +kernel
theorem ck_X11_byShape : a_ckM mt_X11_byShape = true := by decide +kernel
theorem ck_X11_sum : a_ckM mt_X11_sum = true := by decide +kernel
theorem ck_X11_states : a_ckM mt_X11_states = true := by decide +kernel
theorem ck_X11_frees : a_ckM mt_X11_frees = true := by decide +kernel
theorem ck_X11_lists : a_ckM mt_X11_lists = true := by decide +kernel
theorem ck_X11_listed : a_ckM mt_X11_listed = true := by decide +kernel
theorem ck_X11_isRing : a_ckM mt_X11_isRing = true := by decide +kernel
theorem ck_X11_isWithin : a_ckM mt_X11_isWithin = true := by decide +kernel
theorem ck_X11_isClockwise : a_ckM mt_X11_isClockwise = true := by decide +kernel
theorem ck_X11_mean : a_ckM mt_X11_mean = true := by decide +kernel
theorem ck_X11_areLike : a_ckM mt_X11_areLike = true := by decide +kernel
theorem ck_X11_rests : a_ckM mt_X11_rests = true := by decide +kernel
theorem ck_X11_foldsPart : a_ckM mt_X11_foldsPart = true := by decide +kernel
theorem ck_X11_body : a_ckM mt_X11_body = true := by decide +kernel
theorem ck_X11_dualOf : a_ckM mt_X11_dualOf = true := by decide +kernel
theorem ck_X11_dual : a_ckM mt_X11_dual = true := by decide +kernel
theorem ck_X11_dualSum : a_ckM mt_X11_dualSum = true := by decide +kernel
theorem ck_X11_draw : a_ckM mt_X11_draw = true := by decide +kernel
theorem ck_X11_image : a_ckM mt_X11_image = true := by decide +kernel
theorem ck_X11_back : a_ckM mt_X11_back = true := by decide +kernel
theorem ck_X11_count : a_ckM mt_X11_count = true := by decide +kernel
theorem ck_J6_bitCount_0f7a4 : a_ckM mt_J6_bitCount_0f7a4 = true := by decide +kernel
theorem ck_J9_max_7cf53 : a_ckM mt_J9_max_7cf53 = true := by decide +kernel
def a_mt_0 : List aT := [mt_X0_copyFrom, mt_X0_startGroup, mt_X0_startPlaces, mt_X0_weighKin, mt_X0_makeHole, mt_X0_countText, mt_X0_group, mt_X0_wide, mt_X0_high, mt_X0_shape, mt_X0_texts, mt_X0_squares, mt_X0_isFlat, mt_X0_isClosed, mt_X0_corners, mt_X0_lines, mt_X0_holes, mt_X0_cornerAt, mt_X0_lineAt, mt_X0_squareAt]
theorem a_mt_ok_0 : ∀ m ∈ a_mt_0, a_ckM m = true := List.forall_mem_cons.mpr ⟨ck_X0_copyFrom, List.forall_mem_cons.mpr ⟨ck_X0_startGroup, List.forall_mem_cons.mpr ⟨ck_X0_startPlaces, List.forall_mem_cons.mpr ⟨ck_X0_weighKin, List.forall_mem_cons.mpr ⟨ck_X0_makeHole, List.forall_mem_cons.mpr ⟨ck_X0_countText, List.forall_mem_cons.mpr ⟨ck_X0_group, List.forall_mem_cons.mpr ⟨ck_X0_wide, List.forall_mem_cons.mpr ⟨ck_X0_high, List.forall_mem_cons.mpr ⟨ck_X0_shape, List.forall_mem_cons.mpr ⟨ck_X0_texts, List.forall_mem_cons.mpr ⟨ck_X0_squares, List.forall_mem_cons.mpr ⟨ck_X0_isFlat, List.forall_mem_cons.mpr ⟨ck_X0_isClosed, List.forall_mem_cons.mpr ⟨ck_X0_corners, List.forall_mem_cons.mpr ⟨ck_X0_lines, List.forall_mem_cons.mpr ⟨ck_X0_holes, List.forall_mem_cons.mpr ⟨ck_X0_cornerAt, List.forall_mem_cons.mpr ⟨ck_X0_lineAt, List.forall_mem_cons.mpr ⟨ck_X0_squareAt, fun _ h => absurd h List.not_mem_nil⟩⟩⟩⟩⟩⟩⟩⟩⟩⟩⟩⟩⟩⟩⟩⟩⟩⟩⟩⟩
def a_mt_1 : List aT := [mt_X0_columnOf, mt_X0_rowOf, mt_X0_isNorth, mt_X0_beginOf, mt_X0_endOf, mt_X0_hasLine, mt_X0_isOfTree, mt_X0_sideOf, mt_X0_turnOn, mt_X0_putTurn, mt_X0_turnRound, mt_X0_isHole, mt_X0_weight, mt_X0_weightIn, mt_X0_weightSum, mt_X0_worthOfTurns, mt_X0_turnedSquares, mt_X0_reframe, mt_X0_isReframed, mt_X0_isReframedFrom]
theorem a_mt_ok_1 : ∀ m ∈ a_mt_1, a_ckM m = true := List.forall_mem_cons.mpr ⟨ck_X0_columnOf, List.forall_mem_cons.mpr ⟨ck_X0_rowOf, List.forall_mem_cons.mpr ⟨ck_X0_isNorth, List.forall_mem_cons.mpr ⟨ck_X0_beginOf, List.forall_mem_cons.mpr ⟨ck_X0_endOf, List.forall_mem_cons.mpr ⟨ck_X0_hasLine, List.forall_mem_cons.mpr ⟨ck_X0_isOfTree, List.forall_mem_cons.mpr ⟨ck_X0_sideOf, List.forall_mem_cons.mpr ⟨ck_X0_turnOn, List.forall_mem_cons.mpr ⟨ck_X0_putTurn, List.forall_mem_cons.mpr ⟨ck_X0_turnRound, List.forall_mem_cons.mpr ⟨ck_X0_isHole, List.forall_mem_cons.mpr ⟨ck_X0_weight, List.forall_mem_cons.mpr ⟨ck_X0_weightIn, List.forall_mem_cons.mpr ⟨ck_X0_weightSum, List.forall_mem_cons.mpr ⟨ck_X0_worthOfTurns, List.forall_mem_cons.mpr ⟨ck_X0_turnedSquares, List.forall_mem_cons.mpr ⟨ck_X0_reframe, List.forall_mem_cons.mpr ⟨ck_X0_isReframed, List.forall_mem_cons.mpr ⟨ck_X0_isReframedFrom, fun _ h => absurd h List.not_mem_nil⟩⟩⟩⟩⟩⟩⟩⟩⟩⟩⟩⟩⟩⟩⟩⟩⟩⟩⟩⟩
def a_mt_2 : List aT := [mt_X0_agrees, mt_X0_drawTurns, mt_X0_drawnTurn, mt_X1_read, mt_X1_readPart, mt_X1_readGroup, mt_X1_readSize, mt_X1_readShape, mt_X1_readWeight, mt_X1_readHole, mt_X1_readLine, mt_X2_exists, mt_X2_become, mt_X2_fillProducts, mt_X2_product, mt_X2_fillKins, mt_X2_fillCounts, mt_X2_has, mt_X2_hasKin, mt_X2_times]
theorem a_mt_ok_2 : ∀ m ∈ a_mt_2, a_ckM m = true := List.forall_mem_cons.mpr ⟨ck_X0_agrees, List.forall_mem_cons.mpr ⟨ck_X0_drawTurns, List.forall_mem_cons.mpr ⟨ck_X0_drawnTurn, List.forall_mem_cons.mpr ⟨ck_X1_read, List.forall_mem_cons.mpr ⟨ck_X1_readPart, List.forall_mem_cons.mpr ⟨ck_X1_readGroup, List.forall_mem_cons.mpr ⟨ck_X1_readSize, List.forall_mem_cons.mpr ⟨ck_X1_readShape, List.forall_mem_cons.mpr ⟨ck_X1_readWeight, List.forall_mem_cons.mpr ⟨ck_X1_readHole, List.forall_mem_cons.mpr ⟨ck_X1_readLine, List.forall_mem_cons.mpr ⟨ck_X2_exists, List.forall_mem_cons.mpr ⟨ck_X2_become, List.forall_mem_cons.mpr ⟨ck_X2_fillProducts, List.forall_mem_cons.mpr ⟨ck_X2_product, List.forall_mem_cons.mpr ⟨ck_X2_fillKins, List.forall_mem_cons.mpr ⟨ck_X2_fillCounts, List.forall_mem_cons.mpr ⟨ck_X2_has, List.forall_mem_cons.mpr ⟨ck_X2_hasKin, List.forall_mem_cons.mpr ⟨ck_X2_times, fun _ h => absurd h List.not_mem_nil⟩⟩⟩⟩⟩⟩⟩⟩⟩⟩⟩⟩⟩⟩⟩⟩⟩⟩⟩⟩
def a_mt_3 : List aT := [mt_X2_against, mt_X2_commute, mt_X2_timesToRest, mt_X2_kind, mt_X2_order, mt_X2_kins, mt_X2_isOfHalves, mt_X2_kinOf, mt_X2_kinSize, mt_X2_commutators, mt_X2_roots, mt_X3_forget, mt_X3_noteLine, mt_X3_noteFrame, mt_X3_note, mt_X3_dropOldest, mt_X3_takeBack, mt_X3_doAgain, mt_X3_apply, mt_X3_undoable]
theorem a_mt_ok_3 : ∀ m ∈ a_mt_3, a_ckM m = true := List.forall_mem_cons.mpr ⟨ck_X2_against, List.forall_mem_cons.mpr ⟨ck_X2_commute, List.forall_mem_cons.mpr ⟨ck_X2_timesToRest, List.forall_mem_cons.mpr ⟨ck_X2_kind, List.forall_mem_cons.mpr ⟨ck_X2_order, List.forall_mem_cons.mpr ⟨ck_X2_kins, List.forall_mem_cons.mpr ⟨ck_X2_isOfHalves, List.forall_mem_cons.mpr ⟨ck_X2_kinOf, List.forall_mem_cons.mpr ⟨ck_X2_kinSize, List.forall_mem_cons.mpr ⟨ck_X2_commutators, List.forall_mem_cons.mpr ⟨ck_X2_roots, List.forall_mem_cons.mpr ⟨ck_X3_forget, List.forall_mem_cons.mpr ⟨ck_X3_noteLine, List.forall_mem_cons.mpr ⟨ck_X3_noteFrame, List.forall_mem_cons.mpr ⟨ck_X3_note, List.forall_mem_cons.mpr ⟨ck_X3_dropOldest, List.forall_mem_cons.mpr ⟨ck_X3_takeBack, List.forall_mem_cons.mpr ⟨ck_X3_doAgain, List.forall_mem_cons.mpr ⟨ck_X3_apply, List.forall_mem_cons.mpr ⟨ck_X3_undoable, fun _ h => absurd h List.not_mem_nil⟩⟩⟩⟩⟩⟩⟩⟩⟩⟩⟩⟩⟩⟩⟩⟩⟩⟩⟩⟩
def a_mt_4 : List aT := [mt_X3_redoable, mt_X4_ofStates, mt_X4_findLevels, mt_X4_findSquares, mt_X4_findSquare, mt_X4_goOn, mt_X4_weighFrom, mt_X4_comesRound, mt_X4_turnOf, mt_X5_open, mt_X5_wrong, mt_X5_begin, mt_X5_first, mt_X5_second, mt_X5_refuse, mt_X5_refuseLatest, mt_X5_refuseNext, mt_X5_hasMore, mt_X5_isEnded, mt_X5_passSemicolon]
theorem a_mt_ok_4 : ∀ m ∈ a_mt_4, a_ckM m = true := List.forall_mem_cons.mpr ⟨ck_X3_redoable, List.forall_mem_cons.mpr ⟨ck_X4_ofStates, List.forall_mem_cons.mpr ⟨ck_X4_findLevels, List.forall_mem_cons.mpr ⟨ck_X4_findSquares, List.forall_mem_cons.mpr ⟨ck_X4_findSquare, List.forall_mem_cons.mpr ⟨ck_X4_goOn, List.forall_mem_cons.mpr ⟨ck_X4_weighFrom, List.forall_mem_cons.mpr ⟨ck_X4_comesRound, List.forall_mem_cons.mpr ⟨ck_X4_turnOf, List.forall_mem_cons.mpr ⟨ck_X5_open, List.forall_mem_cons.mpr ⟨ck_X5_wrong, List.forall_mem_cons.mpr ⟨ck_X5_begin, List.forall_mem_cons.mpr ⟨ck_X5_first, List.forall_mem_cons.mpr ⟨ck_X5_second, List.forall_mem_cons.mpr ⟨ck_X5_refuse, List.forall_mem_cons.mpr ⟨ck_X5_refuseLatest, List.forall_mem_cons.mpr ⟨ck_X5_refuseNext, List.forall_mem_cons.mpr ⟨ck_X5_hasMore, List.forall_mem_cons.mpr ⟨ck_X5_isEnded, List.forall_mem_cons.mpr ⟨ck_X5_passSemicolon, fun _ h => absurd h List.not_mem_nil⟩⟩⟩⟩⟩⟩⟩⟩⟩⟩⟩⟩⟩⟩⟩⟩⟩⟩⟩⟩
def a_mt_5 : List aT := [mt_X5_passWord, mt_X5_isWord, mt_X5_number, mt_X5_passTwo, mt_X6_at, mt_X6_at_, mt_X6_put, mt_X6_add, mt_X6_put_, mt_X6_add_, mt_X6_fill, mt_X6_fill_, mt_X6_copy, mt_X7_begin, mt_X7_multiply, mt_X7_multiplyOnce, mt_X7_takeSquare, mt_X7_takeSame, mt_X7_together, mt_X7_overShape]
theorem a_mt_ok_5 : ∀ m ∈ a_mt_5, a_ckM m = true := List.forall_mem_cons.mpr ⟨ck_X5_passWord, List.forall_mem_cons.mpr ⟨ck_X5_isWord, List.forall_mem_cons.mpr ⟨ck_X5_number, List.forall_mem_cons.mpr ⟨ck_X5_passTwo, List.forall_mem_cons.mpr ⟨ck_X6_at, List.forall_mem_cons.mpr ⟨ck_X6_at_, List.forall_mem_cons.mpr ⟨ck_X6_put, List.forall_mem_cons.mpr ⟨ck_X6_add, List.forall_mem_cons.mpr ⟨ck_X6_put_, List.forall_mem_cons.mpr ⟨ck_X6_add_, List.forall_mem_cons.mpr ⟨ck_X6_fill, List.forall_mem_cons.mpr ⟨ck_X6_fill_, List.forall_mem_cons.mpr ⟨ck_X6_copy, List.forall_mem_cons.mpr ⟨ck_X7_begin, List.forall_mem_cons.mpr ⟨ck_X7_multiply, List.forall_mem_cons.mpr ⟨ck_X7_multiplyOnce, List.forall_mem_cons.mpr ⟨ck_X7_takeSquare, List.forall_mem_cons.mpr ⟨ck_X7_takeSame, List.forall_mem_cons.mpr ⟨ck_X7_together, List.forall_mem_cons.mpr ⟨ck_X7_overShape, fun _ h => absurd h List.not_mem_nil⟩⟩⟩⟩⟩⟩⟩⟩⟩⟩⟩⟩⟩⟩⟩⟩⟩⟩⟩⟩
def a_mt_6 : List aT := [mt_X7_ofStates, mt_X7_statesTurned, mt_X7_choices, mt_X7_ofWalk, mt_X7_restsInAll, mt_X7_restsOnce, mt_X7_commutingPairsOnce, mt_X7_ofBody, mt_X7_dualOf, mt_X7_ofDuals, mt_X8_hasRoom, mt_X8_append, mt_X8_cutTo, mt_X8_clear, mt_X8_size, mt_X8_byteAt, mt_X9_read, mt_X9_readBegin, mt_X9_begin, mt_X9_readPart]
theorem a_mt_ok_6 : ∀ m ∈ a_mt_6, a_ckM m = true := List.forall_mem_cons.mpr ⟨ck_X7_ofStates, List.forall_mem_cons.mpr ⟨ck_X7_statesTurned, List.forall_mem_cons.mpr ⟨ck_X7_choices, List.forall_mem_cons.mpr ⟨ck_X7_ofWalk, List.forall_mem_cons.mpr ⟨ck_X7_restsInAll, List.forall_mem_cons.mpr ⟨ck_X7_restsOnce, List.forall_mem_cons.mpr ⟨ck_X7_commutingPairsOnce, List.forall_mem_cons.mpr ⟨ck_X7_ofBody, List.forall_mem_cons.mpr ⟨ck_X7_dualOf, List.forall_mem_cons.mpr ⟨ck_X7_ofDuals, List.forall_mem_cons.mpr ⟨ck_X8_hasRoom, List.forall_mem_cons.mpr ⟨ck_X8_append, List.forall_mem_cons.mpr ⟨ck_X8_cutTo, List.forall_mem_cons.mpr ⟨ck_X8_clear, List.forall_mem_cons.mpr ⟨ck_X8_size, List.forall_mem_cons.mpr ⟨ck_X8_byteAt, List.forall_mem_cons.mpr ⟨ck_X9_read, List.forall_mem_cons.mpr ⟨ck_X9_readBegin, List.forall_mem_cons.mpr ⟨ck_X9_begin, List.forall_mem_cons.mpr ⟨ck_X9_readPart, fun _ h => absurd h List.not_mem_nil⟩⟩⟩⟩⟩⟩⟩⟩⟩⟩⟩⟩⟩⟩⟩⟩⟩⟩⟩⟩
def a_mt_7 : List aT := [mt_X9_wayRead, mt_X9_go, mt_X9_stepBehind, mt_X9_arrive, mt_X9_comesTo, mt_X9_length, mt_X9_isClosed, mt_X9_isSimple, mt_X9_windsRound, mt_X9_squaresWithin, mt_X10_feed, mt_X10_end, mt_X10_board, mt_X10_fault, mt_X10_by, mt_X10_turn, mt_X10_line, mt_X10_set, mt_X10_round, mt_X10_frame]
theorem a_mt_ok_7 : ∀ m ∈ a_mt_7, a_ckM m = true := List.forall_mem_cons.mpr ⟨ck_X9_wayRead, List.forall_mem_cons.mpr ⟨ck_X9_go, List.forall_mem_cons.mpr ⟨ck_X9_stepBehind, List.forall_mem_cons.mpr ⟨ck_X9_arrive, List.forall_mem_cons.mpr ⟨ck_X9_comesTo, List.forall_mem_cons.mpr ⟨ck_X9_length, List.forall_mem_cons.mpr ⟨ck_X9_isClosed, List.forall_mem_cons.mpr ⟨ck_X9_isSimple, List.forall_mem_cons.mpr ⟨ck_X9_windsRound, List.forall_mem_cons.mpr ⟨ck_X9_squaresWithin, List.forall_mem_cons.mpr ⟨ck_X10_feed, List.forall_mem_cons.mpr ⟨ck_X10_end, List.forall_mem_cons.mpr ⟨ck_X10_board, List.forall_mem_cons.mpr ⟨ck_X10_fault, List.forall_mem_cons.mpr ⟨ck_X10_by, List.forall_mem_cons.mpr ⟨ck_X10_turn, List.forall_mem_cons.mpr ⟨ck_X10_line, List.forall_mem_cons.mpr ⟨ck_X10_set, List.forall_mem_cons.mpr ⟨ck_X10_round, List.forall_mem_cons.mpr ⟨ck_X10_frame, fun _ h => absurd h List.not_mem_nil⟩⟩⟩⟩⟩⟩⟩⟩⟩⟩⟩⟩⟩⟩⟩⟩⟩⟩⟩⟩
def a_mt_8 : List aT := [mt_X10_undo, mt_X10_redo, mt_X10_walk, mt_X10_worth, mt_X10_turned, mt_X10_alike, mt_X10_sum, mt_X10_listed, mt_X10_states, mt_X10_mean, mt_X10_rests, mt_X10_body, mt_X10_dual, mt_X10_dualSum, mt_X10_draw, mt_X10_image, mt_X10_back, mt_X10_count, mt_X11_isIn, mt_X11_isGroup]
theorem a_mt_ok_8 : ∀ m ∈ a_mt_8, a_ckM m = true := List.forall_mem_cons.mpr ⟨ck_X10_undo, List.forall_mem_cons.mpr ⟨ck_X10_redo, List.forall_mem_cons.mpr ⟨ck_X10_walk, List.forall_mem_cons.mpr ⟨ck_X10_worth, List.forall_mem_cons.mpr ⟨ck_X10_turned, List.forall_mem_cons.mpr ⟨ck_X10_alike, List.forall_mem_cons.mpr ⟨ck_X10_sum, List.forall_mem_cons.mpr ⟨ck_X10_listed, List.forall_mem_cons.mpr ⟨ck_X10_states, List.forall_mem_cons.mpr ⟨ck_X10_mean, List.forall_mem_cons.mpr ⟨ck_X10_rests, List.forall_mem_cons.mpr ⟨ck_X10_body, List.forall_mem_cons.mpr ⟨ck_X10_dual, List.forall_mem_cons.mpr ⟨ck_X10_dualSum, List.forall_mem_cons.mpr ⟨ck_X10_draw, List.forall_mem_cons.mpr ⟨ck_X10_image, List.forall_mem_cons.mpr ⟨ck_X10_back, List.forall_mem_cons.mpr ⟨ck_X10_count, List.forall_mem_cons.mpr ⟨ck_X11_isIn, List.forall_mem_cons.mpr ⟨ck_X11_isGroup, fun _ h => absurd h List.not_mem_nil⟩⟩⟩⟩⟩⟩⟩⟩⟩⟩⟩⟩⟩⟩⟩⟩⟩⟩⟩⟩
def a_mt_9 : List aT := [mt_X11_times, mt_X11_against, mt_X11_isKin, mt_X11_leastOf, mt_X11_kinOf, mt_X11_kins, mt_X11_commutators, mt_X11_roots, mt_X11_isTurn, mt_X11_columns, mt_X11_rowsOf, mt_X11_isCorner, mt_X11_isSquare, mt_X11_isHole, mt_X11_lineOf, mt_X11_lineMany, mt_X11_cornerOf, mt_X11_endOf, mt_X11_held, mt_X11_roundOf]
theorem a_mt_ok_9 : ∀ m ∈ a_mt_9, a_ckM m = true := List.forall_mem_cons.mpr ⟨ck_X11_times, List.forall_mem_cons.mpr ⟨ck_X11_against, List.forall_mem_cons.mpr ⟨ck_X11_isKin, List.forall_mem_cons.mpr ⟨ck_X11_leastOf, List.forall_mem_cons.mpr ⟨ck_X11_kinOf, List.forall_mem_cons.mpr ⟨ck_X11_kins, List.forall_mem_cons.mpr ⟨ck_X11_commutators, List.forall_mem_cons.mpr ⟨ck_X11_roots, List.forall_mem_cons.mpr ⟨ck_X11_isTurn, List.forall_mem_cons.mpr ⟨ck_X11_columns, List.forall_mem_cons.mpr ⟨ck_X11_rowsOf, List.forall_mem_cons.mpr ⟨ck_X11_isCorner, List.forall_mem_cons.mpr ⟨ck_X11_isSquare, List.forall_mem_cons.mpr ⟨ck_X11_isHole, List.forall_mem_cons.mpr ⟨ck_X11_lineOf, List.forall_mem_cons.mpr ⟨ck_X11_lineMany, List.forall_mem_cons.mpr ⟨ck_X11_cornerOf, List.forall_mem_cons.mpr ⟨ck_X11_endOf, List.forall_mem_cons.mpr ⟨ck_X11_held, List.forall_mem_cons.mpr ⟨ck_X11_roundOf, fun _ h => absurd h List.not_mem_nil⟩⟩⟩⟩⟩⟩⟩⟩⟩⟩⟩⟩⟩⟩⟩⟩⟩⟩⟩⟩
def a_mt_10 : List aT := [mt_X11_feed, mt_X11_end, mt_X11_skip, mt_X11_isSign, mt_X11_has, mt_X11_wrong, mt_X11_figures, mt_X11_rests0, mt_X11_lineTold, mt_X11_boardLine, mt_X11_begins, mt_X11_board, mt_X11_fault, mt_X11_by, mt_X11_turn, mt_X11_line, mt_X11_remembers, mt_X11_done, mt_X11_set, mt_X11_round]
theorem a_mt_ok_10 : ∀ m ∈ a_mt_10, a_ckM m = true := List.forall_mem_cons.mpr ⟨ck_X11_feed, List.forall_mem_cons.mpr ⟨ck_X11_end, List.forall_mem_cons.mpr ⟨ck_X11_skip, List.forall_mem_cons.mpr ⟨ck_X11_isSign, List.forall_mem_cons.mpr ⟨ck_X11_has, List.forall_mem_cons.mpr ⟨ck_X11_wrong, List.forall_mem_cons.mpr ⟨ck_X11_figures, List.forall_mem_cons.mpr ⟨ck_X11_rests0, List.forall_mem_cons.mpr ⟨ck_X11_lineTold, List.forall_mem_cons.mpr ⟨ck_X11_boardLine, List.forall_mem_cons.mpr ⟨ck_X11_begins, List.forall_mem_cons.mpr ⟨ck_X11_board, List.forall_mem_cons.mpr ⟨ck_X11_fault, List.forall_mem_cons.mpr ⟨ck_X11_by, List.forall_mem_cons.mpr ⟨ck_X11_turn, List.forall_mem_cons.mpr ⟨ck_X11_line, List.forall_mem_cons.mpr ⟨ck_X11_remembers, List.forall_mem_cons.mpr ⟨ck_X11_done, List.forall_mem_cons.mpr ⟨ck_X11_set, List.forall_mem_cons.mpr ⟨ck_X11_round, fun _ h => absurd h List.not_mem_nil⟩⟩⟩⟩⟩⟩⟩⟩⟩⟩⟩⟩⟩⟩⟩⟩⟩⟩⟩⟩
def a_mt_11 : List aT := [mt_X11_frame, mt_X11_undo, mt_X11_redo, mt_X11_goes, mt_X11_walks, mt_X11_isClosed, mt_X11_walk, mt_X11_worthNow, mt_X11_worth, mt_X11_turnedNow, mt_X11_turned, mt_X11_alike, mt_X11_isAlikeBy, mt_X11_weightOf, mt_X11_folds0, mt_X11_foldsSquare, mt_X11_foldsAll, mt_X11_byShape, mt_X11_sum, mt_X11_states]
theorem a_mt_ok_11 : ∀ m ∈ a_mt_11, a_ckM m = true := List.forall_mem_cons.mpr ⟨ck_X11_frame, List.forall_mem_cons.mpr ⟨ck_X11_undo, List.forall_mem_cons.mpr ⟨ck_X11_redo, List.forall_mem_cons.mpr ⟨ck_X11_goes, List.forall_mem_cons.mpr ⟨ck_X11_walks, List.forall_mem_cons.mpr ⟨ck_X11_isClosed, List.forall_mem_cons.mpr ⟨ck_X11_walk, List.forall_mem_cons.mpr ⟨ck_X11_worthNow, List.forall_mem_cons.mpr ⟨ck_X11_worth, List.forall_mem_cons.mpr ⟨ck_X11_turnedNow, List.forall_mem_cons.mpr ⟨ck_X11_turned, List.forall_mem_cons.mpr ⟨ck_X11_alike, List.forall_mem_cons.mpr ⟨ck_X11_isAlikeBy, List.forall_mem_cons.mpr ⟨ck_X11_weightOf, List.forall_mem_cons.mpr ⟨ck_X11_folds0, List.forall_mem_cons.mpr ⟨ck_X11_foldsSquare, List.forall_mem_cons.mpr ⟨ck_X11_foldsAll, List.forall_mem_cons.mpr ⟨ck_X11_byShape, List.forall_mem_cons.mpr ⟨ck_X11_sum, List.forall_mem_cons.mpr ⟨ck_X11_states, fun _ h => absurd h List.not_mem_nil⟩⟩⟩⟩⟩⟩⟩⟩⟩⟩⟩⟩⟩⟩⟩⟩⟩⟩⟩⟩
def a_mt_12 : List aT := [mt_X11_frees, mt_X11_lists, mt_X11_listed, mt_X11_isRing, mt_X11_isWithin, mt_X11_isClockwise, mt_X11_mean, mt_X11_areLike, mt_X11_rests, mt_X11_foldsPart, mt_X11_body, mt_X11_dualOf, mt_X11_dual, mt_X11_dualSum, mt_X11_draw, mt_X11_image, mt_X11_back, mt_X11_count, mt_J6_bitCount_0f7a4, mt_J9_max_7cf53]
theorem a_mt_ok_12 : ∀ m ∈ a_mt_12, a_ckM m = true := List.forall_mem_cons.mpr ⟨ck_X11_frees, List.forall_mem_cons.mpr ⟨ck_X11_lists, List.forall_mem_cons.mpr ⟨ck_X11_listed, List.forall_mem_cons.mpr ⟨ck_X11_isRing, List.forall_mem_cons.mpr ⟨ck_X11_isWithin, List.forall_mem_cons.mpr ⟨ck_X11_isClockwise, List.forall_mem_cons.mpr ⟨ck_X11_mean, List.forall_mem_cons.mpr ⟨ck_X11_areLike, List.forall_mem_cons.mpr ⟨ck_X11_rests, List.forall_mem_cons.mpr ⟨ck_X11_foldsPart, List.forall_mem_cons.mpr ⟨ck_X11_body, List.forall_mem_cons.mpr ⟨ck_X11_dualOf, List.forall_mem_cons.mpr ⟨ck_X11_dual, List.forall_mem_cons.mpr ⟨ck_X11_dualSum, List.forall_mem_cons.mpr ⟨ck_X11_draw, List.forall_mem_cons.mpr ⟨ck_X11_image, List.forall_mem_cons.mpr ⟨ck_X11_back, List.forall_mem_cons.mpr ⟨ck_X11_count, List.forall_mem_cons.mpr ⟨ck_J6_bitCount_0f7a4, List.forall_mem_cons.mpr ⟨ck_J9_max_7cf53, fun _ h => absurd h List.not_mem_nil⟩⟩⟩⟩⟩⟩⟩⟩⟩⟩⟩⟩⟩⟩⟩⟩⟩⟩⟩⟩
set_option maxRecDepth 100000 in
theorem a_mt_eq : a_mt = a_mt_0 ++ (a_mt_1 ++ (a_mt_2 ++ (a_mt_3 ++ (a_mt_4 ++ (a_mt_5 ++ (a_mt_6 ++ (a_mt_7 ++ (a_mt_8 ++ (a_mt_9 ++ (a_mt_10 ++ (a_mt_11 ++ (a_mt_12)))))))))))) := rfl
theorem a_mt_ok : ∀ m ∈ a_mt, a_ckM m = true := by
  rw [a_mt_eq]
  exact List.forall_mem_append.mpr ⟨a_mt_ok_0, List.forall_mem_append.mpr ⟨a_mt_ok_1, List.forall_mem_append.mpr ⟨a_mt_ok_2, List.forall_mem_append.mpr ⟨a_mt_ok_3, List.forall_mem_append.mpr ⟨a_mt_ok_4, List.forall_mem_append.mpr ⟨a_mt_ok_5, List.forall_mem_append.mpr ⟨a_mt_ok_6, List.forall_mem_append.mpr ⟨a_mt_ok_7, List.forall_mem_append.mpr ⟨a_mt_ok_8, List.forall_mem_append.mpr ⟨a_mt_ok_9, List.forall_mem_append.mpr ⟨a_mt_ok_10, List.forall_mem_append.mpr ⟨a_mt_ok_11, a_mt_ok_12⟩⟩⟩⟩⟩⟩⟩⟩⟩⟩⟩⟩
