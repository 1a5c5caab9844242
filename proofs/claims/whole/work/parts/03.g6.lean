set_option maxRecDepth 20000 in
theorem ggX0_solve_X0_mostFrom : GoodIn wsX0_solve wsX0_mostFrom := goodIn_r _ [7, 8, 9, 10, 11, 4, 5, 6, 12, 13, 14] (by decide +kernel) (by decide +kernel)
set_option maxRecDepth 20000 in
theorem gX0_solve_X0_mostFrom : GoodIn wsX0_solve (va_wsS RX0 22 yX0_mostFrom wsX0_mostFrom) := goodIn_app (goodIn_of _ (by decide +kernel)) ggX0_solve_X0_mostFrom
set_option maxRecDepth 20000 in
theorem ggX0_solve_X0_firstBestPick : GoodIn wsX0_solve wsX0_firstBestPick := goodIn_r _ [18, 1, 4, 5, 6, 7, 8, 9, 10, 11, 12, 13, 14, 19, 20, 21] (by decide +kernel) (by decide +kernel)
set_option maxRecDepth 20000 in
theorem gX0_solve_X0_firstBestPick : GoodIn wsX0_solve (wsV RX0 26 RX0 yX0_firstBestPick wsX0_firstBestPick) := goodIn_app (goodIn_of _ (by decide +kernel)) ggX0_solve_X0_firstBestPick
set_option maxRecDepth 20000 in
theorem ggX0_firstBestPick_X0_mostFrom : GoodIn wsX0_firstBestPick wsX0_mostFrom := goodIn_r _ [5, 6, 7, 8, 9, 2, 3, 4, 10, 11, 12] (by decide +kernel) (by decide +kernel)
set_option maxRecDepth 20000 in
theorem gX0_firstBestPick_X0_mostFrom : GoodIn wsX0_firstBestPick (va_wsS RX0 22 yX0_mostFrom wsX0_mostFrom) := goodIn_app (goodIn_of _ (by decide +kernel)) ggX0_firstBestPick_X0_mostFrom
set_option maxRecDepth 20000 in
theorem ggX0_firstBestPick_X6_has : GoodIn wsX0_firstBestPick wsX6_has := goodIn_r _ [12] (by decide +kernel) (by decide +kernel)
set_option maxRecDepth 20000 in
theorem gX0_firstBestPick_X6_has_n30 : GoodIn wsX0_firstBestPick (wsX6_has) := ggX0_firstBestPick_X6_has
set_option maxRecDepth 20000 in
theorem ggX0_mostFrom_X0_mostFrom : GoodIn wsX0_mostFrom wsX0_mostFrom := goodIn_r _ [0, 1, 2, 3, 4, 5, 6, 7, 8, 9, 10] (by decide +kernel) (by decide +kernel)
set_option maxRecDepth 20000 in
theorem gX0_mostFrom_X0_mostFrom : GoodIn wsX0_mostFrom (va_wsS RX0 22 yX0_mostFrom wsX0_mostFrom) := goodIn_app (goodIn_of _ (by decide +kernel)) ggX0_mostFrom_X0_mostFrom
set_option maxRecDepth 20000 in
theorem ggX0_mostFrom_X6_has : GoodIn wsX0_mostFrom wsX6_has := goodIn_r _ [10] (by decide +kernel) (by decide +kernel)
set_option maxRecDepth 20000 in
theorem gX0_mostFrom_X6_has_n30 : GoodIn wsX0_mostFrom (wsX6_has) := ggX0_mostFrom_X6_has
set_option maxRecDepth 20000 in
theorem ggX2_init_X3_init : GoodIn wsX2_init wsX3_init := goodIn_r _ [12, 13, 2, 3, 14, 15, 16, 17, 18, 19, 20, 21, 22] (by decide +kernel) (by decide +kernel)
set_option maxRecDepth 20000 in
theorem gX2_init_X3_init_n11 : GoodIn wsX2_init (wsX3_init) := ggX2_init_X3_init
set_option maxRecDepth 20000 in
theorem ggX2_read_X3_clear : GoodIn wsX2_read wsX3_clear := goodIn_r _ [9, 10, 11, 145, 146, 147, 148] (by decide +kernel) (by decide +kernel)
set_option maxRecDepth 20000 in
theorem gX2_read_X3_clear : GoodIn wsX2_read (wsV RX2 28 RX3 yX3_clear wsX3_clear) := goodIn_app (goodIn_of _ (by decide +kernel)) ggX2_read_X3_clear
set_option maxRecDepth 20000 in
theorem ggX2_read_X2_startPart : GoodIn wsX2_read wsX2_startPart := goodIn_r _ [16, 17, 18, 139, 140, 141, 142] (by decide +kernel) (by decide +kernel)
set_option maxRecDepth 20000 in
theorem gX2_read_X2_startPart : GoodIn wsX2_read (wsV RX2 31 RX2 yX2_startPart wsX2_startPart) := goodIn_app (goodIn_of _ (by decide +kernel)) ggX2_read_X2_startPart
set_option maxRecDepth 20000 in
theorem ggX2_read_X2_takes : GoodIn wsX2_read wsX2_takes := goodIn_r _ [22, 2, 23, 24, 25, 15, 26, 17, 18, 1, 27, 12, 13, 14, 16, 28, 29, 30, 31, 32, 33, 34, 35, 36, 37, 38, 39, 40, 41, 42, 43, 44, 45, 46, 47, 48, 49, 50, 51, 52, 53, 54, 55, 56, 57, 58, 59, 60, 61, 62, 63, 64, 65, 66, 67, 68, 69, 70, 71, 72, 73, 74, 75, 76, 77, 78, 79, 80, 81, 82, 83, 84, 85, 86, 87, 88, 89, 90, 91, 92, 93, 94, 95, 96, 97, 98, 99, 100, 101, 102, 103, 104, 105, 106, 107, 108, 109, 110, 111, 112, 113, 114, 115, 116, 117, 118, 119, 120, 121, 122, 123, 124, 125, 126, 127, 128, 129, 130, 131, 132, 133, 134, 135, 136, 137, 138, 139, 140, 141, 142, 145, 146, 147, 148] (by decide +kernel) (by decide +kernel)
set_option maxRecDepth 20000 in
theorem gX2_read_X2_takes : GoodIn wsX2_read (wsV RX2 43 RX2 yX2_takes wsX2_takes) := goodIn_app (goodIn_of _ (by decide +kernel)) ggX2_read_X2_takes
set_option maxRecDepth 20000 in
theorem ggX2_takes_X2_takesInOpening : GoodIn wsX2_takes wsX2_takesInOpening := goodIn_r _ [6, 1, 7, 8, 9, 10, 11, 12, 13, 5, 14, 15, 16, 17, 126, 127, 128, 129, 130, 131, 132, 133] (by decide +kernel) (by decide +kernel)
set_option maxRecDepth 20000 in
theorem gX2_takes_X2_takesInOpening : GoodIn wsX2_takes (wsV RX2 50 RX2 yX2_takesInOpening wsX2_takesInOpening) := goodIn_app (goodIn_of _ (by decide +kernel)) ggX2_takes_X2_takesInOpening
set_option maxRecDepth 20000 in
theorem ggX2_takes_X2_takesInSpeaker : GoodIn wsX2_takes wsX2_takesInSpeaker := goodIn_r _ [21, 7, 22, 23, 24, 25, 26, 27, 28, 29, 30, 31, 32, 33, 34, 35, 36, 37, 38, 39, 40, 41, 42, 43, 44, 45, 46, 47, 48, 49, 50, 51, 52, 53, 54, 55, 56, 57, 58, 59, 60, 61, 62, 63, 64, 65, 66, 67, 68, 69, 70, 71, 72, 73, 74, 75, 76, 77, 78, 79, 80, 81, 82, 83, 84, 85, 86, 87, 88, 89, 90, 91, 92, 93, 94, 95, 96, 97, 98, 99, 100, 101, 102, 103, 104, 105, 106, 107, 108, 109, 110, 111, 112, 113, 5, 114, 9, 115, 116, 117, 118, 119, 120, 121, 15, 16, 17, 122, 123, 124, 125, 11, 12, 13, 14, 8, 126, 127, 128, 129, 130, 131, 132, 133] (by decide +kernel) (by decide +kernel)
set_option maxRecDepth 20000 in
theorem gX2_takes_X2_takesInSpeaker : GoodIn wsX2_takes (wsV RX2 53 RX2 yX2_takesInSpeaker wsX2_takesInSpeaker) := goodIn_app (goodIn_of _ (by decide +kernel)) ggX2_takes_X2_takesInSpeaker
set_option maxRecDepth 20000 in
theorem ggX2_takesInOpening_X2_startPart : GoodIn wsX2_takesInOpening wsX2_startPart := goodIn_r _ [10, 2, 3, 14, 15, 16, 17] (by decide +kernel) (by decide +kernel)
set_option maxRecDepth 20000 in
theorem gX2_takesInOpening_X2_startPart : GoodIn wsX2_takesInOpening (wsV RX2 31 RX2 yX2_startPart wsX2_startPart) := goodIn_app (goodIn_of _ (by decide +kernel)) ggX2_takesInOpening_X2_startPart
set_option maxRecDepth 20000 in
theorem ggX2_takesInOpening_X6_isEnding : GoodIn wsX2_takesInOpening wsX6_isEnding := goodIn_r _ [13] (by decide +kernel) (by decide +kernel)
set_option maxRecDepth 20000 in
theorem gX2_takesInOpening_X6_isEnding_n56 : GoodIn wsX2_takesInOpening (wsX6_isEnding) := ggX2_takesInOpening_X6_isEnding
set_option maxRecDepth 20000 in
theorem ggX2_takesInSpeaker_J0_indexOf_0f7a4 : GoodIn wsX2_takesInSpeaker wsJ0_indexOf_0f7a4 := goodIn_r _ [6, 7, 8, 9, 5, 10, 11, 12, 13, 14, 15, 16, 17, 18, 19, 20, 21, 22, 23, 24, 25, 26, 27, 28, 29, 30, 31, 32, 33, 34, 35, 36, 37, 38, 39, 40, 41, 42, 43, 44, 45, 46, 47, 48, 49, 50, 51, 52, 53, 54, 55, 56, 57, 58, 59, 60, 61, 62, 63, 64, 65, 66, 67, 68, 69, 70, 71, 72, 73, 74, 75, 76, 77, 78, 79, 80, 81, 82, 83, 84, 85, 86, 87, 88, 89, 90] (by decide +kernel) (by decide +kernel)
set_option maxRecDepth 20000 in
theorem gX2_takesInSpeaker_J0_indexOf_0f7a4 : GoodIn wsX2_takesInSpeaker (wsV RX2 64 RJ0 yJ0_indexOf_0f7a4 wsJ0_indexOf_0f7a4) := goodIn_app (goodIn_of _ (by decide +kernel)) ggX2_takesInSpeaker_J0_indexOf_0f7a4
set_option maxRecDepth 20000 in
theorem ggX2_takesInSpeaker_X2_takesKind : GoodIn wsX2_takesInSpeaker wsX2_takesKind := goodIn_r _ [95, 96, 97, 98, 1, 116, 117, 118, 119, 120, 121, 122, 123] (by decide +kernel) (by decide +kernel)
set_option maxRecDepth 20000 in
theorem gX2_takesInSpeaker_X2_takesKind : GoodIn wsX2_takesInSpeaker (wsV RX2 70 RX2 yX2_takesKind wsX2_takesKind) := goodIn_app (goodIn_of _ (by decide +kernel)) ggX2_takesInSpeaker_X2_takesKind
set_option maxRecDepth 20000 in
theorem ggX2_takesInSpeaker_X2_takesWant : GoodIn wsX2_takesInSpeaker wsX2_takesWant := goodIn_r _ [102, 96, 97, 103, 1, 104, 105, 106, 116, 117, 118, 119, 120, 121, 122, 123] (by decide +kernel) (by decide +kernel)
set_option maxRecDepth 20000 in
theorem gX2_takesInSpeaker_X2_takesWant : GoodIn wsX2_takesInSpeaker (wsV RX2 73 RX2 yX2_takesWant wsX2_takesWant) := goodIn_app (goodIn_of _ (by decide +kernel)) ggX2_takesInSpeaker_X2_takesWant
set_option maxRecDepth 20000 in
theorem ggX2_takesInSpeaker_X2_takesNextSpeaker : GoodIn wsX2_takesInSpeaker wsX2_takesNextSpeaker := goodIn_r _ [110, 96, 97, 111, 112, 113, 94, 114, 1, 115, 116, 117, 118, 119, 120, 121, 122, 123] (by decide +kernel) (by decide +kernel)
set_option maxRecDepth 20000 in
theorem gX2_takesInSpeaker_X2_takesNextSpeaker : GoodIn wsX2_takesInSpeaker (wsV RX2 76 RX2 yX2_takesNextSpeaker wsX2_takesNextSpeaker) := goodIn_app (goodIn_of _ (by decide +kernel)) ggX2_takesInSpeaker_X2_takesNextSpeaker
set_option maxRecDepth 20000 in
theorem ggX2_takesWant_X6_isEnding : GoodIn wsX2_takesWant wsX6_isEnding := goodIn_r _ [7] (by decide +kernel) (by decide +kernel)
set_option maxRecDepth 20000 in
theorem gX2_takesWant_X6_isEnding_n56 : GoodIn wsX2_takesWant (wsX6_isEnding) := ggX2_takesWant_X6_isEnding
set_option maxRecDepth 20000 in
theorem ggX2_takesNextSpeaker_X2_startPart : GoodIn wsX2_takesNextSpeaker wsX2_startPart := goodIn_r _ [7, 8, 9, 10, 11, 12, 13] (by decide +kernel) (by decide +kernel)
set_option maxRecDepth 20000 in
theorem gX2_takesNextSpeaker_X2_startPart : GoodIn wsX2_takesNextSpeaker (wsV RX2 31 RX2 yX2_startPart wsX2_startPart) := goodIn_app (goodIn_of _ (by decide +kernel)) ggX2_takesNextSpeaker_X2_startPart
set_option maxRecDepth 20000 in
theorem ggX4_isAsWanted_X4_isOpen : GoodIn wsX4_isAsWanted wsX4_isOpen := goodIn_r _ [8, 9, 10, 11, 12, 13, 14, 15, 16, 17, 18, 19, 20] (by decide +kernel) (by decide +kernel)
set_option maxRecDepth 20000 in
theorem gX4_isAsWanted_X4_isOpen : GoodIn wsX4_isAsWanted (wsV RX4 52 RX4 yX4_isOpen wsX4_isOpen) := goodIn_app (goodIn_of _ (by decide +kernel)) ggX4_isAsWanted_X4_isOpen
set_option maxRecDepth 20000 in
theorem ggX4_openOf_X4_isOpen : GoodIn wsX4_openOf wsX4_isOpen := goodIn_r _ [7, 8, 9, 10, 11, 12, 13, 14, 15, 16, 17, 18, 19] (by decide +kernel) (by decide +kernel)
set_option maxRecDepth 20000 in
theorem gX4_openOf_X4_isOpen : GoodIn wsX4_openOf (wsV RX4 52 RX4 yX4_isOpen wsX4_isOpen) := goodIn_app (goodIn_of _ (by decide +kernel)) ggX4_openOf_X4_isOpen
set_option maxRecDepth 20000 in
theorem ggX4_howManyOpen_X4_howManyEndedBy : GoodIn wsX4_howManyOpen wsX4_howManyEndedBy := goodIn_r _ [5, 6, 7, 8, 9, 10, 11, 12, 13, 14, 15, 16, 17, 18] (by decide +kernel) (by decide +kernel)
set_option maxRecDepth 20000 in
theorem gX4_howManyOpen_X4_howManyEndedBy : GoodIn wsX4_howManyOpen (wsV RX4 56 RX4 yX4_howManyEndedBy wsX4_howManyEndedBy) := goodIn_app (goodIn_of _ (by decide +kernel)) ggX4_howManyOpen_X4_howManyEndedBy
set_option maxRecDepth 20000 in
theorem ggX4_howManyAsWanted_X4_isAsWanted : GoodIn wsX4_howManyAsWanted wsX4_isAsWanted := goodIn_r _ [6, 7, 8, 9, 10, 11, 12, 5, 13, 14, 15, 16, 17, 18, 19, 20, 21, 22, 23, 24, 25] (by decide +kernel) (by decide +kernel)
set_option maxRecDepth 20000 in
theorem gX4_howManyAsWanted_X4_isAsWanted : GoodIn wsX4_howManyAsWanted (wsV RX4 60 RX4 yX4_isAsWanted wsX4_isAsWanted) := goodIn_app (goodIn_of _ (by decide +kernel)) ggX4_howManyAsWanted_X4_isAsWanted
set_option maxRecDepth 20000 in
theorem ggX4_howManyUnlikeEndings_X4_usedBy : GoodIn wsX4_howManyUnlikeEndings wsX4_usedBy := goodIn_r _ [5, 6, 7, 8, 16, 17, 18, 19, 20, 21, 22, 23, 24, 25, 26] (by decide +kernel) (by decide +kernel)
set_option maxRecDepth 20000 in
theorem gX4_howManyUnlikeEndings_X4_usedBy : GoodIn wsX4_howManyUnlikeEndings (wsV RX4 63 RX4 yX4_usedBy wsX4_usedBy) := goodIn_app (goodIn_of _ (by decide +kernel)) ggX4_howManyUnlikeEndings_X4_usedBy
set_option maxRecDepth 20000 in
theorem ggX4_howManyUnlikeEndings_J6_bitCount_0f7a4 : GoodIn wsX4_howManyUnlikeEndings wsJ6_bitCount_0f7a4 := goodIn_r _ [12, 13, 14, 15] (by decide +kernel) (by decide +kernel)
set_option maxRecDepth 20000 in
theorem gX4_howManyUnlikeEndings_J6_bitCount_0f7a4 : GoodIn wsX4_howManyUnlikeEndings (va_wsS RX4 66 yJ6_bitCount_0f7a4 wsJ6_bitCount_0f7a4) := goodIn_app (goodIn_of _ (by decide +kernel)) ggX4_howManyUnlikeEndings_J6_bitCount_0f7a4
set_option maxRecDepth 20000 in
theorem ggX5_run_X4_usedBy : GoodIn wsX5_run wsX4_usedBy := goodIn_r _ [9, 10, 11, 12, 46, 47, 48, 49, 50, 51, 52, 53, 54, 55, 56] (by decide +kernel) (by decide +kernel)
set_option maxRecDepth 20000 in
theorem gX5_run_X4_usedBy : GoodIn wsX5_run (wsV RX5 26 RX4 yX4_usedBy wsX4_usedBy) := goodIn_app (goodIn_of _ (by decide +kernel)) ggX5_run_X4_usedBy
set_option maxRecDepth 20000 in
theorem ggX5_run_X5_talkOnce : GoodIn wsX5_run wsX5_talkOnce := goodIn_r _ [17, 18, 19, 20, 21, 4, 2, 3, 22, 23, 24, 16, 25, 26, 1, 27, 28, 29, 30, 31, 32, 33, 34, 35, 36, 37, 38, 39, 40, 41, 57, 58, 59, 60, 46, 47, 48, 49, 50, 51, 52, 53, 54, 55, 56, 42, 43, 44, 45] (by decide +kernel) (by decide +kernel)
set_option maxRecDepth 20000 in
theorem gX5_run_X5_talkOnce : GoodIn wsX5_run (wsV RX5 32 RX5 yX5_talkOnce wsX5_talkOnce) := goodIn_app (goodIn_of _ (by decide +kernel)) ggX5_run_X5_talkOnce
set_option maxRecDepth 20000 in
theorem ggX5_talkOnce_X5_draw : GoodIn wsX5_talkOnce wsX5_draw := goodIn_r _ [12, 13, 14, 15, 16, 17, 45, 46, 47, 48] (by decide +kernel) (by decide +kernel)
set_option maxRecDepth 20000 in
theorem gX5_talkOnce_X5_draw : GoodIn wsX5_talkOnce (wsV RX5 41 RX5 yX5_draw wsX5_draw) := goodIn_app (goodIn_of _ (by decide +kernel)) ggX5_talkOnce_X5_draw
set_option maxRecDepth 20000 in
theorem ggX5_talkOnce_X6_endingBy : GoodIn wsX5_talkOnce wsX6_endingBy := goodIn_r _ [20, 21, 22, 19, 23, 24, 25, 26, 27, 28, 29] (by decide +kernel) (by decide +kernel)
set_option maxRecDepth 20000 in
theorem gX5_talkOnce_X6_endingBy_n53 : GoodIn wsX5_talkOnce (wsX6_endingBy) := ggX5_talkOnce_X6_endingBy
set_option maxRecDepth 20000 in
theorem ggX6_init_X1_init : GoodIn wsX6_init wsX1_init := goodIn_r _ [32, 33, 2, 3, 34, 35, 36, 79, 80] (by decide +kernel) (by decide +kernel)
set_option maxRecDepth 20000 in
theorem gX6_init_X1_init_n9 : GoodIn wsX6_init (wsX1_init) := ggX6_init_X1_init
set_option maxRecDepth 20000 in
theorem ggX6_init_X2_init : GoodIn wsX6_init wsX2_init := goodIn_r _ [38, 39, 2, 3, 40, 13, 14, 41, 42, 43, 44, 45, 46, 47, 34, 48, 49, 50, 51, 94, 95, 96, 97, 90, 91, 92, 93] (by decide +kernel) (by decide +kernel)
set_option maxRecDepth 20000 in
theorem gX6_init_X2_init_n18 : GoodIn wsX6_init (wsX2_init) := ggX6_init_X2_init
set_option maxRecDepth 20000 in
theorem ggX6_init_X3_init : GoodIn wsX6_init wsX3_init := goodIn_r _ [46, 47, 2, 3, 34, 48, 49, 50, 51, 94, 95, 96, 97] (by decide +kernel) (by decide +kernel)
set_option maxRecDepth 20000 in
theorem gX6_init_X3_init_n25 : GoodIn wsX6_init (wsX3_init) := ggX6_init_X3_init
set_option maxRecDepth 20000 in
theorem ggX6_init_X4_init : GoodIn wsX6_init wsX4_init := goodIn_r _ [53, 54, 2, 3, 34, 55, 56, 57, 58, 59, 60, 61, 62, 63, 64, 65, 98, 99, 100, 101, 102, 103, 104, 105, 106, 107, 108] (by decide +kernel) (by decide +kernel)
set_option maxRecDepth 20000 in
theorem gX6_init_X4_init_n32 : GoodIn wsX6_init (wsX4_init) := ggX6_init_X4_init
set_option maxRecDepth 20000 in
theorem ggX6_init_X0_init : GoodIn wsX6_init wsX0_init := goodIn_r _ [67, 68, 2, 3, 34, 69, 70, 71, 109, 110, 111] (by decide +kernel) (by decide +kernel)
set_option maxRecDepth 20000 in
theorem gX6_init_X0_init_n42 : GoodIn wsX6_init (wsX0_init) := ggX6_init_X0_init
set_option maxRecDepth 20000 in
theorem ggX6_init_X5_init : GoodIn wsX6_init wsX5_init := goodIn_r _ [73, 74, 2, 3, 34, 75, 76, 77, 78, 112, 113, 114, 115] (by decide +kernel) (by decide +kernel)
set_option maxRecDepth 20000 in
theorem gX6_init_X5_init_n49 : GoodIn wsX6_init (wsX5_init) := ggX6_init_X5_init
set_option maxRecDepth 20000 in
theorem ggX6_letter_X1_add : GoodIn wsX6_letter wsX1_add := goodIn_r _ [7, 8, 9, 19, 20] (by decide +kernel) (by decide +kernel)
set_option maxRecDepth 20000 in
theorem gX6_letter_X1_add : GoodIn wsX6_letter (wsV RX6 65 RX1 yX1_add wsX1_add) := goodIn_app (goodIn_of _ (by decide +kernel)) ggX6_letter_X1_add
set_option maxRecDepth 20000 in
theorem ggX6_fault_X2_read : GoodIn wsX6_fault wsX2_read := goodIn_r _ [7, 8, 9, 10, 11, 12, 13, 14, 15, 16, 17, 18, 19, 20, 21, 6, 22, 23, 24, 25, 26, 27, 28, 29, 30, 31, 32, 33, 34, 35, 36, 37, 38, 39, 40, 41, 42, 43, 44, 45, 46, 47, 48, 49, 50, 51, 52, 53, 54, 55, 56, 57, 58, 59, 60, 61, 62, 63, 64, 65, 66, 67, 68, 69, 70, 71, 72, 73, 74, 75, 76, 77, 78, 79, 80, 81, 82, 83, 84, 85, 86, 87, 88, 89, 90, 91, 92, 93, 94, 95, 96, 97, 98, 99, 100, 101, 102, 103, 104, 105, 106, 107, 108, 109, 110, 111, 112, 113, 114, 115, 116, 117, 118, 119, 120, 121, 122, 123, 124, 125, 126, 127, 128, 129, 130, 131, 132, 133, 134, 135, 136, 137, 138, 139, 140, 141, 142, 143, 144, 154, 155, 156, 157, 158, 159, 160, 161, 162, 163] (by decide +kernel) (by decide +kernel)
set_option maxRecDepth 20000 in
theorem gX6_fault_X2_read : GoodIn wsX6_fault (wsV RX6 69 RX2 yX2_read wsX2_read) := goodIn_app (goodIn_of _ (by decide +kernel)) ggX6_fault_X2_read
set_option maxRecDepth 20000 in
theorem ggX6_room_X2_read : GoodIn wsX6_room wsX2_read := goodIn_r _ [15, 16, 17, 18, 19, 20, 21, 22, 23, 24, 25, 26, 27, 28, 29, 14, 30, 31, 32, 33, 34, 35, 36, 37, 38, 39, 40, 41, 42, 43, 44, 45, 46, 47, 48, 49, 50, 51, 52, 53, 54, 55, 56, 57, 58, 59, 60, 61, 62, 63, 64, 65, 66, 67, 68, 69, 70, 71, 72, 73, 74, 75, 76, 77, 78, 79, 80, 81, 82, 83, 84, 85, 86, 87, 88, 89, 90, 91, 92, 93, 94, 95, 96, 97, 98, 99, 100, 101, 102, 103, 104, 105, 106, 107, 108, 109, 110, 111, 112, 113, 114, 115, 116, 117, 118, 119, 120, 121, 122, 123, 124, 125, 126, 127, 128, 129, 130, 131, 132, 133, 134, 135, 136, 137, 138, 139, 140, 141, 142, 143, 144, 145, 146, 147, 148, 149, 150, 151, 152, 188, 189, 190, 191, 186, 187, 192, 193, 194, 195] (by decide +kernel) (by decide +kernel)
set_option maxRecDepth 20000 in
theorem gX6_room_X2_read : GoodIn wsX6_room (wsV RX6 69 RX2 yX2_read wsX2_read) := goodIn_app (goodIn_of _ (by decide +kernel)) ggX6_room_X2_read
set_option maxRecDepth 20000 in
theorem ggX6_room_X2_hasWholeRoom : GoodIn wsX6_room wsX2_hasWholeRoom := goodIn_r _ [156, 16, 142, 31, 188, 189, 190, 191, 192, 193, 194, 195] (by decide +kernel) (by decide +kernel)
set_option maxRecDepth 20000 in
theorem gX6_room_X2_hasWholeRoom : GoodIn wsX6_room (wsV RX6 73 RX2 yX2_hasWholeRoom wsX2_hasWholeRoom) := goodIn_app (goodIn_of _ (by decide +kernel)) ggX6_room_X2_hasWholeRoom
set_option maxRecDepth 20000 in
theorem ggX6_room_X3_copyFrom : GoodIn wsX6_room wsX3_copyFrom := goodIn_r _ [160, 25, 161, 162, 163, 164, 165, 166, 26, 192, 193, 194, 195] (by decide +kernel) (by decide +kernel)
set_option maxRecDepth 20000 in
theorem gX6_room_X3_copyFrom : GoodIn wsX6_room (wsV RX6 80 RX3 yX3_copyFrom wsX3_copyFrom) := goodIn_app (goodIn_of _ (by decide +kernel)) ggX6_room_X3_copyFrom
set_option maxRecDepth 20000 in
theorem ggX6_room_X4_start : GoodIn wsX6_room wsX4_start := goodIn_r _ [171, 172, 173, 162, 163, 164, 174, 175, 176, 196, 197, 198, 199, 200, 201, 202, 203, 204, 205, 206] (by decide +kernel) (by decide +kernel)
set_option maxRecDepth 20000 in
theorem gX6_room_X4_start : GoodIn wsX6_room (wsV RX6 88 RX4 yX4_start wsX4_start) := goodIn_app (goodIn_of _ (by decide +kernel)) ggX6_room_X4_start
set_option maxRecDepth 20000 in
theorem ggX6_fits_X6_isOpening : GoodIn wsX6_fits wsX6_isOpening := goodIn_r _ [7] (by decide +kernel) (by decide +kernel)
set_option maxRecDepth 20000 in
theorem gX6_fits_X6_isOpening : GoodIn wsX6_fits (va_wsS RX6 95 yX6_isOpening wsX6_isOpening) := goodIn_app (goodIn_of _ (by decide +kernel)) ggX6_fits_X6_isOpening
set_option maxRecDepth 20000 in
theorem ggX6_about_X6_isSpeaker : GoodIn wsX6_about wsX6_isSpeaker := goodIn_r _ [9, 1, 10, 85, 86, 87, 88, 89, 90, 91, 92, 93, 94, 95, 96, 97] (by decide +kernel) (by decide +kernel)
set_option maxRecDepth 20000 in
theorem gX6_about_X6_isSpeaker : GoodIn wsX6_about (wsV RX6 102 RX6 yX6_isSpeaker wsX6_isSpeaker) := goodIn_app (goodIn_of _ (by decide +kernel)) ggX6_about_X6_isSpeaker
set_option maxRecDepth 20000 in
theorem ggX6_about_X4_usedBy : GoodIn wsX6_about wsX4_usedBy := goodIn_r _ [15, 16, 17, 18, 98, 99, 100, 101, 102, 103, 104, 105, 106, 107, 108] (by decide +kernel) (by decide +kernel)
set_option maxRecDepth 20000 in
theorem gX6_about_X4_usedBy : GoodIn wsX6_about (wsV RX6 109 RX4 yX4_usedBy wsX4_usedBy) := goodIn_app (goodIn_of _ (by decide +kernel)) ggX6_about_X4_usedBy
set_option maxRecDepth 20000 in
theorem ggX6_about_X4_openOf : GoodIn wsX6_about wsX4_openOf := goodIn_r _ [22, 16, 23, 24, 25, 26, 14, 27, 17, 98, 99, 100, 101, 102, 103, 104, 105, 106, 107, 108] (by decide +kernel) (by decide +kernel)
set_option maxRecDepth 20000 in
theorem gX6_about_X4_openOf : GoodIn wsX6_about (wsV RX6 113 RX4 yX4_openOf wsX4_openOf) := goodIn_app (goodIn_of _ (by decide +kernel)) ggX6_about_X4_openOf
set_option maxRecDepth 20000 in
theorem ggX6_about_X4_howManyBegunBy : GoodIn wsX6_about wsX4_howManyBegunBy := goodIn_r _ [31, 16, 23, 98, 99, 100, 101, 102, 103, 104, 105, 106, 107, 108] (by decide +kernel) (by decide +kernel)
set_option maxRecDepth 20000 in
theorem gX6_about_X4_howManyBegunBy : GoodIn wsX6_about (wsV RX6 116 RX4 yX4_howManyBegunBy wsX4_howManyBegunBy) := goodIn_app (goodIn_of _ (by decide +kernel)) ggX6_about_X4_howManyBegunBy
set_option maxRecDepth 20000 in
theorem ggX6_about_X4_howManyEndedBy : GoodIn wsX6_about wsX4_howManyEndedBy := goodIn_r _ [35, 16, 17, 98, 99, 100, 101, 102, 103, 104, 105, 106, 107, 108] (by decide +kernel) (by decide +kernel)
set_option maxRecDepth 20000 in
theorem gX6_about_X4_howManyEndedBy : GoodIn wsX6_about (wsV RX6 119 RX4 yX4_howManyEndedBy wsX4_howManyEndedBy) := goodIn_app (goodIn_of _ (by decide +kernel)) ggX6_about_X4_howManyEndedBy
set_option maxRecDepth 20000 in
theorem ggX6_about_X6_sureOpening : GoodIn wsX6_about wsX6_sureOpening := goodIn_r _ [39, 40, 41, 42, 8, 43, 1, 10, 3, 4, 44, 45, 46, 47, 2, 48, 11, 12, 13, 14, 15, 16, 17, 18, 49, 50, 51, 52, 53, 54, 55, 56, 57, 58, 59, 60, 85, 86, 87, 88, 89, 90, 91, 92, 93, 94, 95, 96, 97, 98, 99, 100, 101, 102, 103, 104, 105, 106, 107, 108] (by decide +kernel) (by decide +kernel)
set_option maxRecDepth 20000 in
theorem gX6_about_X6_sureOpening : GoodIn wsX6_about (wsV RX6 122 RX6 yX6_sureOpening wsX6_sureOpening) := goodIn_app (goodIn_of _ (by decide +kernel)) ggX6_about_X6_sureOpening
set_option maxRecDepth 20000 in
theorem ggX6_about_X6_possibleKinds : GoodIn wsX6_about wsX6_possibleKinds := goodIn_r _ [64, 65, 66, 67, 8, 68, 3, 69, 70, 1, 48, 71, 4, 72, 49, 50, 51, 52, 53, 54, 55, 56, 57, 58, 59, 60, 85, 86, 87, 88, 89, 90, 91, 92, 93, 98, 99, 100, 101, 102, 103, 104, 105, 106, 107, 108, 94, 95, 96, 97] (by decide +kernel) (by decide +kernel)
set_option maxRecDepth 20000 in
theorem gX6_about_X6_possibleKinds : GoodIn wsX6_about (wsV RX6 125 RX6 yX6_possibleKinds wsX6_possibleKinds) := goodIn_app (goodIn_of _ (by decide +kernel)) ggX6_about_X6_possibleKinds
set_option maxRecDepth 20000 in
theorem ggX6_about_X6_tellingOpening : GoodIn wsX6_about wsX6_tellingOpening := goodIn_r _ [76, 77, 78, 79, 8, 80, 1, 48, 3, 4, 81, 82, 83, 84, 52, 53, 54, 49, 50, 51, 55, 56, 57, 58, 59, 60, 85, 86, 87, 88, 89, 90, 91, 92, 93, 94, 95, 96, 97, 98, 99, 100, 101, 102, 103, 104, 105, 106, 107, 108] (by decide +kernel) (by decide +kernel)
set_option maxRecDepth 20000 in
theorem gX6_about_X6_tellingOpening : GoodIn wsX6_about (wsV RX6 128 RX6 yX6_tellingOpening wsX6_tellingOpening) := goodIn_app (goodIn_of _ (by decide +kernel)) ggX6_about_X6_tellingOpening
set_option maxRecDepth 20000 in
theorem ggX6_as_X6_isSpeaker : GoodIn wsX6_as wsX6_isSpeaker := goodIn_r _ [7, 1, 8, 12, 13, 14, 15, 16, 17, 18, 19, 20, 21, 22, 23, 24] (by decide +kernel) (by decide +kernel)
set_option maxRecDepth 20000 in
theorem gX6_as_X6_isSpeaker : GoodIn wsX6_as (wsV RX6 102 RX6 yX6_isSpeaker wsX6_isSpeaker) := goodIn_app (goodIn_of _ (by decide +kernel)) ggX6_as_X6_isSpeaker
set_option maxRecDepth 20000 in
theorem ggX6_as_X6_isOfKind : GoodIn wsX6_as wsX6_isOfKind := goodIn_r _ [11] (by decide +kernel) (by decide +kernel)
set_option maxRecDepth 20000 in
theorem gX6_as_X6_isOfKind : GoodIn wsX6_as (va_wsS RX6 132 yX6_isOfKind wsX6_isOfKind) := goodIn_app (goodIn_of _ (by decide +kernel)) ggX6_as_X6_isOfKind
set_option maxRecDepth 20000 in
theorem ggX6_want_X6_isSpeaker : GoodIn wsX6_want wsX6_isSpeaker := goodIn_r _ [8, 9, 10, 14, 15, 16, 17, 18, 19, 20, 21, 22, 34, 35, 36, 37] (by decide +kernel) (by decide +kernel)
set_option maxRecDepth 20000 in
theorem gX6_want_X6_isSpeaker : GoodIn wsX6_want (wsV RX6 102 RX6 yX6_isSpeaker wsX6_isSpeaker) := goodIn_app (goodIn_of _ (by decide +kernel)) ggX6_want_X6_isSpeaker
set_option maxRecDepth 20000 in
theorem ggX6_want_X6_isEnding : GoodIn wsX6_want wsX6_isEnding := goodIn_r _ [13] (by decide +kernel) (by decide +kernel)
set_option maxRecDepth 20000 in
theorem gX6_want_X6_isEnding : GoodIn wsX6_want (va_wsS RX6 136 yX6_isEnding wsX6_isEnding) := goodIn_app (goodIn_of _ (by decide +kernel)) ggX6_want_X6_isEnding
set_option maxRecDepth 20000 in
theorem ggX6_would_X6_isSpeaker : GoodIn wsX6_would wsX6_isSpeaker := goodIn_r _ [5, 6, 7, 39, 40, 41, 42, 43, 44, 45, 46, 47, 48, 49, 50, 51] (by decide +kernel) (by decide +kernel)
set_option maxRecDepth 20000 in
theorem gX6_would_X6_isSpeaker : GoodIn wsX6_would (wsV RX6 102 RX6 yX6_isSpeaker wsX6_isSpeaker) := goodIn_app (goodIn_of _ (by decide +kernel)) ggX6_would_X6_isSpeaker
set_option maxRecDepth 20000 in
theorem ggX6_would_X6_isOpening : GoodIn wsX6_would wsX6_isOpening := goodIn_r _ [10] (by decide +kernel) (by decide +kernel)
set_option maxRecDepth 20000 in
theorem gX6_would_X6_isOpening : GoodIn wsX6_would (va_wsS RX6 95 yX6_isOpening wsX6_isOpening) := goodIn_app (goodIn_of _ (by decide +kernel)) ggX6_would_X6_isOpening
set_option maxRecDepth 20000 in
theorem ggX6_would_X6_endingNow : GoodIn wsX6_would wsX6_endingNow := goodIn_r _ [14, 6, 15, 16, 17, 18, 19, 20, 21, 22, 23, 24, 25, 26, 27, 28, 4, 29, 30, 31, 32, 33, 34, 35, 36, 37, 38, 39, 40, 41, 42, 43, 44, 45, 46, 47, 48, 49, 50, 51, 52, 53, 54, 55, 56, 57, 58, 59, 60, 61, 62] (by decide +kernel) (by decide +kernel)
set_option maxRecDepth 20000 in
theorem gX6_would_X6_endingNow : GoodIn wsX6_would (wsV RX6 142 RX6 yX6_endingNow wsX6_endingNow) := goodIn_app (goodIn_of _ (by decide +kernel)) ggX6_would_X6_endingNow
set_option maxRecDepth 20000 in
theorem ggX6_begin_X6_isSpeaker : GoodIn wsX6_begin wsX6_isSpeaker := goodIn_r _ [7, 8, 9, 31, 32, 33, 34, 35, 36, 37, 38, 39, 51, 52, 53, 54] (by decide +kernel) (by decide +kernel)
set_option maxRecDepth 20000 in
theorem gX6_begin_X6_isSpeaker : GoodIn wsX6_begin (wsV RX6 102 RX6 yX6_isSpeaker wsX6_isSpeaker) := goodIn_app (goodIn_of _ (by decide +kernel)) ggX6_begin_X6_isSpeaker
set_option maxRecDepth 20000 in
theorem ggX6_begin_X6_isOpening : GoodIn wsX6_begin wsX6_isOpening := goodIn_r _ [12] (by decide +kernel) (by decide +kernel)
set_option maxRecDepth 20000 in
theorem gX6_begin_X6_isOpening : GoodIn wsX6_begin (va_wsS RX6 95 yX6_isOpening wsX6_isOpening) := goodIn_app (goodIn_of _ (by decide +kernel)) ggX6_begin_X6_isOpening
set_option maxRecDepth 20000 in
theorem ggX6_begin_X4_openOf : GoodIn wsX6_begin wsX4_openOf := goodIn_r _ [17, 18, 19, 20, 21, 22, 16, 23, 24, 40, 41, 42, 43, 44, 45, 46, 47, 48, 49, 50] (by decide +kernel) (by decide +kernel)
set_option maxRecDepth 20000 in
theorem gX6_begin_X4_openOf : GoodIn wsX6_begin (wsV RX6 113 RX4 yX4_openOf wsX4_openOf) := goodIn_app (goodIn_of _ (by decide +kernel)) ggX6_begin_X4_openOf
set_option maxRecDepth 20000 in
theorem ggX6_begin_X4_addSentence : GoodIn wsX6_begin wsX4_addSentence := goodIn_r _ [28, 18, 19, 29, 24, 30, 40, 41, 42, 43, 44, 45, 46, 47, 48, 49, 50] (by decide +kernel) (by decide +kernel)
set_option maxRecDepth 20000 in
theorem gX6_begin_X4_addSentence : GoodIn wsX6_begin (wsV RX6 148 RX4 yX4_addSentence wsX4_addSentence) := goodIn_app (goodIn_of _ (by decide +kernel)) ggX6_begin_X4_addSentence
set_option maxRecDepth 20000 in
theorem ggX6_end_X6_isSentence : GoodIn wsX6_end wsX6_isSentence := goodIn_r _ [10, 1, 11, 49, 50, 51, 52, 53, 54, 55, 56, 57, 58, 59, 60, 61, 62, 63, 64, 65, 66, 67, 68] (by decide +kernel) (by decide +kernel)
set_option maxRecDepth 20000 in
theorem gX6_end_X6_isSentence : GoodIn wsX6_end (wsV RX6 151 RX6 yX6_isSentence wsX6_isSentence) := goodIn_app (goodIn_of _ (by decide +kernel)) ggX6_end_X6_isSentence
set_option maxRecDepth 20000 in
theorem ggX6_end_X6_isSpeaker : GoodIn wsX6_end wsX6_isSpeaker := goodIn_r _ [15, 16, 17, 49, 50, 51, 52, 53, 54, 55, 56, 57, 69, 70, 71, 72] (by decide +kernel) (by decide +kernel)
set_option maxRecDepth 20000 in
theorem gX6_end_X6_isSpeaker : GoodIn wsX6_end (wsV RX6 102 RX6 yX6_isSpeaker wsX6_isSpeaker) := goodIn_app (goodIn_of _ (by decide +kernel)) ggX6_end_X6_isSpeaker
set_option maxRecDepth 20000 in
theorem ggX6_end_X4_isOpen : GoodIn wsX6_end wsX4_isOpen := goodIn_r _ [22, 23, 58, 59, 60, 61, 62, 63, 64, 65, 66, 67, 68] (by decide +kernel) (by decide +kernel)
set_option maxRecDepth 20000 in
theorem gX6_end_X4_isOpen : GoodIn wsX6_end (wsV RX6 154 RX4 yX4_isOpen wsX4_isOpen) := goodIn_app (goodIn_of _ (by decide +kernel)) ggX6_end_X4_isOpen
set_option maxRecDepth 20000 in
theorem ggX6_end_X6_endingNow : GoodIn wsX6_end wsX6_endingNow := goodIn_r _ [27, 16, 28, 29, 1, 30, 31, 32, 33, 21, 34, 35, 23, 36, 37, 38, 9, 39, 40, 41, 42, 43, 44, 45, 46, 47, 48, 49, 50, 51, 52, 53, 54, 55, 56, 57, 69, 70, 71, 72, 58, 59, 60, 61, 62, 63, 64, 65, 66, 67, 68] (by decide +kernel) (by decide +kernel)
set_option maxRecDepth 20000 in
theorem gX6_end_X6_endingNow : GoodIn wsX6_end (wsV RX6 142 RX6 yX6_endingNow wsX6_endingNow) := goodIn_app (goodIn_of _ (by decide +kernel)) ggX6_end_X6_endingNow
set_option maxRecDepth 20000 in
theorem ggX6_sentence_X6_isSentence : GoodIn wsX6_sentence wsX6_isSentence := goodIn_r _ [10, 1, 11, 25, 26, 27, 28, 29, 30, 31, 32, 33, 34, 35, 36, 37, 38, 39, 40, 41, 42, 43, 44] (by decide +kernel) (by decide +kernel)
set_option maxRecDepth 20000 in
theorem gX6_sentence_X6_isSentence : GoodIn wsX6_sentence (wsV RX6 151 RX6 yX6_isSentence wsX6_isSentence) := goodIn_app (goodIn_of _ (by decide +kernel)) ggX6_sentence_X6_isSentence
set_option maxRecDepth 20000 in
theorem ggX6_sentence_X4_isAsWanted : GoodIn wsX6_sentence wsX4_isAsWanted := goodIn_r _ [16, 17, 18, 19, 20, 21, 22, 15, 23, 24, 34, 35, 36, 37, 38, 39, 40, 41, 42, 43, 44] (by decide +kernel) (by decide +kernel)
set_option maxRecDepth 20000 in
theorem gX6_sentence_X4_isAsWanted : GoodIn wsX6_sentence (wsV RX6 169 RX4 yX4_isAsWanted wsX4_isAsWanted) := goodIn_app (goodIn_of _ (by decide +kernel)) ggX6_sentence_X4_isAsWanted
set_option maxRecDepth 20000 in
theorem ggX6_match_X6_findPleasing : GoodIn wsX6_match wsX6_findPleasing := goodIn_r _ [10, 3, 11, 12, 13, 14, 15, 16, 9, 17, 1, 2, 18, 19, 20, 21, 22, 23, 24, 25, 26, 27, 28, 29, 30, 31, 32, 33, 34, 35, 36, 37, 38, 39, 40, 41, 42, 43, 44, 45, 46, 47, 48, 49, 50, 51, 52, 53, 54, 74, 75, 76, 77, 78, 79, 80, 81, 82, 87, 88, 89, 90, 91, 92, 93, 94, 95, 96, 97, 98, 99, 100, 83, 84, 85, 86] (by decide +kernel) (by decide +kernel)
set_option maxRecDepth 20000 in
theorem gX6_match_X6_findPleasing : GoodIn wsX6_match (wsV RX6 172 RX6 yX6_findPleasing wsX6_findPleasing) := goodIn_app (goodIn_of _ (by decide +kernel)) ggX6_match_X6_findPleasing
set_option maxRecDepth 20000 in
theorem ggX6_match_X0_solve : GoodIn wsX6_match wsX0_solve := goodIn_r _ [59, 60, 61, 62, 63, 64, 58, 65, 66, 67, 68, 69, 47, 9, 48, 70, 71, 72, 73, 87, 88, 89] (by decide +kernel) (by decide +kernel)
set_option maxRecDepth 20000 in
theorem gX6_match_X0_solve : GoodIn wsX6_match (wsV RX6 175 RX0 yX0_solve wsX0_solve) := goodIn_app (goodIn_of _ (by decide +kernel)) ggX6_match_X0_solve
set_option maxRecDepth 20000 in
theorem ggX6_hear_X6_isSpeaker : GoodIn wsX6_hear wsX6_isSpeaker := goodIn_r _ [7, 8, 9, 25, 26, 27, 28, 29, 30, 31, 32, 33, 45, 46, 47, 48] (by decide +kernel) (by decide +kernel)
set_option maxRecDepth 20000 in
theorem gX6_hear_X6_isSpeaker : GoodIn wsX6_hear (wsV RX6 102 RX6 yX6_isSpeaker wsX6_isSpeaker) := goodIn_app (goodIn_of _ (by decide +kernel)) ggX6_hear_X6_isSpeaker
set_option maxRecDepth 20000 in
theorem ggX6_hear_X6_isOpening : GoodIn wsX6_hear wsX6_isOpening := goodIn_r _ [12] (by decide +kernel) (by decide +kernel)
set_option maxRecDepth 20000 in
theorem gX6_hear_X6_isOpening : GoodIn wsX6_hear (va_wsS RX6 95 yX6_isOpening wsX6_isOpening) := goodIn_app (goodIn_of _ (by decide +kernel)) ggX6_hear_X6_isOpening
set_option maxRecDepth 20000 in
theorem ggX6_hear_X6_isEnding : GoodIn wsX6_hear wsX6_isEnding := goodIn_r _ [15] (by decide +kernel) (by decide +kernel)
set_option maxRecDepth 20000 in
theorem gX6_hear_X6_isEnding : GoodIn wsX6_hear (va_wsS RX6 136 yX6_isEnding wsX6_isEnding) := goodIn_app (goodIn_of _ (by decide +kernel)) ggX6_hear_X6_isEnding
set_option maxRecDepth 20000 in
theorem ggX6_hear_X4_addHeard : GoodIn wsX6_hear wsX4_addHeard := goodIn_r _ [20, 21, 22, 23, 24, 34, 35, 36, 37, 38, 39, 40, 41, 42, 43, 44] (by decide +kernel) (by decide +kernel)
set_option maxRecDepth 20000 in
theorem gX6_hear_X4_addHeard : GoodIn wsX6_hear (wsV RX6 187 RX4 yX4_addHeard wsX4_addHeard) := goodIn_app (goodIn_of _ (by decide +kernel)) ggX6_hear_X4_addHeard
set_option maxRecDepth 20000 in
theorem ggX6_talks_X5_run : GoodIn wsX6_talks wsX5_run := goodIn_r _ [12, 13, 14, 15, 16, 17, 18, 19, 20, 21, 22, 23, 24, 25, 26, 27, 11, 28, 29, 30, 31, 32, 33, 34, 35, 36, 37, 38, 39, 40, 41, 42, 43, 44, 45, 46, 47, 48, 49, 50, 51, 52, 66, 67, 68, 69, 70, 71, 72, 73, 74, 75, 76, 77, 78, 79, 80, 62, 63, 64, 65] (by decide +kernel) (by decide +kernel)
set_option maxRecDepth 20000 in
theorem gX6_talks_X5_run : GoodIn wsX6_talks (wsV RX6 191 RX5 yX5_run wsX5_run) := goodIn_app (goodIn_of _ (by decide +kernel)) ggX6_talks_X5_run
set_option maxRecDepth 20000 in
theorem ggX6_image_X4_copyFrom : GoodIn wsX6_image wsX4_copyFrom := goodIn_r _ [11, 12, 13, 14, 15, 16, 17, 18, 19, 20, 21, 22, 23, 24, 25, 26, 40, 41, 42, 43, 44, 45, 46, 47, 48, 49, 50] (by decide +kernel) (by decide +kernel)
set_option maxRecDepth 20000 in
theorem gX6_image_X4_copyFrom : GoodIn wsX6_image (wsV RX6 203 RX4 yX4_copyFrom wsX4_copyFrom) := goodIn_app (goodIn_of _ (by decide +kernel)) ggX6_image_X4_copyFrom
set_option maxRecDepth 20000 in
theorem ggX6_restore_X4_copyFrom : GoodIn wsX6_restore wsX4_copyFrom := goodIn_r _ [9, 10, 11, 12, 13, 14, 15, 16, 17, 18, 19, 20, 21, 22, 23, 24, 34, 35, 36, 37, 38, 39, 40, 41, 42, 43, 44] (by decide +kernel) (by decide +kernel)
set_option maxRecDepth 20000 in
theorem gX6_restore_X4_copyFrom : GoodIn wsX6_restore (wsV RX6 203 RX4 yX4_copyFrom wsX4_copyFrom) := goodIn_app (goodIn_of _ (by decide +kernel)) ggX6_restore_X4_copyFrom
set_option maxRecDepth 20000 in
theorem ggX6_count_X4_howManyOpen : GoodIn wsX6_count wsX4_howManyOpen := goodIn_r _ [14, 15, 16, 17, 13, 18, 19, 20, 64, 65, 66, 67, 68, 69, 70, 71, 72, 73, 74] (by decide +kernel) (by decide +kernel)
set_option maxRecDepth 20000 in
theorem gX6_count_X4_howManyOpen : GoodIn wsX6_count (wsV RX6 206 RX4 yX4_howManyOpen wsX4_howManyOpen) := goodIn_app (goodIn_of _ (by decide +kernel)) ggX6_count_X4_howManyOpen
set_option maxRecDepth 20000 in
theorem ggX6_count_X4_howManyAsWanted : GoodIn wsX6_count wsX4_howManyAsWanted := goodIn_r _ [24, 19, 25, 26, 27, 13, 28, 29, 30, 31, 32, 33, 34, 35, 20, 64, 65, 66, 67, 68, 69, 70, 71, 72, 73, 74] (by decide +kernel) (by decide +kernel)
set_option maxRecDepth 20000 in
theorem gX6_count_X4_howManyAsWanted : GoodIn wsX6_count (wsV RX6 210 RX4 yX4_howManyAsWanted wsX4_howManyAsWanted) := goodIn_app (goodIn_of _ (by decide +kernel)) ggX6_count_X4_howManyAsWanted
set_option maxRecDepth 20000 in
theorem ggX6_count_X4_howManyUnlikeEndings : GoodIn wsX6_count wsX4_howManyUnlikeEndings := goodIn_r _ [39, 40, 41, 42, 13, 43, 19, 20, 29, 44, 45, 46, 47, 48, 49, 50, 64, 65, 66, 67, 68, 69, 70, 71, 72, 73, 74] (by decide +kernel) (by decide +kernel)
set_option maxRecDepth 20000 in
theorem gX6_count_X4_howManyUnlikeEndings : GoodIn wsX6_count (wsV RX6 213 RX4 yX4_howManyUnlikeEndings wsX4_howManyUnlikeEndings) := goodIn_app (goodIn_of _ (by decide +kernel)) ggX6_count_X4_howManyUnlikeEndings
set_option maxRecDepth 20000 in
theorem ggX6_digest_X6_mixed : GoodIn wsX6_digest wsX6_mixed := goodIn_r _ [13, 14] (by decide +kernel) (by decide +kernel)
set_option maxRecDepth 20000 in
theorem gX6_digest_X6_mixed : GoodIn wsX6_digest (va_wsS RX6 218 yX6_mixed wsX6_mixed) := goodIn_app (goodIn_of _ (by decide +kernel)) ggX6_digest_X6_mixed
set_option maxRecDepth 20000 in
theorem ggX6_digest_X6_about : GoodIn wsX6_digest wsX6_about := goodIn_r _ [18, 2, 19, 5, 20, 21, 22, 23, 12, 24, 3, 25, 26, 27, 28, 29, 30, 31, 32, 33, 34, 35, 36, 37, 38, 39, 40, 41, 42, 43, 44, 45, 46, 47, 48, 49, 50, 51, 52, 53, 54, 55, 56, 57, 58, 59, 60, 61, 4, 62, 63, 64, 65, 66, 67, 68, 69, 70, 71, 72, 73, 74, 75, 76, 77, 78, 79, 80, 81, 82, 83, 84, 85, 86, 87, 88, 89, 90, 91, 92, 93, 94, 95, 96, 97, 176, 177, 178, 179, 180, 181, 182, 183, 184, 185, 186, 187, 188, 189, 190, 191, 192, 193, 194, 195, 196, 197, 198, 199] (by decide +kernel) (by decide +kernel)
set_option maxRecDepth 20000 in
theorem gX6_digest_X6_about : GoodIn wsX6_digest (wsV RX6 222 RX6 yX6_about wsX6_about) := goodIn_app (goodIn_of _ (by decide +kernel)) ggX6_digest_X6_about
set_option maxRecDepth 20000 in
theorem ggX6_digest_X6_endingNow : GoodIn wsX6_digest wsX6_endingNow := goodIn_r _ [61, 2, 19, 4, 5, 20, 25, 26, 27, 28, 29, 30, 31, 32, 62, 63, 12, 64, 65, 66, 67, 68, 69, 70, 71, 72, 73, 176, 177, 178, 179, 180, 181, 182, 183, 184, 185, 186, 187, 188, 189, 190, 191, 192, 193, 194, 195, 196, 197, 198, 199] (by decide +kernel) (by decide +kernel)
set_option maxRecDepth 20000 in
theorem gX6_digest_X6_endingNow : GoodIn wsX6_digest (wsV RX6 142 RX6 yX6_endingNow wsX6_endingNow) := goodIn_app (goodIn_of _ (by decide +kernel)) ggX6_digest_X6_endingNow
set_option maxRecDepth 20000 in
theorem ggX6_digest_X6_sentence : GoodIn wsX6_digest wsX6_sentence := goodIn_r _ [101, 5, 102, 103, 104, 105, 106, 107, 108, 12, 109, 6, 110, 111, 112, 28, 113, 32, 114, 37, 38, 39, 40, 41, 31, 176, 177, 178, 179, 180, 181, 182, 183, 184, 189, 190, 191, 192, 193, 194, 195, 196, 197, 198, 199] (by decide +kernel) (by decide +kernel)
set_option maxRecDepth 20000 in
theorem gX6_digest_X6_sentence : GoodIn wsX6_digest (wsV RX6 225 RX6 yX6_sentence wsX6_sentence) := goodIn_app (goodIn_of _ (by decide +kernel)) ggX6_digest_X6_sentence
set_option maxRecDepth 20000 in
theorem ggX6_digest_X6_match : GoodIn wsX6_digest wsX6_match := goodIn_r _ [118, 2, 3, 119, 120, 121, 122, 123, 124, 12, 125, 126, 5, 6, 21, 22, 23, 24, 127, 128, 129, 130, 102, 103, 20, 131, 39, 40, 28, 41, 31, 58, 59, 60, 61, 19, 4, 25, 26, 27, 29, 30, 32, 62, 63, 64, 65, 66, 67, 68, 69, 70, 71, 72, 73, 132, 133, 134, 135, 136, 137, 138, 139, 140, 141, 142, 143, 95, 96, 97, 144, 145, 146, 147, 176, 177, 178, 179, 180, 181, 182, 183, 184, 185, 186, 187, 188, 202, 203, 204, 189, 190, 191, 192, 193, 194, 195, 196, 197, 198, 199] (by decide +kernel) (by decide +kernel)
set_option maxRecDepth 20000 in
theorem gX6_digest_X6_match : GoodIn wsX6_digest (wsV RX6 228 RX6 yX6_match wsX6_match) := goodIn_app (goodIn_of _ (by decide +kernel)) ggX6_digest_X6_match
set_option maxRecDepth 20000 in
theorem ggX6_digest_X6_count : GoodIn wsX6_digest wsX6_count := goodIn_r _ [151, 2, 3, 5, 6, 152, 82, 7, 8, 153, 154, 155, 156, 28, 157, 158, 47, 48, 49, 30, 31, 159, 160, 161, 162, 163, 111, 112, 113, 32, 114, 37, 38, 39, 40, 41, 164, 165, 166, 167, 168, 26, 27, 29, 169, 170, 171, 172, 173, 174, 175, 176, 177, 178, 179, 180, 181, 182, 183, 184, 185, 186, 187, 188, 189, 190, 191, 192, 193, 194, 195, 196, 197, 198, 199, 200, 201] (by decide +kernel) (by decide +kernel)
set_option maxRecDepth 20000 in
theorem gX6_digest_X6_count : GoodIn wsX6_digest (wsV RX6 234 RX6 yX6_count wsX6_count) := goodIn_app (goodIn_of _ (by decide +kernel)) ggX6_digest_X6_count
set_option maxRecDepth 20000 in
theorem ggX6_endingBy_X6_has : GoodIn wsX6_endingBy wsX6_has := goodIn_r _ [4] (by decide +kernel) (by decide +kernel)
set_option maxRecDepth 20000 in
theorem gX6_endingBy_X6_has : GoodIn wsX6_endingBy (va_wsS RX6 239 yX6_has wsX6_has) := goodIn_app (goodIn_of _ (by decide +kernel)) ggX6_endingBy_X6_has
set_option maxRecDepth 20000 in
theorem ggX6_endingBy_X6_greatest : GoodIn wsX6_endingBy wsX6_greatest := goodIn_r _ [7] (by decide +kernel) (by decide +kernel)
set_option maxRecDepth 20000 in
theorem gX6_endingBy_X6_greatest : GoodIn wsX6_endingBy (va_wsS RX6 242 yX6_greatest wsX6_greatest) := goodIn_app (goodIn_of _ (by decide +kernel)) ggX6_endingBy_X6_greatest
set_option maxRecDepth 20000 in
theorem ggX6_endingBy_X6_least : GoodIn wsX6_endingBy wsX6_least := goodIn_r _ [10] (by decide +kernel) (by decide +kernel)
set_option maxRecDepth 20000 in
theorem gX6_endingBy_X6_least : GoodIn wsX6_endingBy (va_wsS RX6 245 yX6_least wsX6_least) := goodIn_app (goodIn_of _ (by decide +kernel)) ggX6_endingBy_X6_least
set_option maxRecDepth 20000 in
theorem ggX6_endingNow_X4_usedBy : GoodIn wsX6_endingNow wsX4_usedBy := goodIn_r _ [10, 11, 12, 13, 40, 41, 42, 43, 44, 45, 46, 47, 48, 49, 50] (by decide +kernel) (by decide +kernel)
set_option maxRecDepth 20000 in
theorem gX6_endingNow_X4_usedBy : GoodIn wsX6_endingNow (wsV RX6 109 RX4 yX4_usedBy wsX4_usedBy) := goodIn_app (goodIn_of _ (by decide +kernel)) ggX6_endingNow_X4_usedBy
set_option maxRecDepth 20000 in
theorem ggX6_endingNow_X6_endingBy : GoodIn wsX6_endingNow wsX6_endingBy := goodIn_r _ [17, 18, 19, 16, 20, 21, 22, 23, 24, 25, 26] (by decide +kernel) (by decide +kernel)
set_option maxRecDepth 20000 in
theorem gX6_endingNow_X6_endingBy : GoodIn wsX6_endingNow (va_wsS RX6 248 yX6_endingBy wsX6_endingBy) := goodIn_app (goodIn_of _ (by decide +kernel)) ggX6_endingNow_X6_endingBy
set_option maxRecDepth 20000 in
theorem ggX6_sureOpening_X6_isSure : GoodIn wsX6_sureOpening wsX6_isSure := goodIn_r _ [5, 6, 7, 8, 9, 10, 11, 12, 4, 13, 14, 15, 16, 17, 18, 19, 20, 21, 22, 23, 24, 25, 26, 27, 28, 29, 30, 31, 32, 33, 34, 35, 36, 37, 38, 39, 40, 41, 42, 43, 44, 45, 46, 47, 48, 49, 50, 51, 52, 53, 54, 55, 56, 57, 58, 59] (by decide +kernel) (by decide +kernel)
set_option maxRecDepth 20000 in
theorem gX6_sureOpening_X6_isSure : GoodIn wsX6_sureOpening (wsV RX6 252 RX6 yX6_isSure wsX6_isSure) := goodIn_app (goodIn_of _ (by decide +kernel)) ggX6_sureOpening_X6_isSure
set_option maxRecDepth 20000 in
theorem ggX6_isSure_X6_endingNow : GoodIn wsX6_isSure wsX6_endingNow := goodIn_r _ [9, 1, 10, 11, 3, 4, 12, 13, 14, 15, 16, 17, 18, 19, 20, 21, 8, 22, 23, 24, 25, 26, 27, 28, 29, 30, 31, 32, 33, 34, 35, 36, 37, 38, 39, 40, 41, 42, 43, 44, 45, 46, 47, 48, 49, 50, 51, 52, 53, 54, 55] (by decide +kernel) (by decide +kernel)
set_option maxRecDepth 20000 in
theorem gX6_isSure_X6_endingNow : GoodIn wsX6_isSure (wsV RX6 142 RX6 yX6_endingNow wsX6_endingNow) := goodIn_app (goodIn_of _ (by decide +kernel)) ggX6_isSure_X6_endingNow
set_option maxRecDepth 20000 in
theorem ggX6_possibleKinds_X6_agreesWithHeard : GoodIn wsX6_possibleKinds wsX6_agreesWithHeard := goodIn_r _ [5, 6, 7, 8, 9, 10, 11, 12, 13, 14, 15, 4, 16, 17, 18, 19, 20, 21, 22, 23, 24, 25, 26, 27, 28, 29, 30, 31, 32, 33, 34, 35, 36, 37, 38, 39, 40, 41, 42, 43, 44, 45, 46, 47, 48, 49] (by decide +kernel) (by decide +kernel)
set_option maxRecDepth 20000 in
theorem gX6_possibleKinds_X6_agreesWithHeard : GoodIn wsX6_possibleKinds (wsV RX6 255 RX6 yX6_agreesWithHeard wsX6_agreesWithHeard) := goodIn_app (goodIn_of _ (by decide +kernel)) ggX6_possibleKinds_X6_agreesWithHeard
set_option maxRecDepth 20000 in
theorem ggX6_agreesWithHeard_X6_endingBy : GoodIn wsX6_agreesWithHeard wsX6_endingBy := goodIn_r _ [12, 13, 14, 11, 15, 16, 17, 18, 19, 20, 21] (by decide +kernel) (by decide +kernel)
set_option maxRecDepth 20000 in
theorem gX6_agreesWithHeard_X6_endingBy : GoodIn wsX6_agreesWithHeard (va_wsS RX6 248 yX6_endingBy wsX6_endingBy) := goodIn_app (goodIn_of _ (by decide +kernel)) ggX6_agreesWithHeard_X6_endingBy
set_option maxRecDepth 20000 in
theorem ggX6_tellingOpening_X6_mostKindsLeft : GoodIn wsX6_tellingOpening wsX6_mostKindsLeft := goodIn_r _ [5, 6, 7, 8, 9, 10, 11, 12, 13, 14, 15, 4, 16, 17, 18, 19, 20, 21, 22, 23, 24, 25, 26, 27, 28, 29, 30, 31, 32, 33, 34, 35, 36, 37, 38, 39, 40, 41, 42, 43, 44, 45, 46, 47, 48, 49] (by decide +kernel) (by decide +kernel)
set_option maxRecDepth 20000 in
theorem gX6_tellingOpening_X6_mostKindsLeft : GoodIn wsX6_tellingOpening (wsV RX6 267 RX6 yX6_mostKindsLeft wsX6_mostKindsLeft) := goodIn_app (goodIn_of _ (by decide +kernel)) ggX6_tellingOpening_X6_mostKindsLeft
set_option maxRecDepth 20000 in
theorem ggX6_mostKindsLeft_X6_has : GoodIn wsX6_mostKindsLeft wsX6_has := goodIn_r _ [12] (by decide +kernel) (by decide +kernel)
set_option maxRecDepth 20000 in
theorem gX6_mostKindsLeft_X6_has : GoodIn wsX6_mostKindsLeft (va_wsS RX6 239 yX6_has wsX6_has) := goodIn_app (goodIn_of _ (by decide +kernel)) ggX6_mostKindsLeft_X6_has
set_option maxRecDepth 20000 in
theorem ggX6_mostKindsLeft_X6_endingBy : GoodIn wsX6_mostKindsLeft wsX6_endingBy := goodIn_r _ [15, 9, 10, 11, 12, 16, 17, 18, 19, 20, 21] (by decide +kernel) (by decide +kernel)
set_option maxRecDepth 20000 in
theorem gX6_mostKindsLeft_X6_endingBy : GoodIn wsX6_mostKindsLeft (va_wsS RX6 248 yX6_endingBy wsX6_endingBy) := goodIn_app (goodIn_of _ (by decide +kernel)) ggX6_mostKindsLeft_X6_endingBy
set_option maxRecDepth 20000 in
theorem ggX6_findPleasing_X6_isSpeaker : GoodIn wsX6_findPleasing wsX6_isSpeaker := goodIn_r _ [9, 10, 11, 49, 50, 51, 52, 53, 54, 55, 56, 57, 72, 73, 74, 75] (by decide +kernel) (by decide +kernel)
set_option maxRecDepth 20000 in
theorem gX6_findPleasing_X6_isSpeaker : GoodIn wsX6_findPleasing (wsV RX6 102 RX6 yX6_isSpeaker wsX6_isSpeaker) := goodIn_app (goodIn_of _ (by decide +kernel)) ggX6_findPleasing_X6_isSpeaker
set_option maxRecDepth 20000 in
theorem ggX6_findPleasing_X6_wouldPlease : GoodIn wsX6_findPleasing wsX6_wouldPlease := goodIn_r _ [15, 3, 16, 17, 18, 19, 20, 21, 22, 23, 24, 25, 26, 27, 8, 28, 10, 29, 30, 31, 32, 33, 34, 35, 36, 37, 38, 39, 40, 41, 42, 43, 44, 45, 46, 47, 48, 49, 50, 51, 52, 53, 54, 55, 56, 57, 61, 62, 63, 64, 65, 66, 67, 68, 69, 70, 71, 72, 73, 74, 75] (by decide +kernel) (by decide +kernel)
set_option maxRecDepth 20000 in
theorem gX6_findPleasing_X6_wouldPlease : GoodIn wsX6_findPleasing (wsV RX6 279 RX6 yX6_wouldPlease wsX6_wouldPlease) := goodIn_app (goodIn_of _ (by decide +kernel)) ggX6_findPleasing_X6_wouldPlease
set_option maxRecDepth 20000 in
theorem ggX6_wouldPlease_X4_isOpen : GoodIn wsX6_wouldPlease wsX4_isOpen := goodIn_r _ [9, 10, 46, 47, 48, 49, 50, 51, 52, 53, 54, 55, 56] (by decide +kernel) (by decide +kernel)
set_option maxRecDepth 20000 in
theorem gX6_wouldPlease_X4_isOpen : GoodIn wsX6_wouldPlease (wsV RX6 154 RX4 yX4_isOpen wsX4_isOpen) := goodIn_app (goodIn_of _ (by decide +kernel)) ggX6_wouldPlease_X4_isOpen
set_option maxRecDepth 20000 in
theorem ggX6_wouldPlease_X6_endingNow : GoodIn wsX6_wouldPlease wsX6_endingNow := goodIn_r _ [15, 16, 17, 18, 1, 4, 19, 20, 21, 8, 22, 23, 10, 24, 25, 26, 14, 27, 28, 29, 30, 31, 32, 33, 34, 35, 36, 37, 38, 39, 40, 41, 42, 43, 44, 45, 57, 58, 59, 60, 46, 47, 48, 49, 50, 51, 52, 53, 54, 55, 56] (by decide +kernel) (by decide +kernel)
set_option maxRecDepth 20000 in
theorem gX6_wouldPlease_X6_endingNow : GoodIn wsX6_wouldPlease (wsV RX6 142 RX6 yX6_endingNow wsX6_endingNow) := goodIn_app (goodIn_of _ (by decide +kernel)) ggX6_wouldPlease_X6_endingNow
set_option maxRecDepth 20000 in
theorem ggJ0_length_8abf5_J0_coder_7d493 : GoodIn wsJ0_length_8abf5 wsJ0_coder_7d493 := goodIn_r _ [6, 7, 8] (by decide +kernel) (by decide +kernel)
set_option maxRecDepth 20000 in
theorem gJ0_length_8abf5_J0_coder_7d493 : GoodIn wsJ0_length_8abf5 (wsV RJ0 335 RJ0 yJ0_coder_7d493 wsJ0_coder_7d493) := goodIn_app (goodIn_of _ (by decide +kernel)) ggJ0_length_8abf5_J0_coder_7d493
set_option maxRecDepth 20000 in
theorem ggJ0_indexOf_0f7a4_J0_indexOf_7cf53 : GoodIn wsJ0_indexOf_0f7a4 wsJ0_indexOf_7cf53 := goodIn_r _ [5, 6, 7, 8, 9, 4, 10, 11, 12, 13, 14, 15, 16, 17, 18, 19, 20, 21, 22, 23, 24, 25, 26, 27, 28, 29, 30, 31, 32, 33, 34, 35, 36, 37, 38, 39, 40, 41, 42, 43, 44, 45, 46, 47, 48, 49, 50, 51, 52, 53, 54, 55, 56, 57, 58, 59, 60, 61, 62, 63, 64, 65, 66, 67, 68, 69, 70, 71, 72, 73, 74, 75, 76, 77, 78, 79, 80, 81, 82, 83, 84, 85] (by decide +kernel) (by decide +kernel)
set_option maxRecDepth 20000 in
theorem gJ0_indexOf_0f7a4_J0_indexOf_7cf53 : GoodIn wsJ0_indexOf_0f7a4 (wsV RJ0 633 RJ0 yJ0_indexOf_7cf53 wsJ0_indexOf_7cf53) := goodIn_app (goodIn_of _ (by decide +kernel)) ggJ0_indexOf_0f7a4_J0_indexOf_7cf53
set_option maxRecDepth 20000 in
theorem ggJ0_indexOf_7cf53_J0_isLatin1_aae02 : GoodIn wsJ0_indexOf_7cf53 wsJ0_isLatin1_aae02 := goodIn_r _ [6, 7, 8] (by decide +kernel) (by decide +kernel)
set_option maxRecDepth 20000 in
theorem gJ0_indexOf_7cf53_J0_isLatin1_aae02 : GoodIn wsJ0_indexOf_7cf53 (wsV RJ0 492 RJ0 yJ0_isLatin1_aae02 wsJ0_isLatin1_aae02) := goodIn_app (goodIn_of _ (by decide +kernel)) ggJ0_indexOf_7cf53_J0_isLatin1_aae02
set_option maxRecDepth 20000 in
theorem ggJ0_indexOf_7cf53_J0_length_8abf5 : GoodIn wsJ0_indexOf_7cf53 wsJ0_length_8abf5 := goodIn_r _ [12, 1, 13, 14, 15, 5, 16, 7, 8] (by decide +kernel) (by decide +kernel)
set_option maxRecDepth 20000 in
theorem gJ0_indexOf_7cf53_J0_length_8abf5 : GoodIn wsJ0_indexOf_7cf53 (wsV RJ0 505 RJ0 yJ0_length_8abf5 wsJ0_length_8abf5) := goodIn_app (goodIn_of _ (by decide +kernel)) ggJ0_indexOf_7cf53_J0_length_8abf5
set_option maxRecDepth 20000 in
theorem ggJ0_indexOf_7cf53_J1_indexOf_4cfef : GoodIn wsJ0_indexOf_7cf53 wsJ1_indexOf_4cfef := goodIn_r _ [20, 21, 22, 23, 24, 25, 26, 27, 28, 29, 19, 30, 31, 32, 33] (by decide +kernel) (by decide +kernel)
set_option maxRecDepth 20000 in
theorem gJ0_indexOf_7cf53_J1_indexOf_4cfef : GoodIn wsJ0_indexOf_7cf53 (va_wsS RJ0 637 yJ1_indexOf_4cfef wsJ1_indexOf_4cfef) := goodIn_app (goodIn_of _ (by decide +kernel)) ggJ0_indexOf_7cf53_J1_indexOf_4cfef
set_option maxRecDepth 20000 in
theorem ggJ0_indexOf_7cf53_J2_indexOf_4cfef : GoodIn wsJ0_indexOf_7cf53 wsJ2_indexOf_4cfef := goodIn_r _ [37, 38, 22, 23, 24, 39, 26, 27, 40, 41, 42, 36, 43, 44, 45, 46, 47, 48, 49, 50, 51, 5, 52, 53, 54, 55, 56, 57, 58, 59, 60, 61, 62, 63, 64, 65, 66, 67, 68, 69, 70, 71, 72, 73, 74, 75, 76, 77, 78, 79, 80, 81] (by decide +kernel) (by decide +kernel)
set_option maxRecDepth 20000 in
theorem gJ0_indexOf_7cf53_J2_indexOf_4cfef : GoodIn wsJ0_indexOf_7cf53 (va_wsS RJ0 640 yJ2_indexOf_4cfef wsJ2_indexOf_4cfef) := goodIn_app (goodIn_of _ (by decide +kernel)) ggJ0_indexOf_7cf53_J2_indexOf_4cfef
set_option maxRecDepth 20000 in
theorem ggJ0_checkBoundsBeginEnd_23922_J3_checkFromToIndex_8c36e : GoodIn wsJ0_checkBoundsBeginEnd_23922 wsJ3_checkFromToIndex_8c36e := goodIn_r _ [5] (by decide +kernel) (by decide +kernel)
set_option maxRecDepth 20000 in
theorem gJ0_checkBoundsBeginEnd_23922_J3_checkFromToIndex_8c36e : GoodIn wsJ0_checkBoundsBeginEnd_23922 (va_wsS RJ0 1062 yJ3_checkFromToIndex_8c36e wsJ3_checkFromToIndex_8c36e) := goodIn_app (goodIn_of _ (by decide +kernel)) ggJ0_checkBoundsBeginEnd_23922_J3_checkFromToIndex_8c36e
set_option maxRecDepth 20000 in
theorem ggJ1_indexOf_4cfef_J1_canEncode_9a6ad : GoodIn wsJ1_indexOf_4cfef wsJ1_canEncode_9a6ad := goodIn_r _ [11] (by decide +kernel) (by decide +kernel)
set_option maxRecDepth 20000 in
theorem gJ1_indexOf_4cfef_J1_canEncode_9a6ad : GoodIn wsJ1_indexOf_4cfef (va_wsS RJ1 88 yJ1_canEncode_9a6ad wsJ1_canEncode_9a6ad) := goodIn_app (goodIn_of _ (by decide +kernel)) ggJ1_indexOf_4cfef_J1_canEncode_9a6ad
set_option maxRecDepth 20000 in
theorem ggJ1_indexOf_4cfef_J1_indexOfChar_4cfef : GoodIn wsJ1_indexOf_4cfef wsJ1_indexOfChar_4cfef := goodIn_r _ [14] (by decide +kernel) (by decide +kernel)
set_option maxRecDepth 20000 in
theorem gJ1_indexOf_4cfef_J1_indexOfChar_4cfef : GoodIn wsJ1_indexOf_4cfef (va_wsS RJ1 95 yJ1_indexOfChar_4cfef wsJ1_indexOfChar_4cfef) := goodIn_app (goodIn_of _ (by decide +kernel)) ggJ1_indexOf_4cfef_J1_indexOfChar_4cfef
set_option maxRecDepth 20000 in
theorem ggJ2_getChar_3b067_J2_length_9d52b : GoodIn wsJ2_getChar_3b067 wsJ2_length_9d52b := goodIn_r _ [7] (by decide +kernel) (by decide +kernel)
set_option maxRecDepth 20000 in
theorem gJ2_getChar_3b067_J2_length_9d52b : GoodIn wsJ2_getChar_3b067 (va_wsS RJ2 48 yJ2_length_9d52b wsJ2_length_9d52b) := goodIn_app (goodIn_of _ (by decide +kernel)) ggJ2_getChar_3b067_J2_length_9d52b
set_option maxRecDepth 20000 in
theorem ggJ2_indexOf_4cfef_J2_indexOfChar_4cfef : GoodIn wsJ2_indexOf_4cfef wsJ2_indexOfChar_4cfef := goodIn_r _ [12, 13, 14, 11, 15, 16, 17, 18, 19, 20, 21, 22, 23, 24, 25, 26, 27, 28, 29, 30, 31, 32, 33, 34, 35, 36] (by decide +kernel) (by decide +kernel)
set_option maxRecDepth 20000 in
theorem gJ2_indexOf_4cfef_J2_indexOfChar_4cfef : GoodIn wsJ2_indexOf_4cfef (va_wsS RJ2 228 yJ2_indexOfChar_4cfef wsJ2_indexOfChar_4cfef) := goodIn_app (goodIn_of _ (by decide +kernel)) ggJ2_indexOf_4cfef_J2_indexOfChar_4cfef
set_option maxRecDepth 20000 in
theorem ggJ2_indexOf_4cfef_J2_indexOfSupplementary_4cfef : GoodIn wsJ2_indexOf_4cfef wsJ2_indexOfSupplementary_4cfef := goodIn_r _ [39, 40, 41, 42, 43, 44, 45, 46, 47, 48, 49, 50, 51, 13, 14, 11, 15, 16, 17, 18, 19, 20, 21, 22, 23, 24, 25, 26, 27, 31, 32, 33, 34, 35, 36] (by decide +kernel) (by decide +kernel)
set_option maxRecDepth 20000 in
theorem gJ2_indexOf_4cfef_J2_indexOfSupplementary_4cfef : GoodIn wsJ2_indexOf_4cfef (va_wsS RJ2 232 yJ2_indexOfSupplementary_4cfef wsJ2_indexOfSupplementary_4cfef) := goodIn_app (goodIn_of _ (by decide +kernel)) ggJ2_indexOf_4cfef_J2_indexOfSupplementary_4cfef
set_option maxRecDepth 20000 in
theorem ggJ2_indexOfChar_4cfef_J2_checkBoundsBeginEnd_d044e : GoodIn wsJ2_indexOfChar_4cfef wsJ2_checkBoundsBeginEnd_d044e := goodIn_r _ [4, 5, 6, 3, 7, 8, 9, 10, 11, 12, 13, 14, 15, 16] (by decide +kernel) (by decide +kernel)
set_option maxRecDepth 20000 in
theorem gJ2_indexOfChar_4cfef_J2_checkBoundsBeginEnd_d044e : GoodIn wsJ2_indexOfChar_4cfef (va_wsS RJ2 96 yJ2_checkBoundsBeginEnd_d044e wsJ2_checkBoundsBeginEnd_d044e) := goodIn_app (goodIn_of _ (by decide +kernel)) ggJ2_indexOfChar_4cfef_J2_checkBoundsBeginEnd_d044e
set_option maxRecDepth 20000 in
theorem ggJ2_indexOfChar_4cfef_J2_indexOfCharUnsafe_4cfef : GoodIn wsJ2_indexOfChar_4cfef wsJ2_indexOfCharUnsafe_4cfef := goodIn_r _ [19, 20, 21, 3, 22, 23, 24, 25, 5, 6, 7] (by decide +kernel) (by decide +kernel)
set_option maxRecDepth 20000 in
theorem gJ2_indexOfChar_4cfef_J2_indexOfCharUnsafe_4cfef : GoodIn wsJ2_indexOfChar_4cfef (va_wsS RJ2 244 yJ2_indexOfCharUnsafe_4cfef wsJ2_indexOfCharUnsafe_4cfef) := goodIn_app (goodIn_of _ (by decide +kernel)) ggJ2_indexOfChar_4cfef_J2_indexOfCharUnsafe_4cfef
set_option maxRecDepth 20000 in
theorem ggJ2_indexOfCharUnsafe_4cfef_J2_getChar_3b067 : GoodIn wsJ2_indexOfCharUnsafe_4cfef wsJ2_getChar_3b067 := goodIn_r _ [4, 5, 6, 7, 8, 9, 3, 10] (by decide +kernel) (by decide +kernel)
set_option maxRecDepth 20000 in
theorem gJ2_indexOfCharUnsafe_4cfef_J2_getChar_3b067 : GoodIn wsJ2_indexOfCharUnsafe_4cfef (va_wsS RJ2 71 yJ2_getChar_3b067 wsJ2_getChar_3b067) := goodIn_app (goodIn_of _ (by decide +kernel)) ggJ2_indexOfCharUnsafe_4cfef_J2_getChar_3b067
set_option maxRecDepth 20000 in
theorem ggJ2_indexOfSupplementary_4cfef_J11_isValidCodePoint_9a6ad : GoodIn wsJ2_indexOfSupplementary_4cfef wsJ11_isValidCodePoint_9a6ad := goodIn_r _ [4] (by decide +kernel) (by decide +kernel)
set_option maxRecDepth 20000 in
theorem gJ2_indexOfSupplementary_4cfef_J11_isValidCodePoint_9a6ad : GoodIn wsJ2_indexOfSupplementary_4cfef (va_wsS RJ2 164 yJ11_isValidCodePoint_9a6ad wsJ11_isValidCodePoint_9a6ad) := goodIn_app (goodIn_of _ (by decide +kernel)) ggJ2_indexOfSupplementary_4cfef_J11_isValidCodePoint_9a6ad
set_option maxRecDepth 20000 in
theorem ggJ2_indexOfSupplementary_4cfef_J11_highSurrogate_5068e : GoodIn wsJ2_indexOfSupplementary_4cfef wsJ11_highSurrogate_5068e := goodIn_r _ [7, 8] (by decide +kernel) (by decide +kernel)
set_option maxRecDepth 20000 in
theorem gJ2_indexOfSupplementary_4cfef_J11_highSurrogate_5068e : GoodIn wsJ2_indexOfSupplementary_4cfef (va_wsS RJ2 157 yJ11_highSurrogate_5068e wsJ11_highSurrogate_5068e) := goodIn_app (goodIn_of _ (by decide +kernel)) ggJ2_indexOfSupplementary_4cfef_J11_highSurrogate_5068e
set_option maxRecDepth 20000 in
theorem ggJ2_indexOfSupplementary_4cfef_J11_lowSurrogate_5068e : GoodIn wsJ2_indexOfSupplementary_4cfef wsJ11_lowSurrogate_5068e := goodIn_r _ [11, 12] (by decide +kernel) (by decide +kernel)
set_option maxRecDepth 20000 in
theorem gJ2_indexOfSupplementary_4cfef_J11_lowSurrogate_5068e : GoodIn wsJ2_indexOfSupplementary_4cfef (va_wsS RJ2 161 yJ11_lowSurrogate_5068e wsJ11_lowSurrogate_5068e) := goodIn_app (goodIn_of _ (by decide +kernel)) ggJ2_indexOfSupplementary_4cfef_J11_lowSurrogate_5068e
set_option maxRecDepth 20000 in
theorem ggJ2_indexOfSupplementary_4cfef_J2_checkBoundsBeginEnd_d044e : GoodIn wsJ2_indexOfSupplementary_4cfef wsJ2_checkBoundsBeginEnd_d044e := goodIn_r _ [16, 17, 18, 15, 19, 20, 21, 22, 23, 24, 25, 26, 27, 28] (by decide +kernel) (by decide +kernel)
set_option maxRecDepth 20000 in
theorem gJ2_indexOfSupplementary_4cfef_J2_checkBoundsBeginEnd_d044e : GoodIn wsJ2_indexOfSupplementary_4cfef (va_wsS RJ2 96 yJ2_checkBoundsBeginEnd_d044e wsJ2_checkBoundsBeginEnd_d044e) := goodIn_app (goodIn_of _ (by decide +kernel)) ggJ2_indexOfSupplementary_4cfef_J2_checkBoundsBeginEnd_d044e
set_option maxRecDepth 20000 in
theorem ggJ2_indexOfSupplementary_4cfef_J2_getChar_3b067 : GoodIn wsJ2_indexOfSupplementary_4cfef wsJ2_getChar_3b067 := goodIn_r _ [31, 32, 33, 34, 17, 18, 15, 19] (by decide +kernel) (by decide +kernel)
set_option maxRecDepth 20000 in
theorem gJ2_indexOfSupplementary_4cfef_J2_getChar_3b067 : GoodIn wsJ2_indexOfSupplementary_4cfef (va_wsS RJ2 71 yJ2_getChar_3b067 wsJ2_getChar_3b067) := goodIn_app (goodIn_of _ (by decide +kernel)) ggJ2_indexOfSupplementary_4cfef_J2_getChar_3b067
set_option maxRecDepth 20000 in
theorem ggJ2_checkBoundsBeginEnd_d044e_J2_length_9d52b : GoodIn wsJ2_checkBoundsBeginEnd_d044e wsJ2_length_9d52b := goodIn_r _ [4] (by decide +kernel) (by decide +kernel)
set_option maxRecDepth 20000 in
theorem gJ2_checkBoundsBeginEnd_d044e_J2_length_9d52b : GoodIn wsJ2_checkBoundsBeginEnd_d044e (va_wsS RJ2 48 yJ2_length_9d52b wsJ2_length_9d52b) := goodIn_app (goodIn_of _ (by decide +kernel)) ggJ2_checkBoundsBeginEnd_d044e_J2_length_9d52b
set_option maxRecDepth 20000 in
theorem ggJ2_checkBoundsBeginEnd_d044e_J0_checkBoundsBeginEnd_23922 : GoodIn wsJ2_checkBoundsBeginEnd_d044e wsJ0_checkBoundsBeginEnd_23922 := goodIn_r _ [8, 9, 10, 11, 12, 13] (by decide +kernel) (by decide +kernel)
set_option maxRecDepth 20000 in
theorem gJ2_checkBoundsBeginEnd_d044e_J0_checkBoundsBeginEnd_23922 : GoodIn wsJ2_checkBoundsBeginEnd_d044e (va_wsS RJ2 241 yJ0_checkBoundsBeginEnd_23922 wsJ0_checkBoundsBeginEnd_23922) := goodIn_app (goodIn_of _ (by decide +kernel)) ggJ2_checkBoundsBeginEnd_d044e_J0_checkBoundsBeginEnd_23922
