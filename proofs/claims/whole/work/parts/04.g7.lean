set_option maxRecDepth 20000 in
theorem ggX7_letter_X7_in : GoodIn wsX7_letter wsX7_in := goodIn_r _ [7] (by decide +kernel) (by decide +kernel)
set_option maxRecDepth 20000 in
theorem gX7_letter_X7_in : GoodIn wsX7_letter (va_wsS RX7 58 yX7_in wsX7_in) := goodIn_app (goodIn_of _ (by decide +kernel)) ggX7_letter_X7_in
set_option maxRecDepth 20000 in
theorem ggX7_goOpening_X7_in : GoodIn wsX7_goOpening wsX7_in := goodIn_r _ [9] (by decide +kernel) (by decide +kernel)
set_option maxRecDepth 20000 in
theorem gX7_goOpening_X7_in : GoodIn wsX7_goOpening (va_wsS RX7 58 yX7_in wsX7_in) := goodIn_app (goodIn_of _ (by decide +kernel)) ggX7_goOpening_X7_in
set_option maxRecDepth 20000 in
theorem ggX7_goSpeaker_X7_kindBy : GoodIn wsX7_goSpeaker wsX7_kindBy := goodIn_r _ [9] (by decide +kernel) (by decide +kernel)
set_option maxRecDepth 20000 in
theorem gX7_goSpeaker_X7_kindBy : GoodIn wsX7_goSpeaker (va_wsS RX7 82 yX7_kindBy wsX7_kindBy) := goodIn_app (goodIn_of _ (by decide +kernel)) ggX7_goSpeaker_X7_kindBy
set_option maxRecDepth 20000 in
theorem ggX7_goSpeaker_X7_in : GoodIn wsX7_goSpeaker wsX7_in := goodIn_r _ [12] (by decide +kernel) (by decide +kernel)
set_option maxRecDepth 20000 in
theorem gX7_goSpeaker_X7_in : GoodIn wsX7_goSpeaker (va_wsS RX7 58 yX7_in wsX7_in) := goodIn_app (goodIn_of _ (by decide +kernel)) ggX7_goSpeaker_X7_in
set_option maxRecDepth 20000 in
theorem ggX7_faultOf_X7_goOpening : GoodIn wsX7_faultOf wsX7_goOpening := goodIn_r _ [12, 2, 1, 3, 13, 14, 15, 16, 11, 17, 28, 29, 30, 31, 32, 33, 34, 35, 36, 37, 38, 39, 40, 41, 42, 43, 44, 45, 46, 47, 48, 49, 50, 51, 52, 53, 54, 55, 56, 57, 58] (by decide +kernel) (by decide +kernel)
set_option maxRecDepth 20000 in
theorem gX7_faultOf_X7_goOpening : GoodIn wsX7_faultOf (wsV RX7 90 RX7 yX7_goOpening wsX7_goOpening) := goodIn_app (goodIn_of _ (by decide +kernel)) ggX7_faultOf_X7_goOpening
set_option maxRecDepth 20000 in
theorem ggX7_faultOf_X7_goSpeaker : GoodIn wsX7_faultOf wsX7_goSpeaker := goodIn_r _ [21, 5, 22, 4, 23, 24, 25, 26, 11, 27, 15, 16, 17, 28, 29, 30, 31, 32, 33, 34, 35, 36, 37, 38, 39, 40, 41, 42, 43, 44, 45, 46, 47, 48, 49, 50, 51, 52, 53, 54, 55, 56, 57, 58] (by decide +kernel) (by decide +kernel)
set_option maxRecDepth 20000 in
theorem gX7_faultOf_X7_goSpeaker : GoodIn wsX7_faultOf (wsV RX7 94 RX7 yX7_goSpeaker wsX7_goSpeaker) := goodIn_app (goodIn_of _ (by decide +kernel)) ggX7_faultOf_X7_goSpeaker
set_option maxRecDepth 20000 in
theorem ggX7_fault_X7_faultOf : GoodIn wsX7_fault wsX7_faultOf := goodIn_r _ [5, 6, 7, 8, 9, 10, 11, 12, 13, 14, 15, 4, 16, 17, 18, 19, 20, 21, 22, 23, 24, 25, 26, 27, 28, 29, 30, 31, 32, 33, 34, 35, 36, 37, 38, 39, 40, 41, 42, 43, 44, 45, 46, 47, 48, 49, 50, 51, 52, 53, 54, 55, 56, 57, 58, 59, 60, 61, 62] (by decide +kernel) (by decide +kernel)
set_option maxRecDepth 20000 in
theorem gX7_fault_X7_faultOf : GoodIn wsX7_fault (wsV RX7 97 RX7 yX7_faultOf wsX7_faultOf) := goodIn_app (goodIn_of _ (by decide +kernel)) ggX7_fault_X7_faultOf
set_option maxRecDepth 20000 in
theorem ggX7_room_X7_faultOf : GoodIn wsX7_room wsX7_faultOf := goodIn_r _ [17, 18, 19, 20, 3, 2, 1, 21, 22, 23, 24, 16, 25, 26, 5, 27, 28, 29, 30, 31, 32, 33, 8, 34, 35, 36, 37, 38, 42, 43, 44, 45, 46, 47, 48, 49, 50, 51, 52, 53, 54, 55, 56, 57, 58, 59, 60, 61, 62, 63, 64, 65, 66, 67, 68, 69, 70, 71, 72] (by decide +kernel) (by decide +kernel)
set_option maxRecDepth 20000 in
theorem gX7_room_X7_faultOf : GoodIn wsX7_room (wsV RX7 97 RX7 yX7_faultOf wsX7_faultOf) := goodIn_app (goodIn_of _ (by decide +kernel)) ggX7_room_X7_faultOf
set_option maxRecDepth 20000 in
theorem ggX7_room_X7_copy : GoodIn wsX7_room wsX7_copy := goodIn_r _ [41] (by decide +kernel) (by decide +kernel)
set_option maxRecDepth 20000 in
theorem gX7_room_X7_copy : GoodIn wsX7_room (va_wsS RX7 104 yX7_copy wsX7_copy) := goodIn_app (goodIn_of _ (by decide +kernel)) ggX7_room_X7_copy
set_option maxRecDepth 20000 in
theorem ggX7_isOpening_X7_lacks : GoodIn wsX7_isOpening wsX7_lacks := goodIn_r _ [6, 7, 11, 12, 13, 14, 15, 16, 17, 18, 19, 20, 21, 22, 23, 24, 25, 26, 27, 28, 29, 30, 31, 32, 33, 34, 35, 36, 37, 38, 39, 40, 41] (by decide +kernel) (by decide +kernel)
set_option maxRecDepth 20000 in
theorem gX7_isOpening_X7_lacks : GoodIn wsX7_isOpening (wsV RX7 120 RX7 yX7_lacks wsX7_lacks) := goodIn_app (goodIn_of _ (by decide +kernel)) ggX7_isOpening_X7_lacks
set_option maxRecDepth 20000 in
theorem ggX7_isOpening_X7_in : GoodIn wsX7_isOpening wsX7_in := goodIn_r _ [10] (by decide +kernel) (by decide +kernel)
set_option maxRecDepth 20000 in
theorem gX7_isOpening_X7_in : GoodIn wsX7_isOpening (va_wsS RX7 58 yX7_in wsX7_in) := goodIn_app (goodIn_of _ (by decide +kernel)) ggX7_isOpening_X7_in
set_option maxRecDepth 20000 in
theorem ggX7_isSpeaker_X7_in : GoodIn wsX7_isSpeaker wsX7_in := goodIn_r _ [5] (by decide +kernel) (by decide +kernel)
set_option maxRecDepth 20000 in
theorem gX7_isSpeaker_X7_in : GoodIn wsX7_isSpeaker (va_wsS RX7 58 yX7_in wsX7_in) := goodIn_app (goodIn_of _ (by decide +kernel)) ggX7_isSpeaker_X7_in
set_option maxRecDepth 20000 in
theorem ggX7_fits_X7_isOpening : GoodIn wsX7_fits wsX7_isOpening := goodIn_r _ [6, 7, 8, 9, 10, 5, 11, 12, 13, 14, 15, 16, 17, 18, 19, 20, 21, 22, 23, 24, 25, 26, 27, 28, 29, 30, 31, 32, 33, 34, 35, 36, 37, 38, 39, 40, 41, 42, 43, 44, 45, 46] (by decide +kernel) (by decide +kernel)
set_option maxRecDepth 20000 in
theorem gX7_fits_X7_isOpening : GoodIn wsX7_fits (wsV RX7 126 RX7 yX7_isOpening wsX7_isOpening) := goodIn_app (goodIn_of _ (by decide +kernel)) ggX7_fits_X7_isOpening
set_option maxRecDepth 20000 in
theorem ggX7_endsBy_X7_greatestOf : GoodIn wsX7_endsBy wsX7_greatestOf := goodIn_r _ [5] (by decide +kernel) (by decide +kernel)
set_option maxRecDepth 20000 in
theorem gX7_endsBy_X7_greatestOf : GoodIn wsX7_endsBy (va_wsS RX7 129 yX7_greatestOf wsX7_greatestOf) := goodIn_app (goodIn_of _ (by decide +kernel)) ggX7_endsBy_X7_greatestOf
set_option maxRecDepth 20000 in
theorem ggX7_endsBy_X7_leastOf : GoodIn wsX7_endsBy wsX7_leastOf := goodIn_r _ [8] (by decide +kernel) (by decide +kernel)
set_option maxRecDepth 20000 in
theorem gX7_endsBy_X7_leastOf : GoodIn wsX7_endsBy (va_wsS RX7 132 yX7_leastOf wsX7_leastOf) := goodIn_app (goodIn_of _ (by decide +kernel)) ggX7_endsBy_X7_leastOf
set_option maxRecDepth 20000 in
theorem ggX7_wouldOf_X7_endsBy : GoodIn wsX7_wouldOf wsX7_endsBy := goodIn_r _ [6, 7, 8, 9, 5, 10, 11, 12, 13, 14, 15, 16, 17, 18, 19, 20, 21, 22, 23, 24, 25, 26, 27, 28, 29, 30, 31, 32, 33, 34, 35, 36, 37, 38, 39, 40, 41, 42, 43, 44] (by decide +kernel) (by decide +kernel)
set_option maxRecDepth 20000 in
theorem gX7_wouldOf_X7_endsBy : GoodIn wsX7_wouldOf (wsV RX7 135 RX7 yX7_endsBy wsX7_endsBy) := goodIn_app (goodIn_of _ (by decide +kernel)) ggX7_wouldOf_X7_endsBy
set_option maxRecDepth 20000 in
theorem ggX7_sureOf_X7_wouldOf : GoodIn wsX7_sureOf wsX7_wouldOf := goodIn_r _ [7, 2, 8, 9, 10, 6, 11, 12, 13, 14, 15, 16, 17, 18, 19, 20, 21, 22, 23, 24, 25, 26, 27, 28, 29, 30, 31, 32, 33, 34, 35, 36, 37, 38, 39, 40, 41, 42, 43, 44, 45, 46, 47, 48, 49] (by decide +kernel) (by decide +kernel)
set_option maxRecDepth 20000 in
theorem gX7_sureOf_X7_wouldOf : GoodIn wsX7_sureOf (wsV RX7 139 RX7 yX7_wouldOf wsX7_wouldOf) := goodIn_app (goodIn_of _ (by decide +kernel)) ggX7_sureOf_X7_wouldOf
set_option maxRecDepth 20000 in
theorem ggX7_tell_X7_openOf : GoodIn wsX7_tell wsX7_openOf := goodIn_r _ [6, 7, 8, 44, 45, 46, 47, 48, 49, 50, 51, 52, 53, 54, 55, 56, 57, 58, 59, 60, 61, 62, 63, 64, 65, 66, 67, 68, 69, 70, 71, 72, 73, 74] (by decide +kernel) (by decide +kernel)
set_option maxRecDepth 20000 in
theorem gX7_tell_X7_openOf : GoodIn wsX7_tell (wsV RX7 143 RX7 yX7_openOf wsX7_openOf) := goodIn_app (goodIn_of _ (by decide +kernel)) ggX7_tell_X7_openOf
set_option maxRecDepth 20000 in
theorem ggX7_tell_X7_saidBy : GoodIn wsX7_tell wsX7_saidBy := goodIn_r _ [12, 7, 8, 44, 45, 46, 47, 48, 49, 50, 51, 52, 53, 54, 55, 56, 57, 58, 59, 60, 61, 62, 63, 64, 65, 66, 67, 68, 69, 70, 71, 72, 73, 74] (by decide +kernel) (by decide +kernel)
set_option maxRecDepth 20000 in
theorem gX7_tell_X7_saidBy : GoodIn wsX7_tell (wsV RX7 146 RX7 yX7_saidBy wsX7_saidBy) := goodIn_app (goodIn_of _ (by decide +kernel)) ggX7_tell_X7_saidBy
set_option maxRecDepth 20000 in
theorem ggX7_tell_X7_sureOf : GoodIn wsX7_tell wsX7_sureOf := goodIn_r _ [16, 17, 1, 18, 19, 20, 5, 21, 22, 23, 24, 25, 26, 27, 28, 29, 30, 31, 32, 44, 45, 46, 47, 48, 49, 50, 51, 52, 53, 54, 55, 56, 57, 58, 59, 60, 61, 62, 63, 64, 65, 66, 67, 68, 69, 70, 71, 72, 73, 74] (by decide +kernel) (by decide +kernel)
set_option maxRecDepth 20000 in
theorem gX7_tell_X7_sureOf : GoodIn wsX7_tell (wsV RX7 149 RX7 yX7_sureOf wsX7_sureOf) := goodIn_app (goodIn_of _ (by decide +kernel)) ggX7_tell_X7_sureOf
set_option maxRecDepth 20000 in
theorem ggX7_tell_X7_whichOf : GoodIn wsX7_tell wsX7_whichOf := goodIn_r _ [36, 37, 1, 38, 22, 23, 24, 5, 25, 26, 27, 28, 29, 30, 31, 32, 44, 45, 46, 47, 48, 49, 50, 51, 52, 53, 54, 55, 56, 57, 58, 59, 60, 61, 62, 63, 64, 65, 66, 67, 68, 69, 70, 71, 72, 73, 74] (by decide +kernel) (by decide +kernel)
set_option maxRecDepth 20000 in
theorem gX7_tell_X7_whichOf : GoodIn wsX7_tell (wsV RX7 152 RX7 yX7_whichOf wsX7_whichOf) := goodIn_app (goodIn_of _ (by decide +kernel)) ggX7_tell_X7_whichOf
set_option maxRecDepth 20000 in
theorem ggX7_tell_X7_beginOf : GoodIn wsX7_tell wsX7_beginOf := goodIn_r _ [42, 43, 1, 33, 34, 35, 5, 36, 37, 38, 22, 23, 24, 25, 26, 27, 28, 29, 30, 31, 32, 44, 45, 46, 47, 48, 49, 50, 51, 52, 53, 54, 55, 56, 57, 58, 59, 60, 61, 62, 63, 64, 65, 66, 67, 68, 69, 70, 71, 72, 73, 74] (by decide +kernel) (by decide +kernel)
set_option maxRecDepth 20000 in
theorem gX7_tell_X7_beginOf : GoodIn wsX7_tell (wsV RX7 155 RX7 yX7_beginOf wsX7_beginOf) := goodIn_app (goodIn_of _ (by decide +kernel)) ggX7_tell_X7_beginOf
set_option maxRecDepth 20000 in
theorem ggX7_about_X7_isSpeaker : GoodIn wsX7_about wsX7_isSpeaker := goodIn_r _ [5, 6, 7, 8, 4, 9, 55, 56, 57, 58, 59, 60, 61, 62, 63, 64, 65, 66, 67, 68, 69, 70, 71, 72, 73, 74, 75, 76, 77, 78, 79, 80, 81, 82, 83, 84, 85] (by decide +kernel) (by decide +kernel)
set_option maxRecDepth 20000 in
theorem gX7_about_X7_isSpeaker : GoodIn wsX7_about (wsV RX7 158 RX7 yX7_isSpeaker wsX7_isSpeaker) := goodIn_app (goodIn_of _ (by decide +kernel)) ggX7_about_X7_isSpeaker
set_option maxRecDepth 20000 in
theorem ggX7_about_X7_tell : GoodIn wsX7_about wsX7_tell := goodIn_r _ [13, 14, 15, 16, 17, 4, 18, 19, 20, 21, 22, 23, 24, 25, 26, 27, 28, 6, 29, 30, 31, 32, 33, 34, 35, 36, 37, 38, 39, 40, 41, 42, 43, 44, 45, 46, 47, 48, 49, 50, 51, 52, 53, 54, 55, 56, 57, 58, 59, 60, 61, 62, 63, 64, 65, 66, 67, 68, 69, 70, 71, 72, 73, 74, 75, 76, 77, 78, 79, 80, 81, 82, 83, 84, 85] (by decide +kernel) (by decide +kernel)
set_option maxRecDepth 20000 in
theorem gX7_about_X7_tell : GoodIn wsX7_about (wsV RX7 161 RX7 yX7_tell wsX7_tell) := goodIn_app (goodIn_of _ (by decide +kernel)) ggX7_about_X7_tell
set_option maxRecDepth 20000 in
theorem ggX7_as_X7_isSpeaker : GoodIn wsX7_as wsX7_isSpeaker := goodIn_r _ [7, 8, 9, 10, 6, 11, 12, 13, 14, 15, 16, 17, 18, 19, 20, 21, 22, 23, 24, 25, 26, 27, 28, 29, 30, 31, 32, 33, 34, 35, 36, 37, 38, 39, 40, 41, 42] (by decide +kernel) (by decide +kernel)
set_option maxRecDepth 20000 in
theorem gX7_as_X7_isSpeaker : GoodIn wsX7_as (wsV RX7 158 RX7 yX7_isSpeaker wsX7_isSpeaker) := goodIn_app (goodIn_of _ (by decide +kernel)) ggX7_as_X7_isSpeaker
set_option maxRecDepth 20000 in
theorem ggX7_as_X7_in : GoodIn wsX7_as wsX7_in := goodIn_r _ [11] (by decide +kernel) (by decide +kernel)
set_option maxRecDepth 20000 in
theorem gX7_as_X7_in : GoodIn wsX7_as (va_wsS RX7 58 yX7_in wsX7_in) := goodIn_app (goodIn_of _ (by decide +kernel)) ggX7_as_X7_in
set_option maxRecDepth 20000 in
theorem ggX7_want_X7_isSpeaker : GoodIn wsX7_want wsX7_isSpeaker := goodIn_r _ [8, 9, 10, 11, 7, 12, 13, 14, 15, 16, 17, 18, 19, 20, 21, 22, 23, 24, 25, 26, 27, 28, 29, 30, 31, 32, 33, 34, 35, 36, 37, 38, 39, 40, 41, 42, 43] (by decide +kernel) (by decide +kernel)
set_option maxRecDepth 20000 in
theorem gX7_want_X7_isSpeaker : GoodIn wsX7_want (wsV RX7 158 RX7 yX7_isSpeaker wsX7_isSpeaker) := goodIn_app (goodIn_of _ (by decide +kernel)) ggX7_want_X7_isSpeaker
set_option maxRecDepth 20000 in
theorem ggX7_want_X7_in : GoodIn wsX7_want wsX7_in := goodIn_r _ [12] (by decide +kernel) (by decide +kernel)
set_option maxRecDepth 20000 in
theorem gX7_want_X7_in : GoodIn wsX7_want (va_wsS RX7 58 yX7_in wsX7_in) := goodIn_app (goodIn_of _ (by decide +kernel)) ggX7_want_X7_in
set_option maxRecDepth 20000 in
theorem ggX7_would_X7_isSpeaker : GoodIn wsX7_would wsX7_isSpeaker := goodIn_r _ [5, 6, 7, 8, 4, 9, 35, 36, 37, 38, 39, 40, 41, 42, 43, 44, 45, 46, 47, 48, 49, 50, 51, 52, 53, 54, 55, 56, 57, 58, 59, 60, 61, 62, 63, 64, 65] (by decide +kernel) (by decide +kernel)
set_option maxRecDepth 20000 in
theorem gX7_would_X7_isSpeaker : GoodIn wsX7_would (wsV RX7 158 RX7 yX7_isSpeaker wsX7_isSpeaker) := goodIn_app (goodIn_of _ (by decide +kernel)) ggX7_would_X7_isSpeaker
set_option maxRecDepth 20000 in
theorem ggX7_would_X7_isOpening : GoodIn wsX7_would wsX7_isOpening := goodIn_r _ [13, 14, 15, 16, 17, 4, 18, 6, 7, 8, 9, 35, 36, 37, 38, 39, 40, 41, 42, 43, 44, 45, 46, 47, 48, 49, 50, 51, 52, 53, 54, 55, 56, 57, 58, 59, 60, 61, 62, 63, 64, 65] (by decide +kernel) (by decide +kernel)
set_option maxRecDepth 20000 in
theorem gX7_would_X7_isOpening : GoodIn wsX7_would (wsV RX7 126 RX7 yX7_isOpening wsX7_isOpening) := goodIn_app (goodIn_of _ (by decide +kernel)) ggX7_would_X7_isOpening
set_option maxRecDepth 20000 in
theorem ggX7_would_X7_wouldOf : GoodIn wsX7_would wsX7_wouldOf := goodIn_r _ [22, 23, 24, 25, 26, 4, 27, 28, 29, 30, 31, 32, 33, 34, 35, 36, 37, 38, 39, 40, 41, 42, 43, 44, 45, 46, 47, 48, 49, 50, 51, 52, 53, 54, 55, 56, 57, 58, 59, 60, 61, 62, 63, 64, 65] (by decide +kernel) (by decide +kernel)
set_option maxRecDepth 20000 in
theorem gX7_would_X7_wouldOf : GoodIn wsX7_would (wsV RX7 139 RX7 yX7_wouldOf wsX7_wouldOf) := goodIn_app (goodIn_of _ (by decide +kernel)) ggX7_would_X7_wouldOf
set_option maxRecDepth 20000 in
theorem ggX7_isSentence_X7_in : GoodIn wsX7_isSentence wsX7_in := goodIn_r _ [5] (by decide +kernel) (by decide +kernel)
set_option maxRecDepth 20000 in
theorem gX7_isSentence_X7_in : GoodIn wsX7_isSentence (va_wsS RX7 58 yX7_in wsX7_in) := goodIn_app (goodIn_of _ (by decide +kernel)) ggX7_isSentence_X7_in
set_option maxRecDepth 20000 in
theorem ggX7_begin_X7_isSpeaker : GoodIn wsX7_begin wsX7_isSpeaker := goodIn_r _ [7, 8, 9, 10, 6, 11, 25, 26, 27, 28, 29, 30, 31, 32, 33, 34, 35, 36, 37, 38, 39, 40, 41, 42, 43, 44, 45, 46, 47, 48, 49, 50, 51, 52, 53, 54, 55] (by decide +kernel) (by decide +kernel)
set_option maxRecDepth 20000 in
theorem gX7_begin_X7_isSpeaker : GoodIn wsX7_begin (wsV RX7 158 RX7 yX7_isSpeaker wsX7_isSpeaker) := goodIn_app (goodIn_of _ (by decide +kernel)) ggX7_begin_X7_isSpeaker
set_option maxRecDepth 20000 in
theorem ggX7_begin_X7_isOpening : GoodIn wsX7_begin wsX7_isOpening := goodIn_r _ [15, 16, 17, 18, 19, 6, 20, 8, 9, 10, 11, 25, 26, 27, 28, 29, 30, 31, 32, 33, 34, 35, 36, 37, 38, 39, 40, 41, 42, 43, 44, 45, 46, 47, 48, 49, 50, 51, 52, 53, 54, 55] (by decide +kernel) (by decide +kernel)
set_option maxRecDepth 20000 in
theorem gX7_begin_X7_isOpening : GoodIn wsX7_begin (wsV RX7 126 RX7 yX7_isOpening wsX7_isOpening) := goodIn_app (goodIn_of _ (by decide +kernel)) ggX7_begin_X7_isOpening
set_option maxRecDepth 20000 in
theorem ggX7_begin_X7_openOf : GoodIn wsX7_begin wsX7_openOf := goodIn_r _ [24, 1, 2, 25, 26, 27, 28, 29, 30, 31, 32, 33, 34, 35, 36, 37, 38, 39, 40, 41, 42, 43, 44, 45, 46, 47, 48, 49, 50, 51, 52, 53, 54, 55] (by decide +kernel) (by decide +kernel)
set_option maxRecDepth 20000 in
theorem gX7_begin_X7_openOf : GoodIn wsX7_begin (wsV RX7 143 RX7 yX7_openOf wsX7_openOf) := goodIn_app (goodIn_of _ (by decide +kernel)) ggX7_begin_X7_openOf
set_option maxRecDepth 20000 in
theorem ggX7_end_X7_isSentence : GoodIn wsX7_end wsX7_isSentence := goodIn_r _ [7, 8, 9, 10, 6, 11, 32, 33, 34, 35, 36, 37, 38, 39, 40, 41, 42, 43, 44, 45, 46, 47, 48, 49, 50, 51, 52, 53, 54, 55, 56, 57, 58, 59, 60, 61, 62] (by decide +kernel) (by decide +kernel)
set_option maxRecDepth 20000 in
theorem gX7_end_X7_isSentence : GoodIn wsX7_end (wsV RX7 166 RX7 yX7_isSentence wsX7_isSentence) := goodIn_app (goodIn_of _ (by decide +kernel)) ggX7_end_X7_isSentence
set_option maxRecDepth 20000 in
theorem ggX7_end_X7_isSpeaker : GoodIn wsX7_end wsX7_isSpeaker := goodIn_r _ [15, 16, 9, 10, 6, 11, 32, 33, 34, 35, 36, 37, 38, 39, 40, 41, 42, 43, 44, 45, 46, 47, 48, 49, 50, 51, 52, 53, 54, 55, 56, 57, 58, 59, 60, 61, 62] (by decide +kernel) (by decide +kernel)
set_option maxRecDepth 20000 in
theorem gX7_end_X7_isSpeaker : GoodIn wsX7_end (wsV RX7 158 RX7 yX7_isSpeaker wsX7_isSpeaker) := goodIn_app (goodIn_of _ (by decide +kernel)) ggX7_end_X7_isSpeaker
set_option maxRecDepth 20000 in
theorem ggX7_end_X7_wouldOf : GoodIn wsX7_end wsX7_wouldOf := goodIn_r _ [20, 2, 21, 22, 23, 6, 24, 25, 26, 27, 28, 29, 30, 31, 32, 33, 34, 35, 36, 37, 38, 39, 40, 41, 42, 43, 44, 45, 46, 47, 48, 49, 50, 51, 52, 53, 54, 55, 56, 57, 58, 59, 60, 61, 62] (by decide +kernel) (by decide +kernel)
set_option maxRecDepth 20000 in
theorem gX7_end_X7_wouldOf : GoodIn wsX7_end (wsV RX7 139 RX7 yX7_wouldOf wsX7_wouldOf) := goodIn_app (goodIn_of _ (by decide +kernel)) ggX7_end_X7_wouldOf
set_option maxRecDepth 20000 in
theorem ggX7_tellSentence_X7_in : GoodIn wsX7_tellSentence wsX7_in := goodIn_r _ [6] (by decide +kernel) (by decide +kernel)
set_option maxRecDepth 20000 in
theorem gX7_tellSentence_X7_in : GoodIn wsX7_tellSentence (va_wsS RX7 58 yX7_in wsX7_in) := goodIn_app (goodIn_of _ (by decide +kernel)) ggX7_tellSentence_X7_in
set_option maxRecDepth 20000 in
theorem ggX7_tellSentence_X7_isWanted : GoodIn wsX7_tellSentence wsX7_isWanted := goodIn_r _ [10, 2, 11, 12, 13, 14, 15, 16, 17, 18, 19, 20, 21, 22, 23, 24, 25, 26, 27, 28, 29, 30, 31, 32, 33, 34, 35, 36, 37, 38, 39, 40, 41, 42] (by decide +kernel) (by decide +kernel)
set_option maxRecDepth 20000 in
theorem gX7_tellSentence_X7_isWanted : GoodIn wsX7_tellSentence (wsV RX7 169 RX7 yX7_isWanted wsX7_isWanted) := goodIn_app (goodIn_of _ (by decide +kernel)) ggX7_tellSentence_X7_isWanted
set_option maxRecDepth 20000 in
theorem ggX7_sentence_X7_isSentence : GoodIn wsX7_sentence wsX7_isSentence := goodIn_r _ [5, 6, 7, 8, 4, 9, 21, 22, 23, 24, 25, 26, 27, 28, 29, 30, 31, 32, 33, 34, 35, 36, 37, 38, 39, 40, 41, 42, 43, 44, 45, 46, 47, 48, 49, 50, 51] (by decide +kernel) (by decide +kernel)
set_option maxRecDepth 20000 in
theorem gX7_sentence_X7_isSentence : GoodIn wsX7_sentence (wsV RX7 166 RX7 yX7_isSentence wsX7_isSentence) := goodIn_app (goodIn_of _ (by decide +kernel)) ggX7_sentence_X7_isSentence
set_option maxRecDepth 20000 in
theorem ggX7_sentence_X7_tellSentence : GoodIn wsX7_sentence wsX7_tellSentence := goodIn_r _ [13, 14, 15, 7, 8, 4, 9, 16, 17, 18, 19, 20, 21, 22, 23, 24, 25, 26, 27, 28, 29, 30, 31, 32, 33, 34, 35, 36, 37, 38, 39, 40, 41, 42, 43, 44, 45, 46, 47, 48, 49, 50, 51] (by decide +kernel) (by decide +kernel)
set_option maxRecDepth 20000 in
theorem gX7_sentence_X7_tellSentence : GoodIn wsX7_sentence (wsV RX7 172 RX7 yX7_tellSentence wsX7_tellSentence) := goodIn_app (goodIn_of _ (by decide +kernel)) ggX7_sentence_X7_tellSentence
set_option maxRecDepth 20000 in
theorem ggX7_endsAsWanted_X7_wouldOf : GoodIn wsX7_endsAsWanted wsX7_wouldOf := goodIn_r _ [7, 2, 8, 9, 10, 6, 11, 12, 13, 14, 15, 16, 17, 18, 19, 20, 21, 22, 23, 24, 25, 26, 27, 28, 29, 30, 31, 32, 33, 34, 35, 36, 37, 38, 39, 40, 41, 42, 43, 44, 45, 46, 47, 48, 49] (by decide +kernel) (by decide +kernel)
set_option maxRecDepth 20000 in
theorem gX7_endsAsWanted_X7_wouldOf : GoodIn wsX7_endsAsWanted (wsV RX7 139 RX7 yX7_wouldOf wsX7_wouldOf) := goodIn_app (goodIn_of _ (by decide +kernel)) ggX7_endsAsWanted_X7_wouldOf
set_option maxRecDepth 20000 in
theorem ggX7_layRow_X7_endsAsWanted : GoodIn wsX7_layRow wsX7_endsAsWanted := goodIn_r _ [8, 9, 10, 11, 12, 13, 7, 14, 15, 16, 17, 18, 19, 20, 21, 22, 23, 24, 25, 26, 27, 28, 29, 30, 31, 32, 33, 34, 35, 36, 37, 38, 39, 40, 41, 42, 43, 44, 45, 46, 47, 48, 49, 50, 51, 52, 53, 54, 55, 56] (by decide +kernel) (by decide +kernel)
set_option maxRecDepth 20000 in
theorem gX7_layRow_X7_endsAsWanted : GoodIn wsX7_layRow (wsV RX7 175 RX7 yX7_endsAsWanted wsX7_endsAsWanted) := goodIn_app (goodIn_of _ (by decide +kernel)) ggX7_layRow_X7_endsAsWanted
set_option maxRecDepth 20000 in
theorem ggX7_matchOf_X7_layRow : GoodIn wsX7_matchOf wsX7_layRow := goodIn_r _ [9, 1, 3, 2, 10, 11, 12, 8, 13, 14, 15, 16, 17, 18, 19, 20, 21, 22, 23, 24, 25, 26, 27, 28, 29, 30, 34, 35, 36, 37, 38, 39, 40, 41, 42, 43, 44, 45, 46, 47, 48, 49, 50, 51, 52, 53, 54, 55, 56, 57, 58, 59, 60, 61, 62, 63, 64] (by decide +kernel) (by decide +kernel)
set_option maxRecDepth 20000 in
theorem gX7_matchOf_X7_layRow : GoodIn wsX7_matchOf (wsV RX7 179 RX7 yX7_layRow wsX7_layRow) := goodIn_app (goodIn_of _ (by decide +kernel)) ggX7_matchOf_X7_layRow
set_option maxRecDepth 20000 in
theorem ggX7_matchOf_X7_copy : GoodIn wsX7_matchOf wsX7_copy := goodIn_r _ [33] (by decide +kernel) (by decide +kernel)
set_option maxRecDepth 20000 in
theorem gX7_matchOf_X7_copy : GoodIn wsX7_matchOf (va_wsS RX7 104 yX7_copy wsX7_copy) := goodIn_app (goodIn_of _ (by decide +kernel)) ggX7_matchOf_X7_copy
set_option maxRecDepth 20000 in
theorem ggX7_match_X7_in : GoodIn wsX7_match wsX7_in := goodIn_r _ [6] (by decide +kernel) (by decide +kernel)
set_option maxRecDepth 20000 in
theorem gX7_match_X7_in : GoodIn wsX7_match (va_wsS RX7 58 yX7_in wsX7_in) := goodIn_app (goodIn_of _ (by decide +kernel)) ggX7_match_X7_in
set_option maxRecDepth 20000 in
theorem ggX7_match_X7_lacks : GoodIn wsX7_match wsX7_lacks := goodIn_r _ [10, 11, 47, 48, 49, 50, 51, 52, 53, 54, 55, 56, 57, 58, 59, 60, 61, 62, 63, 64, 65, 66, 67, 68, 69, 70, 71, 72, 73, 74, 75, 76, 77] (by decide +kernel) (by decide +kernel)
set_option maxRecDepth 20000 in
theorem gX7_match_X7_lacks : GoodIn wsX7_match (wsV RX7 120 RX7 yX7_lacks wsX7_lacks) := goodIn_app (goodIn_of _ (by decide +kernel)) ggX7_match_X7_lacks
set_option maxRecDepth 20000 in
theorem ggX7_match_X7_matchOf : GoodIn wsX7_match wsX7_matchOf := goodIn_r _ [15, 11, 16, 17, 18, 19, 20, 21, 5, 22, 23, 24, 25, 26, 27, 28, 29, 30, 31, 32, 33, 34, 35, 36, 37, 38, 39, 40, 41, 42, 43, 44, 45, 46, 47, 48, 49, 50, 51, 52, 53, 54, 55, 56, 57, 58, 59, 60, 61, 62, 63, 64, 65, 66, 67, 68, 69, 70, 71, 72, 73, 74, 75, 76, 77] (by decide +kernel) (by decide +kernel)
set_option maxRecDepth 20000 in
theorem gX7_match_X7_matchOf : GoodIn wsX7_match (wsV RX7 186 RX7 yX7_matchOf wsX7_matchOf) := goodIn_app (goodIn_of _ (by decide +kernel)) ggX7_match_X7_matchOf
set_option maxRecDepth 20000 in
theorem ggX7_hear_X7_isSpeaker : GoodIn wsX7_hear wsX7_isSpeaker := goodIn_r _ [9, 10, 11, 12, 8, 13, 23, 24, 25, 26, 27, 28, 29, 30, 31, 32, 33, 34, 35, 36, 37, 38, 39, 40, 41, 42, 43, 44, 45, 46, 47, 48, 49, 50, 51, 52, 53] (by decide +kernel) (by decide +kernel)
set_option maxRecDepth 20000 in
theorem gX7_hear_X7_isSpeaker : GoodIn wsX7_hear (wsV RX7 158 RX7 yX7_isSpeaker wsX7_isSpeaker) := goodIn_app (goodIn_of _ (by decide +kernel)) ggX7_hear_X7_isSpeaker
set_option maxRecDepth 20000 in
theorem ggX7_hear_X7_isOpening : GoodIn wsX7_hear wsX7_isOpening := goodIn_r _ [17, 18, 19, 20, 21, 8, 22, 10, 11, 12, 13, 23, 24, 25, 26, 27, 28, 29, 30, 31, 32, 33, 34, 35, 36, 37, 38, 39, 40, 41, 42, 43, 44, 45, 46, 47, 48, 49, 50, 51, 52, 53] (by decide +kernel) (by decide +kernel)
set_option maxRecDepth 20000 in
theorem gX7_hear_X7_isOpening : GoodIn wsX7_hear (wsV RX7 126 RX7 yX7_isOpening wsX7_isOpening) := goodIn_app (goodIn_of _ (by decide +kernel)) ggX7_hear_X7_isOpening
set_option maxRecDepth 20000 in
theorem ggX7_hear_X7_in : GoodIn wsX7_hear wsX7_in := goodIn_r _ [13] (by decide +kernel) (by decide +kernel)
set_option maxRecDepth 20000 in
theorem gX7_hear_X7_in : GoodIn wsX7_hear (va_wsS RX7 58 yX7_in wsX7_in) := goodIn_app (goodIn_of _ (by decide +kernel)) ggX7_hear_X7_in
set_option maxRecDepth 20000 in
theorem ggX7_whichOf_X7_endsBy : GoodIn wsX7_whichOf wsX7_endsBy := goodIn_r _ [8, 9, 10, 11, 7, 12, 13, 14, 15, 16, 17, 18, 19, 20, 21, 22, 23, 24, 25, 26, 27, 28, 29, 30, 31, 32, 33, 34, 35, 36, 37, 38, 39, 40, 41, 42, 43, 44, 45, 46] (by decide +kernel) (by decide +kernel)
set_option maxRecDepth 20000 in
theorem gX7_whichOf_X7_endsBy : GoodIn wsX7_whichOf (wsV RX7 135 RX7 yX7_endsBy wsX7_endsBy) := goodIn_app (goodIn_of _ (by decide +kernel)) ggX7_whichOf_X7_endsBy
set_option maxRecDepth 20000 in
theorem ggX7_beginOf_X7_whichOf : GoodIn wsX7_beginOf wsX7_whichOf := goodIn_r _ [7, 8, 2, 9, 10, 11, 12, 6, 13, 14, 15, 16, 17, 18, 19, 20, 21, 22, 23, 24, 25, 26, 27, 28, 29, 30, 31, 32, 33, 34, 35, 36, 37, 38, 39, 40, 41, 42, 43, 44, 45, 46, 47, 48, 49, 50, 51] (by decide +kernel) (by decide +kernel)
set_option maxRecDepth 20000 in
theorem gX7_beginOf_X7_whichOf : GoodIn wsX7_beginOf (wsV RX7 152 RX7 yX7_whichOf wsX7_whichOf) := goodIn_app (goodIn_of _ (by decide +kernel)) ggX7_beginOf_X7_whichOf
set_option maxRecDepth 20000 in
theorem ggX7_beginOf_X7_endsBy : GoodIn wsX7_beginOf wsX7_endsBy := goodIn_r _ [13, 14, 15, 16, 6, 17, 18, 19, 20, 21, 22, 23, 24, 25, 26, 27, 28, 29, 30, 31, 32, 33, 34, 35, 36, 37, 38, 39, 40, 41, 42, 43, 44, 45, 46, 47, 48, 49, 50, 51] (by decide +kernel) (by decide +kernel)
set_option maxRecDepth 20000 in
theorem gX7_beginOf_X7_endsBy : GoodIn wsX7_beginOf (wsV RX7 135 RX7 yX7_endsBy wsX7_endsBy) := goodIn_app (goodIn_of _ (by decide +kernel)) ggX7_beginOf_X7_endsBy
set_option maxRecDepth 20000 in
theorem ggX7_talks_X7_in : GoodIn wsX7_talks wsX7_in := goodIn_r _ [10] (by decide +kernel) (by decide +kernel)
set_option maxRecDepth 20000 in
theorem gX7_talks_X7_in : GoodIn wsX7_talks (va_wsS RX7 58 yX7_in wsX7_in) := goodIn_app (goodIn_of _ (by decide +kernel)) ggX7_talks_X7_in
set_option maxRecDepth 20000 in
theorem ggX7_talks_X7_lacks : GoodIn wsX7_talks wsX7_lacks := goodIn_r _ [14, 6, 41, 42, 43, 44, 45, 46, 47, 48, 49, 50, 51, 52, 53, 54, 55, 56, 57, 58, 59, 60, 61, 62, 63, 64, 65, 66, 67, 68, 69, 70, 71] (by decide +kernel) (by decide +kernel)
set_option maxRecDepth 20000 in
theorem gX7_talks_X7_lacks : GoodIn wsX7_talks (wsV RX7 120 RX7 yX7_lacks wsX7_lacks) := goodIn_app (goodIn_of _ (by decide +kernel)) ggX7_talks_X7_lacks
set_option maxRecDepth 20000 in
theorem ggX7_talks_X7_copy : GoodIn wsX7_talks wsX7_copy := goodIn_r _ [17] (by decide +kernel) (by decide +kernel)
set_option maxRecDepth 20000 in
theorem gX7_talks_X7_copy : GoodIn wsX7_talks (va_wsS RX7 104 yX7_copy wsX7_copy) := goodIn_app (goodIn_of _ (by decide +kernel)) ggX7_talks_X7_copy
set_option maxRecDepth 20000 in
theorem ggX7_talks_X7_draw : GoodIn wsX7_talks wsX7_draw := goodIn_r _ [21, 22, 5, 23, 24, 25, 41, 42, 43, 44, 45, 46, 47, 48, 49, 50, 51, 52, 53, 54, 55, 56, 57, 58, 59, 60, 61, 62, 63, 64, 65, 66, 67, 68, 69, 70, 71] (by decide +kernel) (by decide +kernel)
set_option maxRecDepth 20000 in
theorem gX7_talks_X7_draw : GoodIn wsX7_talks (wsV RX7 205 RX7 yX7_draw wsX7_draw) := goodIn_app (goodIn_of _ (by decide +kernel)) ggX7_talks_X7_draw
set_option maxRecDepth 20000 in
theorem ggX7_talks_X7_wouldOf : GoodIn wsX7_talks wsX7_wouldOf := goodIn_r _ [29, 3, 30, 31, 32, 9, 33, 34, 35, 36, 37, 38, 39, 40, 41, 42, 43, 44, 45, 46, 47, 48, 49, 50, 51, 52, 53, 54, 55, 56, 57, 58, 59, 60, 61, 62, 63, 64, 65, 66, 67, 68, 69, 70, 71] (by decide +kernel) (by decide +kernel)
set_option maxRecDepth 20000 in
theorem gX7_talks_X7_wouldOf : GoodIn wsX7_talks (wsV RX7 139 RX7 yX7_wouldOf wsX7_wouldOf) := goodIn_app (goodIn_of _ (by decide +kernel)) ggX7_talks_X7_wouldOf
set_option maxRecDepth 20000 in
theorem ggX7_image_X7_lacks : GoodIn wsX7_image wsX7_lacks := goodIn_r _ [19, 20, 24, 25, 26, 27, 28, 29, 30, 31, 32, 33, 34, 35, 36, 37, 38, 39, 40, 41, 42, 43, 44, 45, 46, 47, 48, 49, 50, 51, 52, 53, 54] (by decide +kernel) (by decide +kernel)
set_option maxRecDepth 20000 in
theorem gX7_image_X7_lacks : GoodIn wsX7_image (wsV RX7 120 RX7 yX7_lacks wsX7_lacks) := goodIn_app (goodIn_of _ (by decide +kernel)) ggX7_image_X7_lacks
set_option maxRecDepth 20000 in
theorem ggX7_image_X7_copy : GoodIn wsX7_image wsX7_copy := goodIn_r _ [23] (by decide +kernel) (by decide +kernel)
set_option maxRecDepth 20000 in
theorem gX7_image_X7_copy : GoodIn wsX7_image (va_wsS RX7 104 yX7_copy wsX7_copy) := goodIn_app (goodIn_of _ (by decide +kernel)) ggX7_image_X7_copy
set_option maxRecDepth 20000 in
theorem ggX7_restore_X7_copy : GoodIn wsX7_restore wsX7_copy := goodIn_r _ [18] (by decide +kernel) (by decide +kernel)
set_option maxRecDepth 20000 in
theorem gX7_restore_X7_copy : GoodIn wsX7_restore (va_wsS RX7 104 yX7_copy wsX7_copy) := goodIn_app (goodIn_of _ (by decide +kernel)) ggX7_restore_X7_copy
set_option maxRecDepth 20000 in
theorem ggX7_wantedMany_X7_isWanted : GoodIn wsX7_wantedMany wsX7_isWanted := goodIn_r _ [6, 7, 8, 9, 10, 11, 12, 13, 14, 15, 16, 17, 18, 19, 20, 21, 22, 23, 24, 25, 26, 27, 28, 29, 30, 31, 32, 33, 34, 35, 36, 37, 38, 39] (by decide +kernel) (by decide +kernel)
set_option maxRecDepth 20000 in
theorem gX7_wantedMany_X7_isWanted : GoodIn wsX7_wantedMany (wsV RX7 169 RX7 yX7_isWanted wsX7_isWanted) := goodIn_app (goodIn_of _ (by decide +kernel)) ggX7_wantedMany_X7_isWanted
set_option maxRecDepth 20000 in
theorem ggX7_unlike_X7_ones : GoodIn wsX7_unlike wsX7_ones := goodIn_r _ [6] (by decide +kernel) (by decide +kernel)
set_option maxRecDepth 20000 in
theorem gX7_unlike_X7_ones : GoodIn wsX7_unlike (va_wsS RX7 217 yX7_ones wsX7_ones) := goodIn_app (goodIn_of _ (by decide +kernel)) ggX7_unlike_X7_ones
set_option maxRecDepth 20000 in
theorem ggX7_countOf_X7_saidBy : GoodIn wsX7_countOf wsX7_saidBy := goodIn_r _ [11, 2, 12, 29, 30, 31, 32, 33, 34, 35, 36, 37, 38, 39, 40, 41, 42, 43, 44, 45, 46, 47, 48, 49, 50, 51, 52, 53, 54, 55, 56, 57, 58, 59] (by decide +kernel) (by decide +kernel)
set_option maxRecDepth 20000 in
theorem gX7_countOf_X7_saidBy : GoodIn wsX7_countOf (wsV RX7 146 RX7 yX7_saidBy wsX7_saidBy) := goodIn_app (goodIn_of _ (by decide +kernel)) ggX7_countOf_X7_saidBy
set_option maxRecDepth 20000 in
theorem ggX7_countOf_X7_wantedMany : GoodIn wsX7_countOf wsX7_wantedMany := goodIn_r _ [16, 2, 17, 18, 19, 10, 20, 12, 21, 29, 30, 31, 32, 33, 34, 35, 36, 37, 38, 39, 40, 41, 42, 43, 44, 45, 46, 47, 48, 49, 50, 51, 52, 53, 54, 55, 56, 57, 58, 59] (by decide +kernel) (by decide +kernel)
set_option maxRecDepth 20000 in
theorem gX7_countOf_X7_wantedMany : GoodIn wsX7_countOf (wsV RX7 220 RX7 yX7_wantedMany wsX7_wantedMany) := goodIn_app (goodIn_of _ (by decide +kernel)) ggX7_countOf_X7_wantedMany
set_option maxRecDepth 20000 in
theorem ggX7_countOf_X7_unlike : GoodIn wsX7_countOf wsX7_unlike := goodIn_r _ [25, 2, 12, 26, 27, 10, 28, 29, 30, 31, 32, 33, 34, 35, 36, 37, 38, 39, 40, 41, 42, 43, 44, 45, 46, 47, 48, 49, 50, 51, 52, 53, 54, 55, 56, 57, 58, 59] (by decide +kernel) (by decide +kernel)
set_option maxRecDepth 20000 in
theorem gX7_countOf_X7_unlike : GoodIn wsX7_countOf (wsV RX7 223 RX7 yX7_unlike wsX7_unlike) := goodIn_app (goodIn_of _ (by decide +kernel)) ggX7_countOf_X7_unlike
set_option maxRecDepth 20000 in
theorem ggX7_count_X7_countOf : GoodIn wsX7_count wsX7_countOf := goodIn_r _ [5, 6, 7, 8, 9, 10, 11, 12, 13, 14, 4, 15, 16, 17, 18, 19, 20, 21, 22, 23, 24, 25, 26, 27, 28, 29, 30, 31, 32, 33, 34, 35, 36, 37, 38, 39, 40, 41, 42, 43, 44, 45, 46, 47, 48, 49, 50, 51, 52, 53, 54, 55, 56, 57, 58, 59, 60, 61, 62, 63] (by decide +kernel) (by decide +kernel)
set_option maxRecDepth 20000 in
theorem gX7_count_X7_countOf : GoodIn wsX7_count (wsV RX7 226 RX7 yX7_countOf wsX7_countOf) := goodIn_app (goodIn_of _ (by decide +kernel)) ggX7_count_X7_countOf
set_option maxRecDepth 20000 in
theorem ggX7_saySpeaker_X7_tell : GoodIn wsX7_saySpeaker wsX7_tell := goodIn_r _ [5, 6, 7, 8, 9, 4, 10, 11, 12, 13, 14, 15, 16, 17, 18, 19, 20, 21, 22, 23, 24, 25, 26, 27, 28, 29, 30, 31, 32, 33, 34, 35, 36, 37, 38, 39, 40, 41, 42, 43, 44, 45, 46, 47, 54, 55, 56, 57, 58, 59, 60, 61, 62, 63, 64, 65, 66, 67, 68, 69, 70, 71, 72, 73, 74, 75, 76, 77, 78, 79, 80, 81, 82, 83, 84] (by decide +kernel) (by decide +kernel)
set_option maxRecDepth 20000 in
theorem gX7_saySpeaker_X7_tell : GoodIn wsX7_saySpeaker (wsV RX7 161 RX7 yX7_tell wsX7_tell) := goodIn_app (goodIn_of _ (by decide +kernel)) ggX7_saySpeaker_X7_tell
set_option maxRecDepth 20000 in
theorem ggX7_saySpeaker_X7_say : GoodIn wsX7_saySpeaker wsX7_say := goodIn_r _ [51, 52, 53, 54, 55, 56, 57, 58, 59, 60, 61, 62, 63, 64, 65, 66, 67, 68, 69, 70, 71, 72, 73, 74, 75, 76, 77, 78, 79, 80, 81, 82, 83, 84] (by decide +kernel) (by decide +kernel)
set_option maxRecDepth 20000 in
theorem gX7_saySpeaker_X7_say : GoodIn wsX7_saySpeaker (wsV RX7 235 RX7 yX7_say wsX7_say) := goodIn_app (goodIn_of _ (by decide +kernel)) ggX7_saySpeaker_X7_say
set_option maxRecDepth 20000 in
theorem ggX7_saySpeaker_X7_wouldOf : GoodIn wsX7_saySpeaker wsX7_wouldOf := goodIn_r _ [25, 6, 26, 27, 28, 4, 29, 30, 31, 32, 33, 34, 35, 36, 54, 55, 56, 57, 58, 59, 60, 61, 62, 63, 64, 65, 66, 67, 68, 69, 70, 71, 72, 73, 74, 75, 76, 77, 78, 79, 80, 81, 82, 83, 84] (by decide +kernel) (by decide +kernel)
set_option maxRecDepth 20000 in
theorem gX7_saySpeaker_X7_wouldOf : GoodIn wsX7_saySpeaker (wsV RX7 139 RX7 yX7_wouldOf wsX7_wouldOf) := goodIn_app (goodIn_of _ (by decide +kernel)) ggX7_saySpeaker_X7_wouldOf
set_option maxRecDepth 20000 in
theorem ggX7_digest_X7_lacks : GoodIn wsX7_digest wsX7_lacks := goodIn_r _ [12, 4, 111, 112, 113, 114, 115, 116, 117, 118, 119, 120, 121, 122, 123, 124, 125, 126, 127, 128, 129, 130, 131, 132, 133, 134, 135, 136, 137, 138, 139, 140, 141] (by decide +kernel) (by decide +kernel)
set_option maxRecDepth 20000 in
theorem gX7_digest_X7_lacks : GoodIn wsX7_digest (wsV RX7 120 RX7 yX7_lacks wsX7_lacks) := goodIn_app (goodIn_of _ (by decide +kernel)) ggX7_digest_X7_lacks
set_option maxRecDepth 20000 in
theorem ggX7_digest_X7_say : GoodIn wsX7_digest wsX7_say := goodIn_r _ [16, 17, 2, 111, 112, 113, 114, 115, 116, 117, 118, 119, 120, 121, 122, 123, 124, 125, 126, 127, 128, 129, 130, 131, 132, 133, 134, 135, 136, 137, 138, 139, 140, 141] (by decide +kernel) (by decide +kernel)
set_option maxRecDepth 20000 in
theorem gX7_digest_X7_say : GoodIn wsX7_digest (wsV RX7 235 RX7 yX7_say wsX7_say) := goodIn_app (goodIn_of _ (by decide +kernel)) ggX7_digest_X7_say
set_option maxRecDepth 20000 in
theorem ggX7_digest_X7_saySpeaker : GoodIn wsX7_digest wsX7_saySpeaker := goodIn_r _ [21, 22, 23, 24, 11, 25, 26, 27, 28, 29, 30, 5, 31, 32, 33, 34, 35, 36, 37, 38, 39, 4, 40, 41, 42, 43, 44, 45, 46, 47, 3, 48, 49, 50, 51, 52, 53, 54, 55, 56, 57, 58, 59, 60, 61, 62, 63, 64, 13, 14, 15, 16, 17, 2, 111, 112, 113, 114, 115, 116, 117, 118, 119, 120, 121, 122, 123, 124, 125, 126, 127, 128, 129, 130, 131, 132, 133, 134, 135, 136, 137, 138, 139, 140, 141] (by decide +kernel) (by decide +kernel)
set_option maxRecDepth 20000 in
theorem gX7_digest_X7_saySpeaker : GoodIn wsX7_digest (wsV RX7 241 RX7 yX7_saySpeaker wsX7_saySpeaker) := goodIn_app (goodIn_of _ (by decide +kernel)) ggX7_digest_X7_saySpeaker
set_option maxRecDepth 20000 in
theorem ggX7_digest_X7_tellSentence : GoodIn wsX7_digest wsX7_tellSentence := goodIn_r _ [68, 69, 31, 70, 71, 11, 72, 73, 74, 75, 76, 26, 111, 112, 113, 114, 115, 116, 117, 118, 119, 120, 121, 122, 123, 124, 125, 126, 127, 128, 129, 130, 131, 132, 133, 134, 135, 136, 137, 138, 139, 140, 141] (by decide +kernel) (by decide +kernel)
set_option maxRecDepth 20000 in
theorem gX7_digest_X7_tellSentence : GoodIn wsX7_digest (wsV RX7 172 RX7 yX7_tellSentence wsX7_tellSentence) := goodIn_app (goodIn_of _ (by decide +kernel)) ggX7_digest_X7_tellSentence
set_option maxRecDepth 20000 in
theorem ggX7_digest_X7_matchOf : GoodIn wsX7_digest wsX7_matchOf := goodIn_r _ [80, 4, 5, 81, 82, 83, 84, 85, 11, 86, 87, 88, 89, 90, 31, 26, 40, 41, 42, 43, 44, 45, 46, 47, 3, 48, 49, 50, 51, 52, 53, 91, 92, 93, 111, 112, 113, 114, 115, 116, 117, 118, 119, 120, 121, 122, 123, 124, 125, 126, 127, 128, 129, 130, 131, 132, 133, 134, 135, 136, 137, 138, 139, 140, 141] (by decide +kernel) (by decide +kernel)
set_option maxRecDepth 20000 in
theorem gX7_digest_X7_matchOf : GoodIn wsX7_digest (wsV RX7 186 RX7 yX7_matchOf wsX7_matchOf) := goodIn_app (goodIn_of _ (by decide +kernel)) ggX7_digest_X7_matchOf
set_option maxRecDepth 20000 in
theorem ggX7_digest_X7_countOf : GoodIn wsX7_digest wsX7_countOf := goodIn_r _ [97, 4, 5, 98, 58, 6, 99, 32, 33, 34, 11, 35, 31, 100, 101, 102, 103, 73, 74, 75, 76, 26, 104, 105, 106, 107, 108, 109, 110, 111, 112, 113, 114, 115, 116, 117, 118, 119, 120, 121, 122, 123, 124, 125, 126, 127, 128, 129, 130, 131, 132, 133, 134, 135, 136, 137, 138, 139, 140, 141] (by decide +kernel) (by decide +kernel)
set_option maxRecDepth 20000 in
theorem gX7_digest_X7_countOf : GoodIn wsX7_digest (wsV RX7 226 RX7 yX7_countOf wsX7_countOf) := goodIn_app (goodIn_of _ (by decide +kernel)) ggX7_digest_X7_countOf
