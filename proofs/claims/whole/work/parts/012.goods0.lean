set_option maxRecDepth 20000 in
theorem ggX0_remember_X2_storeIn : GoodIn wsX0_remember wsX2_storeIn := goodIn_r _ [12, 13, 14, 15, 16, 17, 18, 22, 23, 24, 25] (by decide +kernel) (by decide +kernel)
set_option maxRecDepth 20000 in
theorem gX0_remember_X2_storeIn : GoodIn wsX0_remember (wsV RX0 25 RX2 yX2_storeIn wsX2_storeIn) := goodIn_app (goodIn_of _ (by decide +kernel)) ggX0_remember_X2_storeIn
set_option maxRecDepth 20000 in
theorem ggX0_takeBack_X2_fetchFrom : GoodIn wsX0_takeBack wsX2_fetchFrom := goodIn_r _ [8, 9, 10, 11, 12, 13, 14, 18, 19, 20, 21] (by decide +kernel) (by decide +kernel)
set_option maxRecDepth 20000 in
theorem gX0_takeBack_X2_fetchFrom : GoodIn wsX0_takeBack (wsV RX0 35 RX2 yX2_fetchFrom wsX2_fetchFrom) := goodIn_app (goodIn_of _ (by decide +kernel)) ggX0_takeBack_X2_fetchFrom
set_option maxRecDepth 20000 in
theorem ggX1_make_X1_commonOf : GoodIn wsX1_make wsX1_commonOf := goodIn_r _ [10] (by decide +kernel) (by decide +kernel)
set_option maxRecDepth 20000 in
theorem gX1_make_X1_commonOf : GoodIn wsX1_make (va_wsS RX1 22 yX1_commonOf wsX1_commonOf) := goodIn_app (goodIn_of _ (by decide +kernel)) ggX1_make_X1_commonOf
set_option maxRecDepth 20000 in
theorem ggX2_isWhole_X2_has : GoodIn wsX2_isWhole wsX2_has := goodIn_r _ [5, 6, 12, 13, 14, 15] (by decide +kernel) (by decide +kernel)
set_option maxRecDepth 20000 in
theorem gX2_isWhole_X2_has : GoodIn wsX2_isWhole (wsV RX2 25 RX2 yX2_has wsX2_has) := goodIn_app (goodIn_of _ (by decide +kernel)) ggX2_isWhole_X2_has
set_option maxRecDepth 20000 in
theorem ggX2_isWhole_X2_part : GoodIn wsX2_isWhole wsX2_part := goodIn_r _ [10, 11, 12, 13, 14, 15] (by decide +kernel) (by decide +kernel)
set_option maxRecDepth 20000 in
theorem gX2_isWhole_X2_part : GoodIn wsX2_isWhole (wsV RX2 29 RX2 yX2_part wsX2_part) := goodIn_app (goodIn_of _ (by decide +kernel)) ggX2_isWhole_X2_part
set_option maxRecDepth 20000 in
theorem ggX2_add_X2_put : GoodIn wsX2_add wsX2_put := goodIn_r _ [6, 7, 8, 9, 10, 11] (by decide +kernel) (by decide +kernel)
set_option maxRecDepth 20000 in
theorem gX2_add_X2_put : GoodIn wsX2_add (wsV RX2 33 RX2 yX2_put wsX2_put) := goodIn_app (goodIn_of _ (by decide +kernel)) ggX2_add_X2_put
set_option maxRecDepth 20000 in
theorem ggX2_copyWithout_X2_copy : GoodIn wsX2_copyWithout wsX2_copy := goodIn_r _ [6, 7, 8, 9, 10, 11, 1, 12, 20, 21, 22, 23] (by decide +kernel) (by decide +kernel)
set_option maxRecDepth 20000 in
theorem gX2_copyWithout_X2_copy : GoodIn wsX2_copyWithout (wsV RX2 43 RX2 yX2_copy wsX2_copy) := goodIn_app (goodIn_of _ (by decide +kernel)) ggX2_copyWithout_X2_copy
set_option maxRecDepth 20000 in
theorem ggX2_copyWithout_X7_isIn : GoodIn wsX2_copyWithout wsX7_isIn := goodIn_r _ [15] (by decide +kernel) (by decide +kernel)
set_option maxRecDepth 20000 in
theorem gX2_copyWithout_X7_isIn_n47 : GoodIn wsX2_copyWithout (wsX7_isIn) := ggX2_copyWithout_X7_isIn
set_option maxRecDepth 20000 in
theorem ggX2_copyWithout_X2_put : GoodIn wsX2_copyWithout wsX2_put := goodIn_r _ [19, 7, 20, 21, 22, 23] (by decide +kernel) (by decide +kernel)
set_option maxRecDepth 20000 in
theorem gX2_copyWithout_X2_put : GoodIn wsX2_copyWithout (wsV RX2 33 RX2 yX2_put wsX2_put) := goodIn_app (goodIn_of _ (by decide +kernel)) ggX2_copyWithout_X2_put
set_option maxRecDepth 20000 in
theorem ggX2_passWeeks_X2_passWeek : GoodIn wsX2_passWeeks wsX2_passWeek := goodIn_r _ [5, 6, 7, 8, 9, 10, 4, 11, 12, 13, 14, 15, 16, 17, 18, 19, 20, 21, 22, 23, 24, 25, 26, 27, 28, 29, 30, 31, 32, 33, 34, 35, 36, 37, 38, 39, 40, 41, 42, 43, 44, 45, 46, 47, 48, 49, 50, 51] (by decide +kernel) (by decide +kernel)
set_option maxRecDepth 20000 in
theorem gX2_passWeeks_X2_passWeek : GoodIn wsX2_passWeeks (wsV RX2 51 RX2 yX2_passWeek wsX2_passWeek) := goodIn_app (goodIn_of _ (by decide +kernel)) ggX2_passWeeks_X2_passWeek
set_option maxRecDepth 20000 in
theorem ggX2_passWeek_X2_isWhole : GoodIn wsX2_passWeek wsX2_isWhole := goodIn_r _ [7, 8, 9, 10, 6, 11, 2, 12, 13, 14, 15, 16, 44, 45, 46, 47] (by decide +kernel) (by decide +kernel)
set_option maxRecDepth 20000 in
theorem gX2_passWeek_X2_isWhole : GoodIn wsX2_passWeek (wsV RX2 54 RX2 yX2_isWhole wsX2_isWhole) := goodIn_app (goodIn_of _ (by decide +kernel)) ggX2_passWeek_X2_isWhole
set_option maxRecDepth 20000 in
theorem ggX2_passWeek_X2_passWeekIn : GoodIn wsX2_passWeek wsX2_passWeekIn := goodIn_r _ [20, 21, 22, 23, 24, 12, 13, 14, 6, 15, 16, 25, 26, 27, 28, 29, 30, 31, 32, 33, 34, 35, 36, 37, 38, 39, 40, 41, 42, 43, 44, 45, 46, 47] (by decide +kernel) (by decide +kernel)
set_option maxRecDepth 20000 in
theorem gX2_passWeek_X2_passWeekIn : GoodIn wsX2_passWeek (wsV RX2 57 RX2 yX2_passWeekIn wsX2_passWeekIn) := goodIn_app (goodIn_of _ (by decide +kernel)) ggX2_passWeek_X2_passWeekIn
set_option maxRecDepth 20000 in
theorem ggX2_passWeekIn_X2_part : GoodIn wsX2_passWeekIn wsX2_part := goodIn_r _ [9, 10, 30, 31, 32, 33] (by decide +kernel) (by decide +kernel)
set_option maxRecDepth 20000 in
theorem gX2_passWeekIn_X2_part : GoodIn wsX2_passWeekIn (wsV RX2 29 RX2 yX2_part wsX2_part) := goodIn_app (goodIn_of _ (by decide +kernel)) ggX2_passWeekIn_X2_part
set_option maxRecDepth 20000 in
theorem ggX2_passWeekIn_X7_ripened : GoodIn wsX2_passWeekIn wsX7_ripened := goodIn_r _ [13, 14, 2, 3, 4, 15, 16, 17, 18, 19, 20, 21] (by decide +kernel) (by decide +kernel)
set_option maxRecDepth 20000 in
theorem gX2_passWeekIn_X7_ripened_n61 : GoodIn wsX2_passWeekIn (wsX7_ripened) := ggX2_passWeekIn_X7_ripened
set_option maxRecDepth 20000 in
theorem ggX2_passWeekIn_X2_put : GoodIn wsX2_passWeekIn wsX2_put := goodIn_r _ [25, 10, 30, 31, 32, 33] (by decide +kernel) (by decide +kernel)
set_option maxRecDepth 20000 in
theorem gX2_passWeekIn_X2_put : GoodIn wsX2_passWeekIn (wsV RX2 33 RX2 yX2_put wsX2_put) := goodIn_app (goodIn_of _ (by decide +kernel)) ggX2_passWeekIn_X2_put
set_option maxRecDepth 20000 in
theorem ggX2_passWeekIn_X2_lookOn : GoodIn wsX2_passWeekIn wsX2_lookOn := goodIn_r _ [29, 5, 6, 7, 8, 9, 10, 22, 23, 24, 25, 30, 31, 32, 33] (by decide +kernel) (by decide +kernel)
set_option maxRecDepth 20000 in
theorem gX2_passWeekIn_X2_lookOn : GoodIn wsX2_passWeekIn (wsV RX2 69 RX2 yX2_lookOn wsX2_lookOn) := goodIn_app (goodIn_of _ (by decide +kernel)) ggX2_passWeekIn_X2_lookOn
set_option maxRecDepth 20000 in
theorem ggX2_lookOn_X2_part : GoodIn wsX2_lookOn wsX2_part := goodIn_r _ [5, 6, 11, 12, 13, 14] (by decide +kernel) (by decide +kernel)
set_option maxRecDepth 20000 in
theorem gX2_lookOn_X2_part : GoodIn wsX2_lookOn (wsV RX2 29 RX2 yX2_part wsX2_part) := goodIn_app (goodIn_of _ (by decide +kernel)) ggX2_lookOn_X2_part
set_option maxRecDepth 20000 in
theorem ggX2_lookOn_X2_put : GoodIn wsX2_lookOn wsX2_put := goodIn_r _ [10, 6, 11, 12, 13, 14] (by decide +kernel) (by decide +kernel)
set_option maxRecDepth 20000 in
theorem gX2_lookOn_X2_put : GoodIn wsX2_lookOn (wsV RX2 33 RX2 yX2_put wsX2_put) := goodIn_app (goodIn_of _ (by decide +kernel)) ggX2_lookOn_X2_put
set_option maxRecDepth 20000 in
theorem ggX2_rattle_X2_wouldCrack : GoodIn wsX2_rattle wsX2_wouldCrack := goodIn_r _ [6, 7, 8, 9, 5, 10, 11, 12, 13, 14, 1, 15, 16, 17, 18, 19, 28, 29, 30, 31] (by decide +kernel) (by decide +kernel)
set_option maxRecDepth 20000 in
theorem gX2_rattle_X2_wouldCrack : GoodIn wsX2_rattle (wsV RX2 73 RX2 yX2_wouldCrack wsX2_wouldCrack) := goodIn_app (goodIn_of _ (by decide +kernel)) ggX2_rattle_X2_wouldCrack
set_option maxRecDepth 20000 in
theorem ggX2_rattle_X2_put : GoodIn wsX2_rattle wsX2_put := goodIn_r _ [23, 19, 28, 29, 30, 31] (by decide +kernel) (by decide +kernel)
set_option maxRecDepth 20000 in
theorem gX2_rattle_X2_put : GoodIn wsX2_rattle (wsV RX2 33 RX2 yX2_put wsX2_put) := goodIn_app (goodIn_of _ (by decide +kernel)) ggX2_rattle_X2_put
set_option maxRecDepth 20000 in
theorem ggX2_rattle_X2_isWhole : GoodIn wsX2_rattle wsX2_isWhole := goodIn_r _ [10, 11, 12, 13, 5, 14, 1, 15, 16, 17, 18, 19, 28, 29, 30, 31] (by decide +kernel) (by decide +kernel)
set_option maxRecDepth 20000 in
theorem gX2_rattle_X2_isWhole : GoodIn wsX2_rattle (wsV RX2 54 RX2 yX2_isWhole wsX2_isWhole) := goodIn_app (goodIn_of _ (by decide +kernel)) ggX2_rattle_X2_isWhole
set_option maxRecDepth 20000 in
theorem ggX2_rattle_X2_part : GoodIn wsX2_rattle wsX2_part := goodIn_r _ [18, 19, 28, 29, 30, 31] (by decide +kernel) (by decide +kernel)
set_option maxRecDepth 20000 in
theorem gX2_rattle_X2_part : GoodIn wsX2_rattle (wsV RX2 29 RX2 yX2_part wsX2_part) := goodIn_app (goodIn_of _ (by decide +kernel)) ggX2_rattle_X2_part
set_option maxRecDepth 20000 in
theorem ggX2_rattle_X2_lookOn : GoodIn wsX2_rattle wsX2_lookOn := goodIn_r _ [27, 15, 16, 17, 5, 18, 19, 20, 21, 22, 23, 28, 29, 30, 31] (by decide +kernel) (by decide +kernel)
set_option maxRecDepth 20000 in
theorem gX2_rattle_X2_lookOn : GoodIn wsX2_rattle (wsV RX2 69 RX2 yX2_lookOn wsX2_lookOn) := goodIn_app (goodIn_of _ (by decide +kernel)) ggX2_rattle_X2_lookOn
set_option maxRecDepth 20000 in
theorem ggX2_wouldCrack_X2_isWhole : GoodIn wsX2_wouldCrack wsX2_isWhole := goodIn_r _ [5, 6, 7, 8, 4, 9, 10, 11, 12, 13, 14, 15, 16, 17, 18, 19] (by decide +kernel) (by decide +kernel)
set_option maxRecDepth 20000 in
theorem gX2_wouldCrack_X2_isWhole : GoodIn wsX2_wouldCrack (wsV RX2 54 RX2 yX2_isWhole wsX2_isWhole) := goodIn_app (goodIn_of _ (by decide +kernel)) ggX2_wouldCrack_X2_isWhole
set_option maxRecDepth 20000 in
theorem ggX2_wouldCrack_X2_part : GoodIn wsX2_wouldCrack wsX2_part := goodIn_r _ [14, 15, 16, 17, 18, 19] (by decide +kernel) (by decide +kernel)
set_option maxRecDepth 20000 in
theorem gX2_wouldCrack_X2_part : GoodIn wsX2_wouldCrack (wsV RX2 29 RX2 yX2_part wsX2_part) := goodIn_app (goodIn_of _ (by decide +kernel)) ggX2_wouldCrack_X2_part
set_option maxRecDepth 20000 in
theorem ggX2_canStand_X2_isWhole : GoodIn wsX2_canStand wsX2_isWhole := goodIn_r _ [5, 6, 7, 8, 4, 9, 10, 11, 12, 13, 14, 15, 23, 24, 25, 26] (by decide +kernel) (by decide +kernel)
set_option maxRecDepth 20000 in
theorem gX2_canStand_X2_isWhole : GoodIn wsX2_canStand (wsV RX2 54 RX2 yX2_isWhole wsX2_isWhole) := goodIn_app (goodIn_of _ (by decide +kernel)) ggX2_canStand_X2_isWhole
set_option maxRecDepth 20000 in
theorem ggX2_canStand_X7_isPlace : GoodIn wsX2_canStand wsX7_isPlace := goodIn_r _ [18] (by decide +kernel) (by decide +kernel)
set_option maxRecDepth 20000 in
theorem gX2_canStand_X7_isPlace_n76 : GoodIn wsX2_canStand (wsX7_isPlace) := ggX2_canStand_X7_isPlace
set_option maxRecDepth 20000 in
theorem ggX2_canStand_X2_jarOn : GoodIn wsX2_canStand wsX2_jarOn := goodIn_r _ [22, 10, 11, 12, 13, 4, 14, 15, 23, 24, 25, 26] (by decide +kernel) (by decide +kernel)
set_option maxRecDepth 20000 in
theorem gX2_canStand_X2_jarOn : GoodIn wsX2_canStand (wsV RX2 79 RX2 yX2_jarOn wsX2_jarOn) := goodIn_app (goodIn_of _ (by decide +kernel)) ggX2_canStand_X2_jarOn
set_option maxRecDepth 20000 in
theorem ggX2_stand_X2_put : GoodIn wsX2_stand wsX2_put := goodIn_r _ [5, 6, 7, 8, 9, 10] (by decide +kernel) (by decide +kernel)
set_option maxRecDepth 20000 in
theorem gX2_stand_X2_put : GoodIn wsX2_stand (wsV RX2 33 RX2 yX2_put wsX2_put) := goodIn_app (goodIn_of _ (by decide +kernel)) ggX2_stand_X2_put
set_option maxRecDepth 20000 in
theorem ggX2_canFill_X2_isWhole : GoodIn wsX2_canFill wsX2_isWhole := goodIn_r _ [5, 6, 7, 8, 4, 9, 10, 11, 12, 13, 14, 15, 19, 20, 21, 22] (by decide +kernel) (by decide +kernel)
set_option maxRecDepth 20000 in
theorem gX2_canFill_X2_isWhole : GoodIn wsX2_canFill (wsV RX2 54 RX2 yX2_isWhole wsX2_isWhole) := goodIn_app (goodIn_of _ (by decide +kernel)) ggX2_canFill_X2_isWhole
set_option maxRecDepth 20000 in
theorem ggX2_canFill_X7_isStuff : GoodIn wsX2_canFill wsX7_isStuff := goodIn_r _ [18] (by decide +kernel) (by decide +kernel)
set_option maxRecDepth 20000 in
theorem gX2_canFill_X7_isStuff_n83 : GoodIn wsX2_canFill (wsX7_isStuff) := ggX2_canFill_X7_isStuff
set_option maxRecDepth 20000 in
theorem ggX2_canFill_X2_part : GoodIn wsX2_canFill wsX2_part := goodIn_r _ [14, 15, 19, 20, 21, 22] (by decide +kernel) (by decide +kernel)
set_option maxRecDepth 20000 in
theorem gX2_canFill_X2_part : GoodIn wsX2_canFill (wsV RX2 29 RX2 yX2_part wsX2_part) := goodIn_app (goodIn_of _ (by decide +kernel)) ggX2_canFill_X2_part
set_option maxRecDepth 20000 in
theorem ggX2_fill_X2_put : GoodIn wsX2_fill wsX2_put := goodIn_r _ [5, 6, 7, 8, 9, 10] (by decide +kernel) (by decide +kernel)
set_option maxRecDepth 20000 in
theorem gX2_fill_X2_put : GoodIn wsX2_fill (wsV RX2 33 RX2 yX2_put wsX2_put) := goodIn_app (goodIn_of _ (by decide +kernel)) ggX2_fill_X2_put
set_option maxRecDepth 20000 in
theorem ggX2_letOut_X2_put : GoodIn wsX2_letOut wsX2_put := goodIn_r _ [5, 6, 7, 8, 9, 10] (by decide +kernel) (by decide +kernel)
set_option maxRecDepth 20000 in
theorem gX2_letOut_X2_put : GoodIn wsX2_letOut (wsV RX2 33 RX2 yX2_put wsX2_put) := goodIn_app (goodIn_of _ (by decide +kernel)) ggX2_letOut_X2_put
set_option maxRecDepth 20000 in
theorem ggX2_turn_X2_put : GoodIn wsX2_turn wsX2_put := goodIn_r _ [5, 6, 7, 8, 9, 10] (by decide +kernel) (by decide +kernel)
set_option maxRecDepth 20000 in
theorem gX2_turn_X2_put : GoodIn wsX2_turn (wsV RX2 33 RX2 yX2_put wsX2_put) := goodIn_app (goodIn_of _ (by decide +kernel)) ggX2_turn_X2_put
set_option maxRecDepth 20000 in
theorem ggX2_tryWeek_X2_passWeek : GoodIn wsX2_tryWeek wsX2_passWeek := goodIn_r _ [5, 6, 7, 8, 9, 10, 4, 11, 12, 13, 14, 15, 16, 17, 18, 19, 20, 21, 22, 23, 24, 25, 26, 27, 28, 29, 30, 31, 32, 33, 34, 35, 36, 37, 38, 39, 40, 41, 42, 43, 44, 45, 46, 47, 48, 49, 50, 51] (by decide +kernel) (by decide +kernel)
set_option maxRecDepth 20000 in
theorem gX2_tryWeek_X2_passWeek : GoodIn wsX2_tryWeek (wsV RX2 51 RX2 yX2_passWeek wsX2_passWeek) := goodIn_app (goodIn_of _ (by decide +kernel)) ggX2_tryWeek_X2_passWeek
set_option maxRecDepth 20000 in
theorem ggX2_tryShake_X2_rattle : GoodIn wsX2_tryShake wsX2_rattle := goodIn_r _ [5, 6, 7, 8, 9, 4, 10, 11, 12, 13, 14, 15, 16, 17, 18, 19, 20, 21, 22, 23, 24, 25, 26, 27, 28, 29, 30, 31, 32, 33, 34, 35] (by decide +kernel) (by decide +kernel)
set_option maxRecDepth 20000 in
theorem gX2_tryShake_X2_rattle : GoodIn wsX2_tryShake (wsV RX2 86 RX2 yX2_rattle wsX2_rattle) := goodIn_app (goodIn_of _ (by decide +kernel)) ggX2_tryShake_X2_rattle
set_option maxRecDepth 20000 in
theorem ggX2_tryStand_X2_canStand : GoodIn wsX2_tryStand wsX2_canStand := goodIn_r _ [5, 6, 7, 8, 4, 9, 10, 11, 12, 13, 14, 15, 16, 17, 18, 19, 20, 21, 22, 23, 24, 25, 26, 35, 36, 37, 38] (by decide +kernel) (by decide +kernel)
set_option maxRecDepth 20000 in
theorem gX2_tryStand_X2_canStand : GoodIn wsX2_tryStand (wsV RX2 90 RX2 yX2_canStand wsX2_canStand) := goodIn_app (goodIn_of _ (by decide +kernel)) ggX2_tryStand_X2_canStand
set_option maxRecDepth 20000 in
theorem ggX2_tryStand_X2_stand : GoodIn wsX2_tryStand wsX2_stand := goodIn_r _ [30, 31, 32, 33, 4, 34, 19, 35, 36, 37, 38] (by decide +kernel) (by decide +kernel)
set_option maxRecDepth 20000 in
theorem gX2_tryStand_X2_stand : GoodIn wsX2_tryStand (wsV RX2 93 RX2 yX2_stand wsX2_stand) := goodIn_app (goodIn_of _ (by decide +kernel)) ggX2_tryStand_X2_stand
set_option maxRecDepth 20000 in
theorem ggX2_tryFill_X2_canFill : GoodIn wsX2_tryFill wsX2_canFill := goodIn_r _ [5, 6, 7, 8, 4, 9, 10, 11, 12, 13, 14, 15, 16, 17, 18, 19, 20, 21, 22, 31, 32, 33, 34] (by decide +kernel) (by decide +kernel)
set_option maxRecDepth 20000 in
theorem gX2_tryFill_X2_canFill : GoodIn wsX2_tryFill (wsV RX2 97 RX2 yX2_canFill wsX2_canFill) := goodIn_app (goodIn_of _ (by decide +kernel)) ggX2_tryFill_X2_canFill
set_option maxRecDepth 20000 in
theorem ggX2_tryFill_X2_fill : GoodIn wsX2_tryFill wsX2_fill := goodIn_r _ [26, 27, 28, 29, 4, 30, 19, 31, 32, 33, 34] (by decide +kernel) (by decide +kernel)
set_option maxRecDepth 20000 in
theorem gX2_tryFill_X2_fill : GoodIn wsX2_tryFill (wsV RX2 100 RX2 yX2_fill wsX2_fill) := goodIn_app (goodIn_of _ (by decide +kernel)) ggX2_tryFill_X2_fill
set_option maxRecDepth 20000 in
theorem ggX2_tryLetOut_X2_isWhole : GoodIn wsX2_tryLetOut wsX2_isWhole := goodIn_r _ [5, 6, 7, 8, 4, 9, 10, 11, 12, 13, 14, 15, 24, 25, 26, 27] (by decide +kernel) (by decide +kernel)
set_option maxRecDepth 20000 in
theorem gX2_tryLetOut_X2_isWhole : GoodIn wsX2_tryLetOut (wsV RX2 54 RX2 yX2_isWhole wsX2_isWhole) := goodIn_app (goodIn_of _ (by decide +kernel)) ggX2_tryLetOut_X2_isWhole
set_option maxRecDepth 20000 in
theorem ggX2_tryLetOut_X2_letOut : GoodIn wsX2_tryLetOut wsX2_letOut := goodIn_r _ [19, 20, 21, 22, 4, 23, 15, 24, 25, 26, 27] (by decide +kernel) (by decide +kernel)
set_option maxRecDepth 20000 in
theorem gX2_tryLetOut_X2_letOut : GoodIn wsX2_tryLetOut (wsV RX2 103 RX2 yX2_letOut wsX2_letOut) := goodIn_app (goodIn_of _ (by decide +kernel)) ggX2_tryLetOut_X2_letOut
set_option maxRecDepth 20000 in
theorem ggX2_jarOn_X2_part : GoodIn wsX2_jarOn wsX2_part := goodIn_r _ [6, 7, 8, 9, 10, 11] (by decide +kernel) (by decide +kernel)
set_option maxRecDepth 20000 in
theorem gX2_jarOn_X2_part : GoodIn wsX2_jarOn (wsV RX2 29 RX2 yX2_part wsX2_part) := goodIn_app (goodIn_of _ (by decide +kernel)) ggX2_jarOn_X2_part
set_option maxRecDepth 20000 in
theorem ggX2_bitsOf_X2_part : GoodIn wsX2_bitsOf wsX2_part := goodIn_r _ [6, 7, 8, 9, 10, 11] (by decide +kernel) (by decide +kernel)
set_option maxRecDepth 20000 in
theorem gX2_bitsOf_X2_part : GoodIn wsX2_bitsOf (wsV RX2 29 RX2 yX2_part wsX2_part) := goodIn_app (goodIn_of _ (by decide +kernel)) ggX2_bitsOf_X2_part
set_option maxRecDepth 20000 in
theorem ggX2_placesTaken_X2_part : GoodIn wsX2_placesTaken wsX2_part := goodIn_r _ [6, 7, 8, 9, 10, 11] (by decide +kernel) (by decide +kernel)
set_option maxRecDepth 20000 in
theorem gX2_placesTaken_X2_part : GoodIn wsX2_placesTaken (wsV RX2 29 RX2 yX2_part wsX2_part) := goodIn_app (goodIn_of _ (by decide +kernel)) ggX2_placesTaken_X2_part
set_option maxRecDepth 20000 in
theorem ggX2_flavours_X2_isWhole : GoodIn wsX2_flavours wsX2_isWhole := goodIn_r _ [6, 7, 8, 9, 5, 10, 1, 11, 12, 13, 14, 15, 16, 17, 18, 19] (by decide +kernel) (by decide +kernel)
set_option maxRecDepth 20000 in
theorem gX2_flavours_X2_isWhole : GoodIn wsX2_flavours (wsV RX2 54 RX2 yX2_isWhole wsX2_isWhole) := goodIn_app (goodIn_of _ (by decide +kernel)) ggX2_flavours_X2_isWhole
set_option maxRecDepth 20000 in
theorem ggX2_flavours_X2_part : GoodIn wsX2_flavours wsX2_part := goodIn_r _ [14, 15, 16, 17, 18, 19] (by decide +kernel) (by decide +kernel)
set_option maxRecDepth 20000 in
theorem gX2_flavours_X2_part : GoodIn wsX2_flavours (wsV RX2 29 RX2 yX2_part wsX2_part) := goodIn_app (goodIn_of _ (by decide +kernel)) ggX2_flavours_X2_part
set_option maxRecDepth 20000 in
theorem ggX2_seenBy_X2_part : GoodIn wsX2_seenBy wsX2_part := goodIn_r _ [5, 6, 28, 29, 30, 31] (by decide +kernel) (by decide +kernel)
set_option maxRecDepth 20000 in
theorem gX2_seenBy_X2_part : GoodIn wsX2_seenBy (wsV RX2 29 RX2 yX2_part wsX2_part) := goodIn_app (goodIn_of _ (by decide +kernel)) ggX2_seenBy_X2_part
set_option maxRecDepth 20000 in
theorem ggX2_seenBy_X2_isWhole : GoodIn wsX2_seenBy wsX2_isWhole := goodIn_r _ [10, 11, 12, 13, 4, 14, 15, 1, 2, 3, 5, 6, 28, 29, 30, 31] (by decide +kernel) (by decide +kernel)
set_option maxRecDepth 20000 in
theorem gX2_seenBy_X2_isWhole : GoodIn wsX2_seenBy (wsV RX2 54 RX2 yX2_isWhole wsX2_isWhole) := goodIn_app (goodIn_of _ (by decide +kernel)) ggX2_seenBy_X2_isWhole
set_option maxRecDepth 20000 in
theorem ggX2_seenBy_X2_nearest : GoodIn wsX2_seenBy wsX2_nearest := goodIn_r _ [19, 15, 1, 2, 3, 4, 5, 6, 28, 29, 30, 31] (by decide +kernel) (by decide +kernel)
set_option maxRecDepth 20000 in
theorem gX2_seenBy_X2_nearest : GoodIn wsX2_seenBy (wsV RX2 106 RX2 yX2_nearest wsX2_nearest) := goodIn_app (goodIn_of _ (by decide +kernel)) ggX2_seenBy_X2_nearest
set_option maxRecDepth 20000 in
theorem ggX2_seenBy_X2_isClear : GoodIn wsX2_seenBy wsX2_isClear := goodIn_r _ [23, 24, 25, 26, 27, 1, 2, 3, 4, 5, 6, 28, 29, 30, 31] (by decide +kernel) (by decide +kernel)
set_option maxRecDepth 20000 in
theorem gX2_seenBy_X2_isClear : GoodIn wsX2_seenBy (wsV RX2 109 RX2 yX2_isClear wsX2_isClear) := goodIn_app (goodIn_of _ (by decide +kernel)) ggX2_seenBy_X2_isClear
set_option maxRecDepth 20000 in
theorem ggX2_nearest_X2_part : GoodIn wsX2_nearest wsX2_part := goodIn_r _ [6, 7, 8, 9, 10, 11] (by decide +kernel) (by decide +kernel)
set_option maxRecDepth 20000 in
theorem gX2_nearest_X2_part : GoodIn wsX2_nearest (wsV RX2 29 RX2 yX2_part wsX2_part) := goodIn_app (goodIn_of _ (by decide +kernel)) ggX2_nearest_X2_part
set_option maxRecDepth 20000 in
theorem ggX2_isClear_X2_part : GoodIn wsX2_isClear wsX2_part := goodIn_r _ [9, 10, 11, 12, 13, 14] (by decide +kernel) (by decide +kernel)
set_option maxRecDepth 20000 in
theorem gX2_isClear_X2_part : GoodIn wsX2_isClear (wsV RX2 29 RX2 yX2_part wsX2_part) := goodIn_app (goodIn_of _ (by decide +kernel)) ggX2_isClear_X2_part
set_option maxRecDepth 20000 in
theorem ggX2_pairs_X2_fillStanding : GoodIn wsX2_pairs wsX2_fillStanding := goodIn_r _ [6, 1, 7, 8, 9, 10, 5, 11, 12, 13, 14, 15, 36, 37, 38, 39] (by decide +kernel) (by decide +kernel)
set_option maxRecDepth 20000 in
theorem gX2_pairs_X2_fillStanding : GoodIn wsX2_pairs (wsV RX2 115 RX2 yX2_fillStanding wsX2_fillStanding) := goodIn_app (goodIn_of _ (by decide +kernel)) ggX2_pairs_X2_fillStanding
set_option maxRecDepth 20000 in
theorem ggX2_pairs_X2_areFacing : GoodIn wsX2_pairs wsX2_areFacing := goodIn_r _ [19, 8, 9, 10, 5, 11, 12, 20, 21, 22, 23, 24, 25, 26, 27, 7, 28, 29, 30, 31, 32, 33, 34, 35, 36, 37, 38, 39] (by decide +kernel) (by decide +kernel)
set_option maxRecDepth 20000 in
theorem gX2_pairs_X2_areFacing : GoodIn wsX2_pairs (wsV RX2 118 RX2 yX2_areFacing wsX2_areFacing) := goodIn_app (goodIn_of _ (by decide +kernel)) ggX2_pairs_X2_areFacing
set_option maxRecDepth 20000 in
theorem ggX2_fillStanding_X2_part : GoodIn wsX2_fillStanding wsX2_part := goodIn_r _ [7, 8, 12, 13, 14, 15] (by decide +kernel) (by decide +kernel)
set_option maxRecDepth 20000 in
theorem gX2_fillStanding_X2_part : GoodIn wsX2_fillStanding (wsV RX2 29 RX2 yX2_part wsX2_part) := goodIn_app (goodIn_of _ (by decide +kernel)) ggX2_fillStanding_X2_part
set_option maxRecDepth 20000 in
theorem ggX2_fillStanding_X7_isPlace : GoodIn wsX2_fillStanding wsX7_isPlace := goodIn_r _ [11] (by decide +kernel) (by decide +kernel)
set_option maxRecDepth 20000 in
theorem gX2_fillStanding_X7_isPlace_n76 : GoodIn wsX2_fillStanding (wsX7_isPlace) := ggX2_fillStanding_X7_isPlace
set_option maxRecDepth 20000 in
theorem ggX2_areFacing_X2_part : GoodIn wsX2_areFacing wsX2_part := goodIn_r _ [5, 6, 24, 25, 26, 27] (by decide +kernel) (by decide +kernel)
set_option maxRecDepth 20000 in
theorem gX2_areFacing_X2_part : GoodIn wsX2_areFacing (wsV RX2 29 RX2 yX2_part wsX2_part) := goodIn_app (goodIn_of _ (by decide +kernel)) ggX2_areFacing_X2_part
set_option maxRecDepth 20000 in
theorem ggX2_areFacing_X2_isWhole : GoodIn wsX2_areFacing wsX2_isWhole := goodIn_r _ [10, 11, 12, 13, 4, 14, 15, 1, 2, 3, 5, 6, 24, 25, 26, 27] (by decide +kernel) (by decide +kernel)
set_option maxRecDepth 20000 in
theorem gX2_areFacing_X2_isWhole : GoodIn wsX2_areFacing (wsV RX2 54 RX2 yX2_isWhole wsX2_isWhole) := goodIn_app (goodIn_of _ (by decide +kernel)) ggX2_areFacing_X2_isWhole
set_option maxRecDepth 20000 in
theorem ggX2_areFacing_X2_isClear : GoodIn wsX2_areFacing wsX2_isClear := goodIn_r _ [19, 20, 21, 22, 23, 1, 2, 3, 4, 5, 6, 24, 25, 26, 27] (by decide +kernel) (by decide +kernel)
set_option maxRecDepth 20000 in
theorem gX2_areFacing_X2_isClear : GoodIn wsX2_areFacing (wsV RX2 109 RX2 yX2_isClear wsX2_isClear) := goodIn_app (goodIn_of _ (by decide +kernel)) ggX2_areFacing_X2_isClear
set_option maxRecDepth 20000 in
theorem ggX2_countLooking_X2_isWhole : GoodIn wsX2_countLooking wsX2_isWhole := goodIn_r _ [6, 7, 8, 9, 5, 10, 1, 11, 12, 13, 14, 15, 16, 17, 18, 19] (by decide +kernel) (by decide +kernel)
set_option maxRecDepth 20000 in
theorem gX2_countLooking_X2_isWhole : GoodIn wsX2_countLooking (wsV RX2 54 RX2 yX2_isWhole wsX2_isWhole) := goodIn_app (goodIn_of _ (by decide +kernel)) ggX2_countLooking_X2_isWhole
set_option maxRecDepth 20000 in
theorem ggX2_countLooking_X2_part : GoodIn wsX2_countLooking wsX2_part := goodIn_r _ [14, 15, 16, 17, 18, 19] (by decide +kernel) (by decide +kernel)
set_option maxRecDepth 20000 in
theorem gX2_countLooking_X2_part : GoodIn wsX2_countLooking (wsV RX2 29 RX2 yX2_part wsX2_part) := goodIn_app (goodIn_of _ (by decide +kernel)) ggX2_countLooking_X2_part
set_option maxRecDepth 20000 in
theorem ggX2_countSeen_X2_seenBy : GoodIn wsX2_countSeen wsX2_seenBy := goodIn_r _ [6, 7, 8, 9, 5, 10, 11, 12, 13, 14, 15, 16, 17, 18, 19, 1, 20, 21, 22, 23, 24, 25, 26, 27, 28, 29, 30, 31, 39, 40, 41, 42] (by decide +kernel) (by decide +kernel)
set_option maxRecDepth 20000 in
theorem gX2_countSeen_X2_seenBy : GoodIn wsX2_countSeen (wsV RX2 121 RX2 yX2_seenBy wsX2_seenBy) := goodIn_app (goodIn_of _ (by decide +kernel)) ggX2_countSeen_X2_seenBy
set_option maxRecDepth 20000 in
theorem ggX2_countSeen_J6_bitCount_0f7a4 : GoodIn wsX2_countSeen wsJ6_bitCount_0f7a4 := goodIn_r _ [35, 36, 37, 38] (by decide +kernel) (by decide +kernel)
set_option maxRecDepth 20000 in
theorem gX2_countSeen_J6_bitCount_0f7a4 : GoodIn wsX2_countSeen (va_wsS RX2 124 yJ6_bitCount_0f7a4 wsJ6_bitCount_0f7a4) := goodIn_app (goodIn_of _ (by decide +kernel)) ggX2_countSeen_J6_bitCount_0f7a4
set_option maxRecDepth 20000 in
theorem ggX3_store_X2_storeIn : GoodIn wsX3_store wsX2_storeIn := goodIn_r _ [7, 8, 9, 10, 11, 12, 13, 16, 17, 18, 19] (by decide +kernel) (by decide +kernel)
set_option maxRecDepth 20000 in
theorem gX3_store_X2_storeIn : GoodIn wsX3_store (wsV RX3 22 RX2 yX2_storeIn wsX2_storeIn) := goodIn_app (goodIn_of _ (by decide +kernel)) ggX3_store_X2_storeIn
set_option maxRecDepth 20000 in
theorem ggX3_fetch_X2_fetchFrom : GoodIn wsX3_fetch wsX2_fetchFrom := goodIn_r _ [7, 8, 9, 10, 11, 12, 13, 16, 17, 18, 19] (by decide +kernel) (by decide +kernel)
set_option maxRecDepth 20000 in
theorem gX3_fetch_X2_fetchFrom : GoodIn wsX3_fetch (wsV RX3 26 RX2 yX2_fetchFrom wsX2_fetchFrom) := goodIn_app (goodIn_of _ (by decide +kernel)) ggX3_fetch_X2_fetchFrom
set_option maxRecDepth 20000 in
theorem ggX4_countFits_X4_fits : GoodIn wsX4_countFits wsX4_fits := goodIn_r _ [5, 6, 7, 8, 9, 10, 4, 11, 12, 13, 14, 15, 16, 17, 18, 19, 20, 21, 22, 23, 24, 25, 26, 27, 28] (by decide +kernel) (by decide +kernel)
set_option maxRecDepth 20000 in
theorem gX4_countFits_X4_fits : GoodIn wsX4_countFits (wsV RX4 22 RX4 yX4_fits wsX4_fits) := goodIn_app (goodIn_of _ (by decide +kernel)) ggX4_countFits_X4_fits
set_option maxRecDepth 20000 in
theorem ggX4_firstFit_X4_fits : GoodIn wsX4_firstFit wsX4_fits := goodIn_r _ [5, 6, 7, 8, 9, 10, 4, 11, 12, 13, 14, 15, 16, 17, 18, 19, 20, 21, 22, 23, 24, 25, 26, 27, 28] (by decide +kernel) (by decide +kernel)
set_option maxRecDepth 20000 in
theorem gX4_firstFit_X4_fits : GoodIn wsX4_firstFit (wsV RX4 22 RX4 yX4_fits wsX4_fits) := goodIn_app (goodIn_of _ (by decide +kernel)) ggX4_firstFit_X4_fits
set_option maxRecDepth 20000 in
theorem ggX4_fits_X4_outOf : GoodIn wsX4_fits wsX4_outOf := goodIn_r _ [7, 8, 9, 10, 11, 12, 13, 14, 15, 16, 17, 18, 19, 20, 21] (by decide +kernel) (by decide +kernel)
set_option maxRecDepth 20000 in
theorem gX4_fits_X4_outOf : GoodIn wsX4_fits (va_wsS RX4 26 yX4_outOf wsX4_outOf) := goodIn_app (goodIn_of _ (by decide +kernel)) ggX4_fits_X4_outOf
set_option maxRecDepth 20000 in
theorem ggX4_outOf_X7_ripened : GoodIn wsX4_outOf wsX7_ripened := goodIn_r _ [3, 4, 5, 6, 7, 8, 9, 10, 11, 12, 13, 14] (by decide +kernel) (by decide +kernel)
set_option maxRecDepth 20000 in
theorem gX4_outOf_X7_ripened_n30 : GoodIn wsX4_outOf (wsX7_ripened) := ggX4_outOf_X7_ripened
set_option maxRecDepth 20000 in
theorem ggX5_firstFault_X5_canBe : GoodIn wsX5_firstFault wsX5_canBe := goodIn_r _ [6, 7, 8, 9, 5, 10, 11, 12, 13, 14, 1, 15, 16, 17, 18, 19, 20, 21, 22, 23, 24, 25, 26, 27, 28, 29] (by decide +kernel) (by decide +kernel)
set_option maxRecDepth 20000 in
theorem gX5_firstFault_X5_canBe : GoodIn wsX5_firstFault (wsV RX5 19 RX5 yX5_canBe wsX5_canBe) := goodIn_app (goodIn_of _ (by decide +kernel)) ggX5_firstFault_X5_canBe
set_option maxRecDepth 20000 in
theorem ggX5_firstFault_X5_columnOf : GoodIn wsX5_firstFault wsX5_columnOf := goodIn_r _ [18] (by decide +kernel) (by decide +kernel)
set_option maxRecDepth 20000 in
theorem gX5_firstFault_X5_columnOf : GoodIn wsX5_firstFault (va_wsS RX5 23 yX5_columnOf wsX5_columnOf) := goodIn_app (goodIn_of _ (by decide +kernel)) ggX5_firstFault_X5_columnOf
set_option maxRecDepth 20000 in
theorem ggX5_firstFault_X5_figure : GoodIn wsX5_firstFault wsX5_figure := goodIn_r _ [10, 11, 12, 13, 5, 14, 1, 15, 28, 29] (by decide +kernel) (by decide +kernel)
set_option maxRecDepth 20000 in
theorem gX5_firstFault_X5_figure : GoodIn wsX5_firstFault (wsV RX5 27 RX5 yX5_figure wsX5_figure) := goodIn_app (goodIn_of _ (by decide +kernel)) ggX5_firstFault_X5_figure
set_option maxRecDepth 20000 in
theorem ggX5_canBe_X5_figure : GoodIn wsX5_canBe wsX5_figure := goodIn_r _ [5, 6, 7, 8, 4, 9, 10, 11, 24, 25] (by decide +kernel) (by decide +kernel)
set_option maxRecDepth 20000 in
theorem gX5_canBe_X5_figure : GoodIn wsX5_canBe (wsV RX5 27 RX5 yX5_figure wsX5_figure) := goodIn_app (goodIn_of _ (by decide +kernel)) ggX5_canBe_X5_figure
set_option maxRecDepth 20000 in
theorem ggX5_canBe_X5_columnOf : GoodIn wsX5_canBe wsX5_columnOf := goodIn_r _ [14] (by decide +kernel) (by decide +kernel)
set_option maxRecDepth 20000 in
theorem gX5_canBe_X5_columnOf : GoodIn wsX5_canBe (va_wsS RX5 23 yX5_columnOf wsX5_columnOf) := goodIn_app (goodIn_of _ (by decide +kernel)) ggX5_canBe_X5_columnOf
set_option maxRecDepth 20000 in
theorem ggX5_canBe_X5_letter : GoodIn wsX5_canBe wsX5_letter := goodIn_r _ [9, 10, 11, 24, 25] (by decide +kernel) (by decide +kernel)
set_option maxRecDepth 20000 in
theorem gX5_canBe_X5_letter : GoodIn wsX5_canBe (wsV RX5 30 RX5 yX5_letter wsX5_letter) := goodIn_app (goodIn_of _ (by decide +kernel)) ggX5_canBe_X5_letter
set_option maxRecDepth 20000 in
theorem ggX5_canBe_X7_isPlace : GoodIn wsX5_canBe wsX7_isPlace := goodIn_r _ [17] (by decide +kernel) (by decide +kernel)
set_option maxRecDepth 20000 in
theorem gX5_canBe_X7_isPlace_n33 : GoodIn wsX5_canBe (wsX7_isPlace) := ggX5_canBe_X7_isPlace
set_option maxRecDepth 20000 in
theorem ggX5_canBe_X7_isIn : GoodIn wsX5_canBe wsX7_isIn := goodIn_r _ [19] (by decide +kernel) (by decide +kernel)
set_option maxRecDepth 20000 in
theorem gX5_canBe_X7_isIn_n37 : GoodIn wsX5_canBe (wsX7_isIn) := ggX5_canBe_X7_isIn
set_option maxRecDepth 20000 in
theorem ggX5_canBe_X7_isFigure : GoodIn wsX5_canBe wsX7_isFigure := goodIn_r _ [21] (by decide +kernel) (by decide +kernel)
set_option maxRecDepth 20000 in
theorem gX5_canBe_X7_isFigure_n40 : GoodIn wsX5_canBe (wsX7_isFigure) := ggX5_canBe_X7_isFigure
set_option maxRecDepth 20000 in
theorem ggX5_canBe_X7_isStuff : GoodIn wsX5_canBe wsX7_isStuff := goodIn_r _ [23] (by decide +kernel) (by decide +kernel)
set_option maxRecDepth 20000 in
theorem gX5_canBe_X7_isStuff_n43 : GoodIn wsX5_canBe (wsX7_isStuff) := ggX5_canBe_X7_isStuff
set_option maxRecDepth 20000 in
theorem ggX5_figure_X5_letter : GoodIn wsX5_figure wsX5_letter := goodIn_r _ [5, 6, 7, 8, 9] (by decide +kernel) (by decide +kernel)
set_option maxRecDepth 20000 in
theorem gX5_figure_X5_letter : GoodIn wsX5_figure (wsV RX5 30 RX5 yX5_letter wsX5_letter) := goodIn_app (goodIn_of _ (by decide +kernel)) ggX5_figure_X5_letter
set_option maxRecDepth 20000 in
theorem ggX5_fillShelf_X2_clear : GoodIn wsX5_fillShelf wsX2_clear := goodIn_r _ [6, 7, 8, 30, 31, 32, 33] (by decide +kernel) (by decide +kernel)
set_option maxRecDepth 20000 in
theorem gX5_fillShelf_X2_clear : GoodIn wsX5_fillShelf (wsV RX5 46 RX2 yX2_clear wsX2_clear) := goodIn_app (goodIn_of _ (by decide +kernel)) ggX5_fillShelf_X2_clear
set_option maxRecDepth 20000 in
theorem ggX5_fillShelf_X5_figure : GoodIn wsX5_fillShelf wsX5_figure := goodIn_r _ [13, 14, 15, 16, 12, 17, 1, 18, 28, 29] (by decide +kernel) (by decide +kernel)
set_option maxRecDepth 20000 in
theorem gX5_fillShelf_X5_figure : GoodIn wsX5_fillShelf (wsV RX5 27 RX5 yX5_figure wsX5_figure) := goodIn_app (goodIn_of _ (by decide +kernel)) ggX5_fillShelf_X5_figure
set_option maxRecDepth 20000 in
theorem ggX5_fillShelf_X2_add : GoodIn wsX5_fillShelf wsX2_add := goodIn_r _ [22, 7, 23, 24, 25, 5, 26, 27, 30, 31, 32, 33] (by decide +kernel) (by decide +kernel)
set_option maxRecDepth 20000 in
theorem gX5_fillShelf_X2_add : GoodIn wsX5_fillShelf (wsV RX5 51 RX2 yX2_add wsX2_add) := goodIn_app (goodIn_of _ (by decide +kernel)) ggX5_fillShelf_X2_add
set_option maxRecDepth 20000 in
theorem ggX6_search_X6_gather : GoodIn wsX6_search wsX6_gather := goodIn_r _ [10, 11, 12, 13, 14, 15, 16, 17, 18, 19, 20, 21, 22, 23, 24, 25, 26, 27, 28, 29, 30, 31, 32, 33, 34, 35, 36, 86, 87, 88, 89, 90, 91, 92, 93, 94] (by decide +kernel) (by decide +kernel)
set_option maxRecDepth 20000 in
theorem gX6_search_X6_gather : GoodIn wsX6_search (wsV RX6 28 RX6 yX6_gather wsX6_gather) := goodIn_app (goodIn_of _ (by decide +kernel)) ggX6_search_X6_gather
set_option maxRecDepth 20000 in
theorem ggX6_search_X2_countLooking : GoodIn wsX6_search wsX2_countLooking := goodIn_r _ [40, 19, 41, 21, 22, 17, 23, 24, 25, 26, 27, 28, 29, 30, 31, 32, 91, 92, 93, 94] (by decide +kernel) (by decide +kernel)
set_option maxRecDepth 20000 in
theorem gX6_search_X2_countLooking : GoodIn wsX6_search (wsV RX6 32 RX2 yX2_countLooking wsX2_countLooking) := goodIn_app (goodIn_of _ (by decide +kernel)) ggX6_search_X2_countLooking
set_option maxRecDepth 20000 in
theorem ggX6_search_X6_consider : GoodIn wsX6_search wsX6_consider := goodIn_r _ [45, 11, 12, 13, 5, 46, 47, 48, 49, 17, 50, 51, 52, 53, 54, 32, 55, 56, 57, 58, 59, 60, 61, 62, 63, 19, 28, 29, 30, 31, 64, 65, 66, 67, 68, 69, 70, 41, 21, 22, 23, 24, 25, 26, 27, 71, 72, 73, 74, 75, 76, 3, 77, 86, 87, 88, 89, 90, 91, 92, 93, 94] (by decide +kernel) (by decide +kernel)
set_option maxRecDepth 20000 in
theorem gX6_search_X6_consider : GoodIn wsX6_search (wsV RX6 44 RX6 yX6_consider wsX6_consider) := goodIn_app (goodIn_of _ (by decide +kernel)) ggX6_search_X6_consider
set_option maxRecDepth 20000 in
theorem ggX6_search_X6_nextWay : GoodIn wsX6_search wsX6_nextWay := goodIn_r _ [81, 11, 13, 82, 83, 84, 9, 85, 86, 87, 88, 89, 90] (by decide +kernel) (by decide +kernel)
set_option maxRecDepth 20000 in
theorem gX6_search_X6_nextWay : GoodIn wsX6_search (wsV RX6 47 RX6 yX6_nextWay wsX6_nextWay) := goodIn_app (goodIn_of _ (by decide +kernel)) ggX6_search_X6_nextWay
set_option maxRecDepth 20000 in
theorem ggX6_gather_X2_jars : GoodIn wsX6_gather wsX2_jars := goodIn_r _ [8, 9, 32, 33, 34, 35] (by decide +kernel) (by decide +kernel)
set_option maxRecDepth 20000 in
theorem gX6_gather_X2_jars : GoodIn wsX6_gather (wsV RX6 51 RX2 yX2_jars wsX2_jars) := goodIn_app (goodIn_of _ (by decide +kernel)) ggX6_gather_X2_jars
set_option maxRecDepth 20000 in
theorem ggX6_gather_X2_isWhole : GoodIn wsX6_gather wsX2_isWhole := goodIn_r _ [13, 14, 15, 16, 7, 17, 9, 18, 19, 20, 21, 22, 32, 33, 34, 35] (by decide +kernel) (by decide +kernel)
set_option maxRecDepth 20000 in
theorem gX6_gather_X2_isWhole : GoodIn wsX6_gather (wsV RX6 55 RX2 yX2_isWhole wsX2_isWhole) := goodIn_app (goodIn_of _ (by decide +kernel)) ggX6_gather_X2_isWhole
set_option maxRecDepth 20000 in
theorem ggX6_gather_X2_jarOn : GoodIn wsX6_gather wsX2_jarOn := goodIn_r _ [26, 9, 18, 19, 20, 7, 21, 22, 32, 33, 34, 35] (by decide +kernel) (by decide +kernel)
set_option maxRecDepth 20000 in
theorem gX6_gather_X2_jarOn : GoodIn wsX6_gather (wsV RX6 59 RX2 yX2_jarOn wsX2_jarOn) := goodIn_app (goodIn_of _ (by decide +kernel)) ggX6_gather_X2_jarOn
set_option maxRecDepth 20000 in
theorem ggX6_consider_X2_stand : GoodIn wsX6_consider wsX2_stand := goodIn_r _ [10, 11, 12, 13, 9, 14, 15, 58, 59, 60, 61] (by decide +kernel) (by decide +kernel)
set_option maxRecDepth 20000 in
theorem gX6_consider_X2_stand : GoodIn wsX6_consider (wsV RX6 62 RX2 yX2_stand wsX2_stand) := goodIn_app (goodIn_of _ (by decide +kernel)) ggX6_consider_X2_stand
set_option maxRecDepth 20000 in
theorem ggX6_consider_X2_pairs : GoodIn wsX6_consider wsX2_pairs := goodIn_r _ [19, 20, 21, 22, 23, 9, 24, 25, 26, 27, 28, 29, 15, 30, 31, 32, 33, 34, 35, 36, 37, 38, 39, 40, 41, 42, 43, 44, 45, 46, 47, 48, 49, 50, 51, 52, 58, 59, 60, 61] (by decide +kernel) (by decide +kernel)
set_option maxRecDepth 20000 in
theorem gX6_consider_X2_pairs : GoodIn wsX6_consider (wsV RX6 66 RX2 yX2_pairs wsX2_pairs) := goodIn_app (goodIn_of _ (by decide +kernel)) ggX6_consider_X2_pairs
set_option maxRecDepth 20000 in
theorem ggX6_nextWay_X6_swap : GoodIn wsX6_nextWay wsX6_swap := goodIn_r _ [7, 2, 8, 9, 10, 11, 12] (by decide +kernel) (by decide +kernel)
set_option maxRecDepth 20000 in
theorem gX6_nextWay_X6_swap : GoodIn wsX6_nextWay (wsV RX6 69 RX6 yX6_swap wsX6_swap) := goodIn_app (goodIn_of _ (by decide +kernel)) ggX6_nextWay_X6_swap
set_option maxRecDepth 20000 in
theorem ggX7_init_X5_init : GoodIn wsX7_init wsX5_init := goodIn_r _ [35, 36, 2, 3, 37, 38, 39, 80, 81] (by decide +kernel) (by decide +kernel)
set_option maxRecDepth 20000 in
theorem gX7_init_X5_init_n9 : GoodIn wsX7_init (wsX5_init) := ggX7_init_X5_init
set_option maxRecDepth 20000 in
theorem ggX7_init_X2_init : GoodIn wsX7_init wsX2_init := goodIn_r _ [41, 42, 2, 3, 37, 43, 44, 45, 46, 91, 92, 93, 94] (by decide +kernel) (by decide +kernel)
set_option maxRecDepth 20000 in
theorem gX7_init_X2_init_n18 : GoodIn wsX7_init (wsX2_init) := ggX7_init_X2_init
set_option maxRecDepth 20000 in
theorem ggX7_init_X0_init : GoodIn wsX7_init wsX0_init := goodIn_r _ [48, 49, 2, 3, 50, 37, 51, 52, 53, 95, 96, 97] (by decide +kernel) (by decide +kernel)
set_option maxRecDepth 20000 in
theorem gX7_init_X0_init_n28 : GoodIn wsX7_init (wsX0_init) := ggX7_init_X0_init
set_option maxRecDepth 20000 in
theorem ggX7_init_X3_init : GoodIn wsX7_init wsX3_init := goodIn_r _ [55, 56, 2, 3, 57, 37, 58, 59, 60, 98, 99] (by decide +kernel) (by decide +kernel)
set_option maxRecDepth 20000 in
theorem gX7_init_X3_init_n35 : GoodIn wsX7_init (wsX3_init) := ggX7_init_X3_init
set_option maxRecDepth 20000 in
theorem ggX7_init_X4_init : GoodIn wsX7_init wsX4_init := goodIn_r _ [62, 63, 2, 3, 37, 64, 65, 66, 100, 101, 102] (by decide +kernel) (by decide +kernel)
set_option maxRecDepth 20000 in
theorem gX7_init_X4_init_n42 : GoodIn wsX7_init (wsX4_init) := ggX7_init_X4_init
set_option maxRecDepth 20000 in
theorem ggX7_init_X6_init : GoodIn wsX7_init wsX6_init := goodIn_r _ [68, 69, 2, 3, 37, 70, 71, 72, 73, 74, 103, 104, 105, 106, 107] (by decide +kernel) (by decide +kernel)
set_option maxRecDepth 20000 in
theorem gX7_init_X6_init_n49 : GoodIn wsX7_init (wsX6_init) := ggX7_init_X6_init
set_option maxRecDepth 20000 in
theorem ggX7_init_X1_init : GoodIn wsX7_init wsX1_init := goodIn_r _ [76, 77, 2, 3, 78, 79, 108, 109] (by decide +kernel) (by decide +kernel)
set_option maxRecDepth 20000 in
theorem gX7_init_X1_init_n56 : GoodIn wsX7_init (wsX1_init) := ggX7_init_X1_init
set_option maxRecDepth 20000 in
theorem ggX7_write_X5_add : GoodIn wsX7_write wsX5_add := goodIn_r _ [6, 7, 8, 22, 23] (by decide +kernel) (by decide +kernel)
set_option maxRecDepth 20000 in
theorem gX7_write_X5_add : GoodIn wsX7_write (wsV RX7 65 RX5 yX5_add wsX5_add) := goodIn_app (goodIn_of _ (by decide +kernel)) ggX7_write_X5_add
set_option maxRecDepth 20000 in
theorem ggX7_write_X5_length : GoodIn wsX7_write wsX5_length := goodIn_r _ [12, 7, 22, 23] (by decide +kernel) (by decide +kernel)
set_option maxRecDepth 20000 in
theorem gX7_write_X5_length : GoodIn wsX7_write (wsV RX7 69 RX5 yX5_length wsX5_length) := goodIn_app (goodIn_of _ (by decide +kernel)) ggX7_write_X5_length
set_option maxRecDepth 20000 in
theorem ggX7_wipe_X5_length : GoodIn wsX7_wipe wsX5_length := goodIn_r _ [6, 7, 21, 22] (by decide +kernel) (by decide +kernel)
set_option maxRecDepth 20000 in
theorem gX7_wipe_X5_length : GoodIn wsX7_wipe (wsV RX7 69 RX5 yX5_length wsX5_length) := goodIn_app (goodIn_of _ (by decide +kernel)) ggX7_wipe_X5_length
set_option maxRecDepth 20000 in
theorem ggX7_wipe_X5_clear : GoodIn wsX7_wipe wsX5_clear := goodIn_r _ [11, 7, 21, 22] (by decide +kernel) (by decide +kernel)
set_option maxRecDepth 20000 in
theorem gX7_wipe_X5_clear : GoodIn wsX7_wipe (wsV RX7 73 RX5 yX5_clear wsX5_clear) := goodIn_app (goodIn_of _ (by decide +kernel)) ggX7_wipe_X5_clear
set_option maxRecDepth 20000 in
theorem ggX7_fault_X5_firstFault : GoodIn wsX7_fault wsX5_firstFault := goodIn_r _ [6, 7, 8, 9, 10, 5, 11, 12, 13, 14, 15, 16, 17, 18, 19, 20, 21, 22, 23, 24, 25, 26, 27, 28, 29, 30, 31, 32, 42, 43] (by decide +kernel) (by decide +kernel)
set_option maxRecDepth 20000 in
theorem gX7_fault_X5_firstFault : GoodIn wsX7_fault (wsV RX7 76 RX5 yX5_firstFault wsX5_firstFault) := goodIn_app (goodIn_of _ (by decide +kernel)) ggX7_fault_X5_firstFault
set_option maxRecDepth 20000 in
theorem ggX7_sale_X5_firstFault : GoodIn wsX7_sale wsX5_firstFault := goodIn_r _ [9, 10, 11, 12, 13, 8, 14, 15, 16, 17, 18, 19, 20, 21, 22, 23, 24, 25, 26, 27, 28, 29, 30, 31, 32, 33, 34, 35, 81, 82] (by decide +kernel) (by decide +kernel)
set_option maxRecDepth 20000 in
theorem gX7_sale_X5_firstFault : GoodIn wsX7_sale (wsV RX7 76 RX5 yX5_firstFault wsX5_firstFault) := goodIn_app (goodIn_of _ (by decide +kernel)) ggX7_sale_X5_firstFault
set_option maxRecDepth 20000 in
theorem ggX7_sale_X5_fillShelf : GoodIn wsX7_sale wsX5_fillShelf := goodIn_r _ [39, 10, 40, 41, 42, 43, 44, 45, 46, 15, 16, 17, 8, 18, 19, 20, 21, 22, 23, 47, 48, 49, 50, 51, 52, 53, 54, 55, 81, 82, 83, 84, 85, 86] (by decide +kernel) (by decide +kernel)
set_option maxRecDepth 20000 in
theorem gX7_sale_X5_fillShelf : GoodIn wsX7_sale (wsV RX7 79 RX5 yX5_fillShelf wsX5_fillShelf) := goodIn_app (goodIn_of _ (by decide +kernel)) ggX7_sale_X5_fillShelf
set_option maxRecDepth 20000 in
theorem ggX7_sale_X0_forget : GoodIn wsX7_sale wsX0_forget := goodIn_r _ [60, 61, 87, 88, 89] (by decide +kernel) (by decide +kernel)
set_option maxRecDepth 20000 in
theorem gX7_sale_X0_forget : GoodIn wsX7_sale (wsV RX7 83 RX0 yX0_forget wsX0_forget) := goodIn_app (goodIn_of _ (by decide +kernel)) ggX7_sale_X0_forget
set_option maxRecDepth 20000 in
theorem ggX7_sale_X3_forget : GoodIn wsX7_sale wsX3_forget := goodIn_r _ [66, 67, 90, 91] (by decide +kernel) (by decide +kernel)
set_option maxRecDepth 20000 in
theorem gX7_sale_X3_forget : GoodIn wsX7_sale (wsV RX7 86 RX3 yX3_forget wsX3_forget) := goodIn_app (goodIn_of _ (by decide +kernel)) ggX7_sale_X3_forget
set_option maxRecDepth 20000 in
theorem ggX7_sale_X2_jars : GoodIn wsX7_sale wsX2_jars := goodIn_r _ [71, 45, 83, 84, 85, 86] (by decide +kernel) (by decide +kernel)
set_option maxRecDepth 20000 in
theorem gX7_sale_X2_jars : GoodIn wsX7_sale (wsV RX7 87 RX2 yX2_jars wsX2_jars) := goodIn_app (goodIn_of _ (by decide +kernel)) ggX7_sale_X2_jars
set_option maxRecDepth 20000 in
theorem ggX7_about_X2_jars : GoodIn wsX7_about wsX2_jars := goodIn_r _ [9, 10, 88, 89, 90, 91] (by decide +kernel) (by decide +kernel)
set_option maxRecDepth 20000 in
theorem gX7_about_X2_jars : GoodIn wsX7_about (wsV RX7 87 RX2 yX2_jars wsX2_jars) := goodIn_app (goodIn_of _ (by decide +kernel)) ggX7_about_X2_jars
set_option maxRecDepth 20000 in
theorem ggX7_about_X2_weeks : GoodIn wsX7_about wsX2_weeks := goodIn_r _ [14, 15, 88, 89, 90, 91] (by decide +kernel) (by decide +kernel)
set_option maxRecDepth 20000 in
theorem gX7_about_X2_weeks : GoodIn wsX7_about (wsV RX7 90 RX2 yX2_weeks wsX2_weeks) := goodIn_app (goodIn_of _ (by decide +kernel)) ggX7_about_X2_weeks
set_option maxRecDepth 20000 in
theorem ggX7_about_X2_bitsOf : GoodIn wsX7_about wsX2_bitsOf := goodIn_r _ [19, 10, 20, 21, 22, 8, 23, 24, 88, 89, 90, 91] (by decide +kernel) (by decide +kernel)
set_option maxRecDepth 20000 in
theorem gX7_about_X2_bitsOf : GoodIn wsX7_about (wsV RX7 93 RX2 yX2_bitsOf wsX2_bitsOf) := goodIn_app (goodIn_of _ (by decide +kernel)) ggX7_about_X2_bitsOf
set_option maxRecDepth 20000 in
theorem ggX7_about_X2_placesTaken : GoodIn wsX7_about wsX2_placesTaken := goodIn_r _ [28, 10, 20, 21, 22, 8, 23, 24, 88, 89, 90, 91] (by decide +kernel) (by decide +kernel)
set_option maxRecDepth 20000 in
theorem gX7_about_X2_placesTaken : GoodIn wsX7_about (wsV RX7 97 RX2 yX2_placesTaken wsX2_placesTaken) := goodIn_app (goodIn_of _ (by decide +kernel)) ggX7_about_X2_placesTaken
set_option maxRecDepth 20000 in
theorem ggX7_about_X2_pairs : GoodIn wsX7_about wsX2_pairs := goodIn_r _ [32, 33, 34, 35, 36, 8, 37, 10, 20, 21, 22, 23, 24, 38, 39, 40, 41, 42, 43, 44, 45, 46, 47, 48, 49, 50, 51, 52, 53, 54, 55, 56, 57, 58, 59, 60, 88, 89, 90, 91] (by decide +kernel) (by decide +kernel)
set_option maxRecDepth 20000 in
theorem gX7_about_X2_pairs : GoodIn wsX7_about (wsV RX7 100 RX2 yX2_pairs wsX2_pairs) := goodIn_app (goodIn_of _ (by decide +kernel)) ggX7_about_X2_pairs
set_option maxRecDepth 20000 in
theorem ggX7_about_X0_count : GoodIn wsX7_about wsX0_count := goodIn_r _ [65, 66, 92, 93, 94] (by decide +kernel) (by decide +kernel)
set_option maxRecDepth 20000 in
theorem gX7_about_X0_count : GoodIn wsX7_about (wsV RX7 103 RX0 yX0_count wsX0_count) := goodIn_app (goodIn_of _ (by decide +kernel)) ggX7_about_X0_count
set_option maxRecDepth 20000 in
theorem ggX7_about_X4_count : GoodIn wsX7_about wsX4_count := goodIn_r _ [71, 72, 95, 96, 97] (by decide +kernel) (by decide +kernel)
set_option maxRecDepth 20000 in
theorem gX7_about_X4_count : GoodIn wsX7_about (wsV RX7 106 RX4 yX4_count wsX4_count) := goodIn_app (goodIn_of _ (by decide +kernel)) ggX7_about_X4_count
set_option maxRecDepth 20000 in
theorem ggX7_about_X5_length : GoodIn wsX7_about wsX5_length := goodIn_r _ [77, 78, 98, 99] (by decide +kernel) (by decide +kernel)
set_option maxRecDepth 20000 in
theorem gX7_about_X5_length : GoodIn wsX7_about (wsV RX7 69 RX5 yX5_length wsX5_length) := goodIn_app (goodIn_of _ (by decide +kernel)) ggX7_about_X5_length
set_option maxRecDepth 20000 in
theorem ggX7_jar_X2_has : GoodIn wsX7_jar wsX2_has := goodIn_r _ [6, 7, 44, 45, 46, 47] (by decide +kernel) (by decide +kernel)
set_option maxRecDepth 20000 in
theorem gX7_jar_X2_has : GoodIn wsX7_jar (wsV RX7 107 RX2 yX2_has wsX2_has) := goodIn_app (goodIn_of _ (by decide +kernel)) ggX7_jar_X2_has
set_option maxRecDepth 20000 in
theorem ggX7_jar_X2_seenBy : GoodIn wsX7_jar wsX2_seenBy := goodIn_r _ [11, 12, 13, 14, 5, 15, 16, 17, 18, 19, 20, 21, 3, 4, 6, 7, 22, 23, 24, 25, 26, 27, 28, 29, 30, 31, 32, 33, 44, 45, 46, 47] (by decide +kernel) (by decide +kernel)
set_option maxRecDepth 20000 in
theorem gX7_jar_X2_seenBy : GoodIn wsX7_jar (wsV RX7 110 RX2 yX2_seenBy wsX2_seenBy) := goodIn_app (goodIn_of _ (by decide +kernel)) ggX7_jar_X2_seenBy
set_option maxRecDepth 20000 in
theorem ggX7_jar_X2_part : GoodIn wsX7_jar wsX2_part := goodIn_r _ [15, 16, 44, 45, 46, 47] (by decide +kernel) (by decide +kernel)
set_option maxRecDepth 20000 in
theorem gX7_jar_X2_part : GoodIn wsX7_jar (wsV RX7 113 RX2 yX2_part wsX2_part) := goodIn_app (goodIn_of _ (by decide +kernel)) ggX7_jar_X2_part
set_option maxRecDepth 20000 in
theorem ggX7_at_X7_isPlace : GoodIn wsX7_at wsX7_isPlace := goodIn_r _ [5] (by decide +kernel) (by decide +kernel)
set_option maxRecDepth 20000 in
theorem gX7_at_X7_isPlace : GoodIn wsX7_at (va_wsS RX7 117 yX7_isPlace wsX7_isPlace) := goodIn_app (goodIn_of _ (by decide +kernel)) ggX7_at_X7_isPlace
set_option maxRecDepth 20000 in
theorem ggX7_at_X2_jarOn : GoodIn wsX7_at wsX2_jarOn := goodIn_r _ [10, 11, 12, 13, 14, 9, 15, 16, 26, 27, 28, 29] (by decide +kernel) (by decide +kernel)
set_option maxRecDepth 20000 in
theorem gX7_at_X2_jarOn : GoodIn wsX7_at (wsV RX7 120 RX2 yX2_jarOn wsX2_jarOn) := goodIn_app (goodIn_of _ (by decide +kernel)) ggX7_at_X2_jarOn
set_option maxRecDepth 20000 in
theorem ggX7_week_X0_remember : GoodIn wsX7_week wsX0_remember := goodIn_r _ [7, 8, 9, 10, 11, 12, 13, 14, 15, 16, 17, 18, 19, 20, 21, 22, 23, 24, 25, 80, 81, 82, 83, 84, 85, 86] (by decide +kernel) (by decide +kernel)
set_option maxRecDepth 20000 in
theorem gX7_week_X0_remember : GoodIn wsX7_week (wsV RX7 123 RX0 yX0_remember wsX0_remember) := goodIn_app (goodIn_of _ (by decide +kernel)) ggX7_week_X0_remember
set_option maxRecDepth 20000 in
theorem ggX7_week_X2_passWeek : GoodIn wsX7_week wsX2_passWeek := goodIn_r _ [29, 25, 30, 31, 32, 33, 18, 34, 35, 36, 37, 38, 39, 40, 41, 42, 20, 43, 44, 45, 46, 47, 12, 13, 14, 48, 49, 50, 51, 52, 53, 54, 55, 56, 57, 58, 59, 60, 61, 62, 63, 64, 65, 66, 83, 84, 85, 86] (by decide +kernel) (by decide +kernel)
set_option maxRecDepth 20000 in
theorem gX7_week_X2_passWeek : GoodIn wsX7_week (wsV RX7 126 RX2 yX2_passWeek wsX2_passWeek) := goodIn_app (goodIn_of _ (by decide +kernel)) ggX7_week_X2_passWeek
set_option maxRecDepth 20000 in
theorem ggX7_week_X2_flavours : GoodIn wsX7_week wsX2_flavours := goodIn_r _ [70, 30, 31, 32, 33, 18, 34, 35, 36, 37, 38, 39, 40, 41, 42, 20, 83, 84, 85, 86] (by decide +kernel) (by decide +kernel)
set_option maxRecDepth 20000 in
theorem gX7_week_X2_flavours : GoodIn wsX7_week (wsV RX7 129 RX2 yX2_flavours wsX2_flavours) := goodIn_app (goodIn_of _ (by decide +kernel)) ggX7_week_X2_flavours
set_option maxRecDepth 20000 in
theorem ggX7_shake_X0_remember : GoodIn wsX7_shake wsX0_remember := goodIn_r _ [7, 8, 9, 10, 11, 12, 13, 14, 15, 16, 17, 18, 19, 20, 21, 22, 23, 24, 25, 64, 65, 66, 67, 68, 69, 70] (by decide +kernel) (by decide +kernel)
set_option maxRecDepth 20000 in
theorem gX7_shake_X0_remember : GoodIn wsX7_shake (wsV RX7 123 RX0 yX0_remember wsX0_remember) := goodIn_app (goodIn_of _ (by decide +kernel)) ggX7_shake_X0_remember
set_option maxRecDepth 20000 in
theorem ggX7_shake_X2_rattle : GoodIn wsX7_shake wsX2_rattle := goodIn_r _ [29, 30, 31, 32, 33, 18, 34, 35, 36, 37, 38, 39, 40, 41, 42, 43, 44, 45, 46, 20, 47, 48, 49, 50, 51, 52, 53, 54, 67, 68, 69, 70] (by decide +kernel) (by decide +kernel)
set_option maxRecDepth 20000 in
theorem gX7_shake_X2_rattle : GoodIn wsX7_shake (wsV RX7 132 RX2 yX2_rattle wsX2_rattle) := goodIn_app (goodIn_of _ (by decide +kernel)) ggX7_shake_X2_rattle
set_option maxRecDepth 20000 in
theorem ggX7_set_X2_has : GoodIn wsX7_set wsX2_has := goodIn_r _ [7, 8, 70, 71, 72, 73] (by decide +kernel) (by decide +kernel)
set_option maxRecDepth 20000 in
theorem gX7_set_X2_has : GoodIn wsX7_set (wsV RX7 107 RX2 yX2_has wsX2_has) := goodIn_app (goodIn_of _ (by decide +kernel)) ggX7_set_X2_has
set_option maxRecDepth 20000 in
theorem ggX7_set_X7_isPlace : GoodIn wsX7_set wsX7_isPlace := goodIn_r _ [12] (by decide +kernel) (by decide +kernel)
set_option maxRecDepth 20000 in
theorem gX7_set_X7_isPlace : GoodIn wsX7_set (va_wsS RX7 117 yX7_isPlace wsX7_isPlace) := goodIn_app (goodIn_of _ (by decide +kernel)) ggX7_set_X7_isPlace
set_option maxRecDepth 20000 in
theorem ggX7_set_X2_canStand : GoodIn wsX7_set wsX2_canStand := goodIn_r _ [16, 17, 18, 19, 6, 20, 21, 4, 5, 7, 8, 22, 23, 24, 25, 26, 10, 11, 12, 27, 28, 29, 30, 70, 71, 72, 73] (by decide +kernel) (by decide +kernel)
set_option maxRecDepth 20000 in
theorem gX7_set_X2_canStand : GoodIn wsX7_set (wsV RX7 135 RX2 yX2_canStand wsX2_canStand) := goodIn_app (goodIn_of _ (by decide +kernel)) ggX7_set_X2_canStand
set_option maxRecDepth 20000 in
theorem ggX7_set_X0_remember : GoodIn wsX7_set wsX0_remember := goodIn_r _ [35, 36, 37, 38, 39, 40, 41, 42, 43, 44, 45, 6, 46, 26, 47, 48, 49, 50, 51, 74, 75, 76, 70, 71, 72, 73] (by decide +kernel) (by decide +kernel)
set_option maxRecDepth 20000 in
theorem gX7_set_X0_remember : GoodIn wsX7_set (wsV RX7 123 RX0 yX0_remember wsX0_remember) := goodIn_app (goodIn_of _ (by decide +kernel)) ggX7_set_X0_remember
set_option maxRecDepth 20000 in
theorem ggX7_set_X2_part : GoodIn wsX7_set wsX2_part := goodIn_r _ [25, 26, 70, 71, 72, 73] (by decide +kernel) (by decide +kernel)
set_option maxRecDepth 20000 in
theorem gX7_set_X2_part : GoodIn wsX7_set (wsV RX7 113 RX2 yX2_part wsX2_part) := goodIn_app (goodIn_of _ (by decide +kernel)) ggX7_set_X2_part
set_option maxRecDepth 20000 in
theorem ggX7_set_X2_stand : GoodIn wsX7_set wsX2_stand := goodIn_r _ [56, 57, 58, 59, 6, 60, 26, 70, 71, 72, 73] (by decide +kernel) (by decide +kernel)
set_option maxRecDepth 20000 in
theorem gX7_set_X2_stand : GoodIn wsX7_set (wsV RX7 139 RX2 yX2_stand wsX2_stand) := goodIn_app (goodIn_of _ (by decide +kernel)) ggX7_set_X2_stand
set_option maxRecDepth 20000 in
theorem ggX7_pour_X2_has : GoodIn wsX7_pour wsX2_has := goodIn_r _ [7, 8, 66, 67, 68, 69] (by decide +kernel) (by decide +kernel)
set_option maxRecDepth 20000 in
theorem gX7_pour_X2_has : GoodIn wsX7_pour (wsV RX7 107 RX2 yX2_has wsX2_has) := goodIn_app (goodIn_of _ (by decide +kernel)) ggX7_pour_X2_has
set_option maxRecDepth 20000 in
theorem ggX7_pour_X7_isStuff : GoodIn wsX7_pour wsX7_isStuff := goodIn_r _ [12] (by decide +kernel) (by decide +kernel)
set_option maxRecDepth 20000 in
theorem gX7_pour_X7_isStuff : GoodIn wsX7_pour (va_wsS RX7 143 yX7_isStuff wsX7_isStuff) := goodIn_app (goodIn_of _ (by decide +kernel)) ggX7_pour_X7_isStuff
set_option maxRecDepth 20000 in
theorem ggX7_pour_X2_canFill : GoodIn wsX7_pour wsX2_canFill := goodIn_r _ [16, 17, 18, 19, 6, 20, 21, 4, 5, 7, 8, 22, 23, 24, 25, 26, 10, 11, 12, 66, 67, 68, 69] (by decide +kernel) (by decide +kernel)
set_option maxRecDepth 20000 in
theorem gX7_pour_X2_canFill : GoodIn wsX7_pour (wsV RX7 146 RX2 yX2_canFill wsX2_canFill) := goodIn_app (goodIn_of _ (by decide +kernel)) ggX7_pour_X2_canFill
set_option maxRecDepth 20000 in
theorem ggX7_pour_X0_remember : GoodIn wsX7_pour wsX0_remember := goodIn_r _ [31, 32, 33, 34, 35, 36, 37, 38, 39, 40, 41, 6, 42, 26, 43, 44, 45, 46, 47, 70, 71, 72, 66, 67, 68, 69] (by decide +kernel) (by decide +kernel)
set_option maxRecDepth 20000 in
theorem gX7_pour_X0_remember : GoodIn wsX7_pour (wsV RX7 123 RX0 yX0_remember wsX0_remember) := goodIn_app (goodIn_of _ (by decide +kernel)) ggX7_pour_X0_remember
set_option maxRecDepth 20000 in
theorem ggX7_pour_X2_part : GoodIn wsX7_pour wsX2_part := goodIn_r _ [25, 26, 66, 67, 68, 69] (by decide +kernel) (by decide +kernel)
set_option maxRecDepth 20000 in
theorem gX7_pour_X2_part : GoodIn wsX7_pour (wsV RX7 113 RX2 yX2_part wsX2_part) := goodIn_app (goodIn_of _ (by decide +kernel)) ggX7_pour_X2_part
set_option maxRecDepth 20000 in
theorem ggX7_pour_X2_fill : GoodIn wsX7_pour wsX2_fill := goodIn_r _ [52, 53, 54, 55, 6, 56, 26, 66, 67, 68, 69] (by decide +kernel) (by decide +kernel)
set_option maxRecDepth 20000 in
theorem gX7_pour_X2_fill : GoodIn wsX7_pour (wsV RX7 149 RX2 yX2_fill wsX2_fill) := goodIn_app (goodIn_of _ (by decide +kernel)) ggX7_pour_X2_fill
set_option maxRecDepth 20000 in
theorem ggX7_open_X2_has : GoodIn wsX7_open wsX2_has := goodIn_r _ [7, 8, 58, 59, 60, 61] (by decide +kernel) (by decide +kernel)
set_option maxRecDepth 20000 in
theorem gX7_open_X2_has : GoodIn wsX7_open (wsV RX7 107 RX2 yX2_has wsX2_has) := goodIn_app (goodIn_of _ (by decide +kernel)) ggX7_open_X2_has
set_option maxRecDepth 20000 in
theorem ggX7_open_X2_isWhole : GoodIn wsX7_open wsX2_isWhole := goodIn_r _ [12, 13, 4, 5, 6, 7, 8, 14, 15, 16, 17, 18, 58, 59, 60, 61] (by decide +kernel) (by decide +kernel)
set_option maxRecDepth 20000 in
theorem gX7_open_X2_isWhole : GoodIn wsX7_open (wsV RX7 152 RX2 yX2_isWhole wsX2_isWhole) := goodIn_app (goodIn_of _ (by decide +kernel)) ggX7_open_X2_isWhole
set_option maxRecDepth 20000 in
theorem ggX7_open_X0_remember : GoodIn wsX7_open wsX0_remember := goodIn_r _ [23, 24, 25, 26, 27, 28, 29, 30, 31, 32, 33, 6, 34, 18, 35, 36, 37, 38, 39, 62, 63, 64, 58, 59, 60, 61] (by decide +kernel) (by decide +kernel)
set_option maxRecDepth 20000 in
theorem gX7_open_X0_remember : GoodIn wsX7_open (wsV RX7 123 RX0 yX0_remember wsX0_remember) := goodIn_app (goodIn_of _ (by decide +kernel)) ggX7_open_X0_remember
set_option maxRecDepth 20000 in
theorem ggX7_open_X2_letOut : GoodIn wsX7_open wsX2_letOut := goodIn_r _ [43, 44, 45, 46, 6, 47, 18, 58, 59, 60, 61] (by decide +kernel) (by decide +kernel)
set_option maxRecDepth 20000 in
theorem gX7_open_X2_letOut : GoodIn wsX7_open (wsV RX7 155 RX2 yX2_letOut wsX2_letOut) := goodIn_app (goodIn_of _ (by decide +kernel)) ggX7_open_X2_letOut
set_option maxRecDepth 20000 in
theorem ggX7_open_X2_part : GoodIn wsX7_open wsX2_part := goodIn_r _ [17, 18, 58, 59, 60, 61] (by decide +kernel) (by decide +kernel)
set_option maxRecDepth 20000 in
theorem gX7_open_X2_part : GoodIn wsX7_open (wsV RX7 113 RX2 yX2_part wsX2_part) := goodIn_app (goodIn_of _ (by decide +kernel)) ggX7_open_X2_part
set_option maxRecDepth 20000 in
theorem ggX7_undo_X0_takeBack : GoodIn wsX7_undo wsX0_takeBack := goodIn_r _ [7, 8, 9, 10, 11, 12, 13, 14, 15, 16, 17, 18, 19, 20, 21, 35, 36, 37, 38, 39, 40, 41] (by decide +kernel) (by decide +kernel)
set_option maxRecDepth 20000 in
theorem gX7_undo_X0_takeBack : GoodIn wsX7_undo (wsV RX7 159 RX0 yX0_takeBack wsX0_takeBack) := goodIn_app (goodIn_of _ (by decide +kernel)) ggX7_undo_X0_takeBack
set_option maxRecDepth 20000 in
theorem ggX7_undo_X0_count : GoodIn wsX7_undo wsX0_count := goodIn_r _ [25, 8, 35, 36, 37] (by decide +kernel) (by decide +kernel)
set_option maxRecDepth 20000 in
theorem gX7_undo_X0_count : GoodIn wsX7_undo (wsV RX7 103 RX0 yX0_count wsX0_count) := goodIn_app (goodIn_of _ (by decide +kernel)) ggX7_undo_X0_count
set_option maxRecDepth 20000 in
theorem ggX7_later_X2_has : GoodIn wsX7_later wsX2_has := goodIn_r _ [7, 8, 88, 89, 90, 91] (by decide +kernel) (by decide +kernel)
set_option maxRecDepth 20000 in
theorem gX7_later_X2_has : GoodIn wsX7_later (wsV RX7 107 RX2 yX2_has wsX2_has) := goodIn_app (goodIn_of _ (by decide +kernel)) ggX7_later_X2_has
set_option maxRecDepth 20000 in
theorem ggX7_later_X2_copy : GoodIn wsX7_later wsX2_copy := goodIn_r _ [12, 13, 14, 15, 16, 17, 8, 18, 88, 89, 90, 91] (by decide +kernel) (by decide +kernel)
set_option maxRecDepth 20000 in
theorem gX7_later_X2_copy : GoodIn wsX7_later (wsV RX7 163 RX2 yX2_copy wsX2_copy) := goodIn_app (goodIn_of _ (by decide +kernel)) ggX7_later_X2_copy
set_option maxRecDepth 20000 in
theorem ggX7_later_X2_passWeeks : GoodIn wsX7_later wsX2_passWeeks := goodIn_r _ [22, 23, 24, 25, 6, 26, 18, 8, 27, 28, 29, 30, 31, 4, 5, 7, 32, 33, 34, 35, 13, 36, 37, 38, 39, 40, 41, 42, 43, 44, 45, 46, 47, 48, 49, 50, 51, 52, 53, 54, 55, 56, 57, 58, 59, 60, 61, 62, 88, 89, 90, 91] (by decide +kernel) (by decide +kernel)
set_option maxRecDepth 20000 in
theorem gX7_later_X2_passWeeks : GoodIn wsX7_later (wsV RX7 166 RX2 yX2_passWeeks wsX2_passWeeks) := goodIn_app (goodIn_of _ (by decide +kernel)) ggX7_later_X2_passWeeks
set_option maxRecDepth 20000 in
theorem ggX7_later_X2_part : GoodIn wsX7_later wsX2_part := goodIn_r _ [35, 13, 88, 89, 90, 91] (by decide +kernel) (by decide +kernel)
set_option maxRecDepth 20000 in
theorem gX7_later_X2_part : GoodIn wsX7_later (wsV RX7 113 RX2 yX2_part wsX2_part) := goodIn_app (goodIn_of _ (by decide +kernel)) ggX7_later_X2_part
set_option maxRecDepth 20000 in
theorem ggX7_later_X2_seenBy : GoodIn wsX7_later wsX2_seenBy := goodIn_r _ [67, 32, 33, 34, 6, 35, 13, 27, 28, 29, 30, 31, 4, 5, 7, 8, 68, 69, 70, 71, 72, 73, 74, 75, 76, 77, 42, 78, 88, 89, 90, 91] (by decide +kernel) (by decide +kernel)
set_option maxRecDepth 20000 in
theorem gX7_later_X2_seenBy : GoodIn wsX7_later (wsV RX7 110 RX2 yX2_seenBy wsX2_seenBy) := goodIn_app (goodIn_of _ (by decide +kernel)) ggX7_later_X2_seenBy
set_option maxRecDepth 20000 in
theorem ggX7_becomes_X2_has : GoodIn wsX7_becomes wsX2_has := goodIn_r _ [7, 8, 73, 74, 75, 76] (by decide +kernel) (by decide +kernel)
set_option maxRecDepth 20000 in
theorem gX7_becomes_X2_has : GoodIn wsX7_becomes (wsV RX7 107 RX2 yX2_has wsX2_has) := goodIn_app (goodIn_of _ (by decide +kernel)) ggX7_becomes_X2_has
set_option maxRecDepth 20000 in
theorem ggX7_becomes_X7_isFigure : GoodIn wsX7_becomes wsX7_isFigure := goodIn_r _ [12] (by decide +kernel) (by decide +kernel)
set_option maxRecDepth 20000 in
theorem gX7_becomes_X7_isFigure : GoodIn wsX7_becomes (va_wsS RX7 169 yX7_isFigure wsX7_isFigure) := goodIn_app (goodIn_of _ (by decide +kernel)) ggX7_becomes_X7_isFigure
set_option maxRecDepth 20000 in
theorem ggX7_becomes_X2_isWhole : GoodIn wsX7_becomes wsX2_isWhole := goodIn_r _ [16, 17, 4, 5, 6, 7, 8, 18, 19, 20, 21, 22, 73, 74, 75, 76] (by decide +kernel) (by decide +kernel)
set_option maxRecDepth 20000 in
theorem gX7_becomes_X2_isWhole : GoodIn wsX7_becomes (wsV RX7 152 RX2 yX2_isWhole wsX2_isWhole) := goodIn_app (goodIn_of _ (by decide +kernel)) ggX7_becomes_X2_isWhole
set_option maxRecDepth 20000 in
theorem ggX7_becomes_X2_copy : GoodIn wsX7_becomes wsX2_copy := goodIn_r _ [26, 22, 27, 28, 29, 30, 8, 31, 73, 74, 75, 76] (by decide +kernel) (by decide +kernel)
set_option maxRecDepth 20000 in
theorem gX7_becomes_X2_copy : GoodIn wsX7_becomes (wsV RX7 163 RX2 yX2_copy wsX2_copy) := goodIn_app (goodIn_of _ (by decide +kernel)) ggX7_becomes_X2_copy
set_option maxRecDepth 20000 in
theorem ggX7_becomes_X2_part : GoodIn wsX7_becomes wsX2_part := goodIn_r _ [21, 22, 73, 74, 75, 76] (by decide +kernel) (by decide +kernel)
set_option maxRecDepth 20000 in
theorem gX7_becomes_X2_part : GoodIn wsX7_becomes (wsV RX7 113 RX2 yX2_part wsX2_part) := goodIn_app (goodIn_of _ (by decide +kernel)) ggX7_becomes_X2_part
set_option maxRecDepth 20000 in
theorem ggX7_becomes_X2_passWeek : GoodIn wsX7_becomes wsX2_passWeek := goodIn_r _ [36, 31, 8, 37, 14, 15, 6, 16, 17, 4, 5, 7, 18, 19, 20, 21, 22, 38, 39, 40, 41, 42, 43, 44, 45, 46, 11, 47, 48, 49, 50, 51, 52, 53, 54, 55, 56, 57, 58, 59, 60, 61, 62, 63, 73, 74, 75, 76] (by decide +kernel) (by decide +kernel)
set_option maxRecDepth 20000 in
theorem gX7_becomes_X2_passWeek : GoodIn wsX7_becomes (wsV RX7 126 RX2 yX2_passWeek wsX2_passWeek) := goodIn_app (goodIn_of _ (by decide +kernel)) ggX7_becomes_X2_passWeek
set_option maxRecDepth 20000 in
theorem ggX7_fails_X2_has : GoodIn wsX7_fails wsX2_has := goodIn_r _ [7, 8, 73, 74, 75, 76] (by decide +kernel) (by decide +kernel)
set_option maxRecDepth 20000 in
theorem gX7_fails_X2_has : GoodIn wsX7_fails (wsV RX7 107 RX2 yX2_has wsX2_has) := goodIn_app (goodIn_of _ (by decide +kernel)) ggX7_fails_X2_has
set_option maxRecDepth 20000 in
theorem ggX7_fails_X2_isWhole : GoodIn wsX7_fails wsX2_isWhole := goodIn_r _ [12, 13, 4, 5, 6, 7, 8, 14, 15, 16, 17, 18, 73, 74, 75, 76] (by decide +kernel) (by decide +kernel)
set_option maxRecDepth 20000 in
theorem gX7_fails_X2_isWhole : GoodIn wsX7_fails (wsV RX7 152 RX2 yX2_isWhole wsX2_isWhole) := goodIn_app (goodIn_of _ (by decide +kernel)) ggX7_fails_X2_isWhole
set_option maxRecDepth 20000 in
theorem ggX7_fails_X2_copy : GoodIn wsX7_fails wsX2_copy := goodIn_r _ [22, 18, 23, 24, 25, 26, 8, 27, 73, 74, 75, 76] (by decide +kernel) (by decide +kernel)
set_option maxRecDepth 20000 in
theorem gX7_fails_X2_copy : GoodIn wsX7_fails (wsV RX7 163 RX2 yX2_copy wsX2_copy) := goodIn_app (goodIn_of _ (by decide +kernel)) ggX7_fails_X2_copy
set_option maxRecDepth 20000 in
theorem ggX7_fails_X2_wouldCrack : GoodIn wsX7_fails wsX2_wouldCrack := goodIn_r _ [31, 32, 10, 11, 6, 12, 13, 4, 5, 7, 8, 14, 15, 16, 17, 18, 73, 74, 75, 76] (by decide +kernel) (by decide +kernel)
set_option maxRecDepth 20000 in
theorem gX7_fails_X2_wouldCrack : GoodIn wsX7_fails (wsV RX7 172 RX2 yX2_wouldCrack wsX2_wouldCrack) := goodIn_app (goodIn_of _ (by decide +kernel)) ggX7_fails_X2_wouldCrack
set_option maxRecDepth 20000 in
theorem ggX7_fails_X2_passWeek : GoodIn wsX7_fails wsX2_passWeek := goodIn_r _ [36, 27, 8, 32, 10, 11, 6, 12, 13, 4, 5, 7, 14, 15, 16, 17, 18, 37, 38, 39, 40, 41, 42, 43, 44, 45, 46, 47, 48, 49, 50, 51, 52, 53, 54, 55, 56, 57, 58, 59, 60, 61, 62, 63, 73, 74, 75, 76] (by decide +kernel) (by decide +kernel)
set_option maxRecDepth 20000 in
theorem gX7_fails_X2_passWeek : GoodIn wsX7_fails (wsV RX7 126 RX2 yX2_passWeek wsX2_passWeek) := goodIn_app (goodIn_of _ (by decide +kernel)) ggX7_fails_X2_passWeek
set_option maxRecDepth 20000 in
theorem ggX7_stuff_X2_has : GoodIn wsX7_stuff wsX2_has := goodIn_r _ [6, 7, 88, 89, 90, 91] (by decide +kernel) (by decide +kernel)
set_option maxRecDepth 20000 in
theorem gX7_stuff_X2_has : GoodIn wsX7_stuff (wsV RX7 107 RX2 yX2_has wsX2_has) := goodIn_app (goodIn_of _ (by decide +kernel)) ggX7_stuff_X2_has
set_option maxRecDepth 20000 in
theorem ggX7_stuff_X7_isFigure : GoodIn wsX7_stuff wsX7_isFigure := goodIn_r _ [11] (by decide +kernel) (by decide +kernel)
set_option maxRecDepth 20000 in
theorem gX7_stuff_X7_isFigure : GoodIn wsX7_stuff (va_wsS RX7 169 yX7_isFigure wsX7_isFigure) := goodIn_app (goodIn_of _ (by decide +kernel)) ggX7_stuff_X7_isFigure
set_option maxRecDepth 20000 in
theorem ggX7_stuff_X2_isWhole : GoodIn wsX7_stuff wsX2_isWhole := goodIn_r _ [15, 16, 3, 4, 5, 6, 7, 17, 18, 19, 20, 21, 88, 89, 90, 91] (by decide +kernel) (by decide +kernel)
set_option maxRecDepth 20000 in
theorem gX7_stuff_X2_isWhole : GoodIn wsX7_stuff (wsV RX7 152 RX2 yX2_isWhole wsX2_isWhole) := goodIn_app (goodIn_of _ (by decide +kernel)) ggX7_stuff_X2_isWhole
set_option maxRecDepth 20000 in
theorem ggX7_stuff_X7_distanceIn : GoodIn wsX7_stuff wsX7_distanceIn := goodIn_r _ [25, 26, 1, 27, 28, 29, 30, 31, 32, 33, 5, 34, 21, 35, 36, 37, 38, 7, 39, 40, 41, 42, 43, 44, 45, 46, 47, 48, 49, 50, 51, 52, 53, 54, 55, 56, 13, 14, 15, 16, 3, 4, 6, 17, 18, 19, 20, 57, 58, 59, 60, 61, 62, 63, 64, 10, 65, 66, 67, 68, 69, 70, 71, 72, 73, 74, 75, 76, 77, 78, 79, 80, 81, 82, 83, 84, 85, 86, 87, 88, 89, 90, 91] (by decide +kernel) (by decide +kernel)
set_option maxRecDepth 20000 in
theorem gX7_stuff_X7_distanceIn : GoodIn wsX7_stuff (wsV RX7 175 RX7 yX7_distanceIn wsX7_distanceIn) := goodIn_app (goodIn_of _ (by decide +kernel)) ggX7_stuff_X7_distanceIn
set_option maxRecDepth 20000 in
theorem ggX7_distanceIn_X2_copy : GoodIn wsX7_distanceIn wsX2_copy := goodIn_r _ [11, 12, 13, 14, 15, 16, 17, 18, 79, 80, 81, 82] (by decide +kernel) (by decide +kernel)
set_option maxRecDepth 20000 in
theorem gX7_distanceIn_X2_copy : GoodIn wsX7_distanceIn (wsV RX7 163 RX2 yX2_copy wsX2_copy) := goodIn_app (goodIn_of _ (by decide +kernel)) ggX7_distanceIn_X2_copy
set_option maxRecDepth 20000 in
theorem ggX7_distanceIn_X2_fill : GoodIn wsX7_distanceIn wsX2_fill := goodIn_r _ [22, 23, 24, 25, 10, 26, 12, 79, 80, 81, 82] (by decide +kernel) (by decide +kernel)
set_option maxRecDepth 20000 in
theorem gX7_distanceIn_X2_fill : GoodIn wsX7_distanceIn (wsV RX7 149 RX2 yX2_fill wsX2_fill) := goodIn_app (goodIn_of _ (by decide +kernel)) ggX7_distanceIn_X2_fill
set_option maxRecDepth 20000 in
theorem ggX7_distanceIn_X2_passWeeks : GoodIn wsX7_distanceIn wsX2_passWeeks := goodIn_r _ [30, 31, 32, 33, 10, 34, 18, 17, 35, 36, 37, 38, 39, 40, 41, 42, 43, 44, 45, 46, 12, 47, 48, 49, 50, 51, 52, 5, 53, 54, 55, 56, 57, 58, 59, 60, 61, 62, 63, 64, 23, 24, 25, 26, 65, 66, 67, 68, 79, 80, 81, 82] (by decide +kernel) (by decide +kernel)
set_option maxRecDepth 20000 in
theorem gX7_distanceIn_X2_passWeeks : GoodIn wsX7_distanceIn (wsV RX7 166 RX2 yX2_passWeeks wsX2_passWeeks) := goodIn_app (goodIn_of _ (by decide +kernel)) ggX7_distanceIn_X2_passWeeks
set_option maxRecDepth 20000 in
theorem ggX7_distanceIn_X2_part : GoodIn wsX7_distanceIn wsX2_part := goodIn_r _ [46, 12, 79, 80, 81, 82] (by decide +kernel) (by decide +kernel)
set_option maxRecDepth 20000 in
theorem gX7_distanceIn_X2_part : GoodIn wsX7_distanceIn (wsV RX7 113 RX2 yX2_part wsX2_part) := goodIn_app (goodIn_of _ (by decide +kernel)) ggX7_distanceIn_X2_part
set_option maxRecDepth 20000 in
theorem ggX7_row_X2_copy : GoodIn wsX7_row wsX2_copy := goodIn_r _ [8, 9, 10, 11, 12, 13, 14, 15, 119, 120, 121, 122] (by decide +kernel) (by decide +kernel)
set_option maxRecDepth 20000 in
theorem gX7_row_X2_copy : GoodIn wsX7_row (wsV RX7 163 RX2 yX2_copy wsX2_copy) := goodIn_app (goodIn_of _ (by decide +kernel)) ggX7_row_X2_copy
set_option maxRecDepth 20000 in
theorem ggX7_row_X6_search : GoodIn wsX7_row wsX6_search := goodIn_r _ [20, 21, 22, 23, 24, 25, 26, 27, 28, 19, 29, 30, 31, 32, 33, 34, 35, 7, 36, 14, 37, 38, 39, 40, 41, 42, 43, 44, 45, 46, 47, 48, 9, 49, 50, 51, 52, 53, 54, 55, 56, 57, 58, 59, 60, 61, 62, 63, 64, 65, 66, 67, 68, 69, 70, 71, 72, 73, 74, 75, 76, 77, 78, 79, 80, 81, 82, 83, 84, 85, 86, 87, 88, 89, 90, 91, 92, 93, 94, 95, 96, 97, 98, 99, 100, 101, 123, 124, 125, 126, 127, 119, 120, 121, 122] (by decide +kernel) (by decide +kernel)
set_option maxRecDepth 20000 in
theorem gX7_row_X6_search : GoodIn wsX7_row (wsV RX7 184 RX6 yX6_search wsX6_search) := goodIn_app (goodIn_of _ (by decide +kernel)) ggX7_row_X6_search
set_option maxRecDepth 20000 in
theorem ggX7_row_X6_figures : GoodIn wsX7_row wsX6_figures := goodIn_r _ [105, 62, 123, 124, 125, 126, 127] (by decide +kernel) (by decide +kernel)
set_option maxRecDepth 20000 in
theorem gX7_row_X6_figures : GoodIn wsX7_row (wsV RX7 187 RX6 yX6_figures wsX6_figures) := goodIn_app (goodIn_of _ (by decide +kernel)) ggX7_row_X6_figures
set_option maxRecDepth 20000 in
theorem ggX7_row_X6_most : GoodIn wsX7_row wsX6_most := goodIn_r _ [109, 25, 123, 124, 125, 126, 127] (by decide +kernel) (by decide +kernel)
set_option maxRecDepth 20000 in
theorem gX7_row_X6_most : GoodIn wsX7_row (wsV RX7 190 RX6 yX6_most wsX6_most) := goodIn_app (goodIn_of _ (by decide +kernel)) ggX7_row_X6_most
set_option maxRecDepth 20000 in
theorem ggX7_judge_X7_without : GoodIn wsX7_judge wsX7_without := goodIn_r _ [7, 3] (by decide +kernel) (by decide +kernel)
set_option maxRecDepth 20000 in
theorem gX7_judge_X7_without : GoodIn wsX7_judge (va_wsS RX7 193 yX7_without wsX7_without) := goodIn_app (goodIn_of _ (by decide +kernel)) ggX7_judge_X7_without
set_option maxRecDepth 20000 in
theorem ggX7_judge_X2_copy : GoodIn wsX7_judge wsX2_copy := goodIn_r _ [12, 13, 14, 15, 16, 17, 18, 19, 149, 150, 151, 152] (by decide +kernel) (by decide +kernel)
set_option maxRecDepth 20000 in
theorem gX7_judge_X2_copy : GoodIn wsX7_judge (wsV RX7 163 RX2 yX2_copy wsX2_copy) := goodIn_app (goodIn_of _ (by decide +kernel)) ggX7_judge_X2_copy
set_option maxRecDepth 20000 in
theorem ggX7_judge_X7_trialDoes : GoodIn wsX7_judge wsX7_trialDoes := goodIn_r _ [23, 1, 24, 25, 26, 11, 27, 28, 29, 30, 31, 19, 18, 32, 33, 34, 35, 36, 37, 38, 39, 40, 41, 42, 43, 13, 44, 45, 46, 47, 48, 49, 50, 51, 52, 6, 53, 54, 55, 56, 57, 58, 59, 60, 61, 62, 63, 64, 65, 66, 67, 68, 69, 70, 71, 72, 73, 74, 75, 76, 77, 78, 79, 80, 81, 82, 83, 84, 85, 86, 87, 88, 89, 90, 91, 92, 93, 94, 95, 96, 97, 98, 99, 100, 101, 102, 103, 104, 105, 106, 107, 108, 109, 110, 111, 112, 113, 114, 115, 116, 117, 118, 119, 120, 121, 122, 123, 124, 125, 126, 127, 128, 129, 130, 131, 132, 133, 134, 135, 136, 137, 138, 139, 140, 141, 142, 143, 144, 145, 146, 147, 148, 149, 150, 151, 152] (by decide +kernel) (by decide +kernel)
set_option maxRecDepth 20000 in
theorem gX7_judge_X7_trialDoes : GoodIn wsX7_judge (wsV RX7 199 RX7 yX7_trialDoes wsX7_trialDoes) := goodIn_app (goodIn_of _ (by decide +kernel)) ggX7_judge_X7_trialDoes
set_option maxRecDepth 20000 in
theorem ggX7_trialDoes_X2_tryWeek : GoodIn wsX7_trialDoes wsX2_tryWeek := goodIn_r _ [6, 7, 8, 9, 5, 10, 11, 12, 13, 14, 15, 16, 17, 18, 19, 20, 21, 22, 23, 24, 25, 26, 27, 28, 29, 30, 31, 32, 33, 34, 35, 36, 37, 38, 39, 40, 41, 42, 43, 44, 45, 46, 47, 48, 49, 50, 51, 52, 132, 133, 134, 135] (by decide +kernel) (by decide +kernel)
set_option maxRecDepth 20000 in
theorem gX7_trialDoes_X2_tryWeek : GoodIn wsX7_trialDoes (wsV RX7 203 RX2 yX2_tryWeek wsX2_tryWeek) := goodIn_app (goodIn_of _ (by decide +kernel)) ggX7_trialDoes_X2_tryWeek
set_option maxRecDepth 20000 in
theorem ggX7_trialDoes_X2_tryShake : GoodIn wsX7_trialDoes wsX2_tryShake := goodIn_r _ [56, 57, 58, 59, 5, 60, 12, 61, 62, 63, 64, 13, 14, 15, 16, 17, 18, 19, 20, 21, 22, 23, 24, 25, 45, 46, 47, 48, 49, 50, 51, 52, 132, 133, 134, 135] (by decide +kernel) (by decide +kernel)
set_option maxRecDepth 20000 in
theorem gX7_trialDoes_X2_tryShake : GoodIn wsX7_trialDoes (wsV RX7 207 RX2 yX2_tryShake wsX2_tryShake) := goodIn_app (goodIn_of _ (by decide +kernel)) ggX7_trialDoes_X2_tryShake
set_option maxRecDepth 20000 in
theorem ggX7_trialDoes_X2_tryStand : GoodIn wsX7_trialDoes wsX2_tryStand := goodIn_r _ [68, 69, 70, 71, 5, 72, 13, 14, 15, 16, 17, 18, 19, 20, 12, 21, 22, 23, 24, 25, 73, 35, 74, 75, 76, 77, 78, 79, 80, 81, 82, 45, 46, 47, 48, 132, 133, 134, 135] (by decide +kernel) (by decide +kernel)
set_option maxRecDepth 20000 in
theorem gX7_trialDoes_X2_tryStand : GoodIn wsX7_trialDoes (wsV RX7 210 RX2 yX2_tryStand wsX2_tryStand) := goodIn_app (goodIn_of _ (by decide +kernel)) ggX7_trialDoes_X2_tryStand
set_option maxRecDepth 20000 in
theorem ggX7_trialDoes_X2_tryFill : GoodIn wsX7_trialDoes wsX2_tryFill := goodIn_r _ [86, 87, 88, 89, 5, 90, 13, 14, 15, 16, 17, 18, 19, 20, 12, 21, 22, 23, 24, 25, 91, 35, 92, 93, 94, 95, 96, 45, 46, 47, 48, 132, 133, 134, 135] (by decide +kernel) (by decide +kernel)
set_option maxRecDepth 20000 in
theorem gX7_trialDoes_X2_tryFill : GoodIn wsX7_trialDoes (wsV RX7 213 RX2 yX2_tryFill wsX2_tryFill) := goodIn_app (goodIn_of _ (by decide +kernel)) ggX7_trialDoes_X2_tryFill
set_option maxRecDepth 20000 in
theorem ggX7_trialDoes_X2_tryLetOut : GoodIn wsX7_trialDoes wsX2_tryLetOut := goodIn_r _ [100, 13, 14, 15, 5, 16, 17, 18, 19, 20, 12, 21, 22, 23, 24, 25, 101, 102, 103, 104, 45, 46, 47, 48, 132, 133, 134, 135] (by decide +kernel) (by decide +kernel)
set_option maxRecDepth 20000 in
theorem gX7_trialDoes_X2_tryLetOut : GoodIn wsX7_trialDoes (wsV RX7 216 RX2 yX2_tryLetOut wsX2_tryLetOut) := goodIn_app (goodIn_of _ (by decide +kernel)) ggX7_trialDoes_X2_tryLetOut
set_option maxRecDepth 20000 in
theorem ggX7_trialDoes_X2_has : GoodIn wsX7_trialDoes wsX2_has := goodIn_r _ [20, 12, 132, 133, 134, 135] (by decide +kernel) (by decide +kernel)
set_option maxRecDepth 20000 in
theorem gX7_trialDoes_X2_has : GoodIn wsX7_trialDoes (wsV RX7 107 RX2 yX2_has wsX2_has) := goodIn_app (goodIn_of _ (by decide +kernel)) ggX7_trialDoes_X2_has
set_option maxRecDepth 20000 in
theorem ggX7_trialDoes_X2_seenBy : GoodIn wsX7_trialDoes wsX2_seenBy := goodIn_r _ [109, 21, 22, 23, 5, 24, 25, 13, 14, 15, 16, 17, 18, 19, 20, 12, 110, 111, 112, 113, 114, 115, 116, 117, 118, 119, 32, 120, 132, 133, 134, 135] (by decide +kernel) (by decide +kernel)
set_option maxRecDepth 20000 in
theorem gX7_trialDoes_X2_seenBy : GoodIn wsX7_trialDoes (wsV RX7 110 RX2 yX2_seenBy wsX2_seenBy) := goodIn_app (goodIn_of _ (by decide +kernel)) ggX7_trialDoes_X2_seenBy
set_option maxRecDepth 20000 in
theorem ggX7_trialDoes_X2_isWhole : GoodIn wsX7_trialDoes wsX2_isWhole := goodIn_r _ [16, 17, 18, 19, 5, 20, 12, 21, 22, 23, 24, 25, 132, 133, 134, 135] (by decide +kernel) (by decide +kernel)
set_option maxRecDepth 20000 in
theorem gX7_trialDoes_X2_isWhole : GoodIn wsX7_trialDoes (wsV RX7 152 RX2 yX2_isWhole wsX2_isWhole) := goodIn_app (goodIn_of _ (by decide +kernel)) ggX7_trialDoes_X2_isWhole
set_option maxRecDepth 20000 in
theorem ggX7_trialDoes_X2_part : GoodIn wsX7_trialDoes wsX2_part := goodIn_r _ [24, 25, 132, 133, 134, 135] (by decide +kernel) (by decide +kernel)
set_option maxRecDepth 20000 in
theorem gX7_trialDoes_X2_part : GoodIn wsX7_trialDoes (wsV RX7 113 RX2 yX2_part wsX2_part) := goodIn_app (goodIn_of _ (by decide +kernel)) ggX7_trialDoes_X2_part
set_option maxRecDepth 20000 in
theorem ggX7_share_X2_has : GoodIn wsX7_share wsX2_has := goodIn_r _ [7, 8, 104, 105, 106, 107] (by decide +kernel) (by decide +kernel)
set_option maxRecDepth 20000 in
theorem gX7_share_X2_has : GoodIn wsX7_share (wsV RX7 107 RX2 yX2_has wsX2_has) := goodIn_app (goodIn_of _ (by decide +kernel)) ggX7_share_X2_has
set_option maxRecDepth 20000 in
theorem ggX7_share_X2_jars : GoodIn wsX7_share wsX2_jars := goodIn_r _ [12, 8, 104, 105, 106, 107] (by decide +kernel) (by decide +kernel)
set_option maxRecDepth 20000 in
theorem gX7_share_X2_jars : GoodIn wsX7_share (wsV RX7 87 RX2 yX2_jars wsX2_jars) := goodIn_app (goodIn_of _ (by decide +kernel)) ggX7_share_X2_jars
set_option maxRecDepth 20000 in
theorem ggX7_share_J6_bitCount_0f7a4 : GoodIn wsX7_share wsJ6_bitCount_0f7a4 := goodIn_r _ [16, 17, 18, 19] (by decide +kernel) (by decide +kernel)
set_option maxRecDepth 20000 in
theorem gX7_share_J6_bitCount_0f7a4 : GoodIn wsX7_share (va_wsS RX7 219 yJ6_bitCount_0f7a4 wsJ6_bitCount_0f7a4) := goodIn_app (goodIn_of _ (by decide +kernel)) ggX7_share_J6_bitCount_0f7a4
set_option maxRecDepth 20000 in
theorem ggX7_share_X7_seenAmong : GoodIn wsX7_share wsX7_seenAmong := goodIn_r _ [24, 25, 1, 26, 27, 28, 6, 29, 8, 30, 31, 32, 33, 34, 35, 36, 37, 38, 39, 40, 23, 41, 42, 43, 44, 45, 46, 47, 48, 49, 50, 51, 52, 53, 54, 55, 56, 57, 58, 59, 60, 61, 62, 4, 5, 7, 63, 64, 65, 66, 67, 68, 69, 70, 71, 72, 73, 74, 75, 14, 15, 16, 17, 18, 19, 95, 96, 97, 98, 99, 100, 101, 102, 103, 104, 105, 106, 107] (by decide +kernel) (by decide +kernel)
set_option maxRecDepth 20000 in
theorem gX7_share_X7_seenAmong : GoodIn wsX7_share (wsV RX7 224 RX7 yX7_seenAmong wsX7_seenAmong) := goodIn_app (goodIn_of _ (by decide +kernel)) ggX7_share_X7_seenAmong
set_option maxRecDepth 20000 in
theorem ggX7_share_X7_ordersOf : GoodIn wsX7_share wsX7_ordersOf := goodIn_r _ [78, 79] (by decide +kernel) (by decide +kernel)
set_option maxRecDepth 20000 in
theorem gX7_share_X7_ordersOf : GoodIn wsX7_share (va_wsS RX7 227 yX7_ordersOf wsX7_ordersOf) := goodIn_app (goodIn_of _ (by decide +kernel)) ggX7_share_X7_ordersOf
set_option maxRecDepth 20000 in
theorem ggX7_share_X1_make : GoodIn wsX7_share wsX1_make := goodIn_r _ [84, 85, 72, 73, 74, 86, 87, 88, 89, 83, 90, 108, 109] (by decide +kernel) (by decide +kernel)
set_option maxRecDepth 20000 in
theorem gX7_share_X1_make : GoodIn wsX7_share (wsV RX7 230 RX1 yX1_make wsX1_make) := goodIn_app (goodIn_of _ (by decide +kernel)) ggX7_share_X1_make
set_option maxRecDepth 20000 in
theorem ggX7_share_X1_told : GoodIn wsX7_share wsX1_told := goodIn_r _ [94, 86, 87, 108, 109] (by decide +kernel) (by decide +kernel)
set_option maxRecDepth 20000 in
theorem gX7_share_X1_told : GoodIn wsX7_share (wsV RX7 233 RX1 yX1_told wsX1_told) := goodIn_app (goodIn_of _ (by decide +kernel)) ggX7_share_X1_told
set_option maxRecDepth 20000 in
theorem ggX7_seenAmong_X2_copyWithout : GoodIn wsX7_seenAmong wsX2_copyWithout := goodIn_r _ [7, 8, 9, 10, 11, 6, 12, 13, 14, 15, 16, 17, 18, 19, 20, 21, 22, 23, 24, 25, 74, 75, 76, 77] (by decide +kernel) (by decide +kernel)
set_option maxRecDepth 20000 in
theorem gX7_seenAmong_X2_copyWithout : GoodIn wsX7_seenAmong (wsV RX7 237 RX2 yX2_copyWithout wsX2_copyWithout) := goodIn_app (goodIn_of _ (by decide +kernel)) ggX7_seenAmong_X2_copyWithout
set_option maxRecDepth 20000 in
theorem ggX7_seenAmong_X2_countSeen : GoodIn wsX7_seenAmong wsX2_countSeen := goodIn_r _ [29, 8, 30, 31, 32, 6, 33, 34, 35, 36, 37, 13, 38, 39, 40, 41, 42, 43, 44, 45, 46, 47, 48, 49, 50, 51, 52, 53, 54, 55, 56, 57, 58, 59, 60, 61, 62, 63, 64, 74, 75, 76, 77] (by decide +kernel) (by decide +kernel)
set_option maxRecDepth 20000 in
theorem gX7_seenAmong_X2_countSeen : GoodIn wsX7_seenAmong (wsV RX7 241 RX2 yX2_countSeen wsX2_countSeen) := goodIn_app (goodIn_of _ (by decide +kernel)) ggX7_seenAmong_X2_countSeen
set_option maxRecDepth 20000 in
theorem ggX7_taste_X7_isFigure : GoodIn wsX7_taste wsX7_isFigure := goodIn_r _ [5] (by decide +kernel) (by decide +kernel)
set_option maxRecDepth 20000 in
theorem gX7_taste_X7_isFigure : GoodIn wsX7_taste (va_wsS RX7 169 yX7_isFigure wsX7_isFigure) := goodIn_app (goodIn_of _ (by decide +kernel)) ggX7_taste_X7_isFigure
set_option maxRecDepth 20000 in
theorem ggX7_taste_X4_add : GoodIn wsX7_taste wsX4_add := goodIn_r _ [10, 11, 12, 13, 27, 28, 29] (by decide +kernel) (by decide +kernel)
set_option maxRecDepth 20000 in
theorem gX7_taste_X4_add : GoodIn wsX7_taste (wsV RX7 244 RX4 yX4_add wsX4_add) := goodIn_app (goodIn_of _ (by decide +kernel)) ggX7_taste_X4_add
set_option maxRecDepth 20000 in
theorem ggX7_taste_X4_count : GoodIn wsX7_taste wsX4_count := goodIn_r _ [17, 11, 27, 28, 29] (by decide +kernel) (by decide +kernel)
set_option maxRecDepth 20000 in
theorem gX7_taste_X4_count : GoodIn wsX7_taste (wsV RX7 106 RX4 yX4_count wsX4_count) := goodIn_app (goodIn_of _ (by decide +kernel)) ggX7_taste_X4_count
set_option maxRecDepth 20000 in
theorem ggX7_untaste_X4_count : GoodIn wsX7_untaste wsX4_count := goodIn_r _ [6, 7, 21, 22, 23] (by decide +kernel) (by decide +kernel)
set_option maxRecDepth 20000 in
theorem gX7_untaste_X4_count : GoodIn wsX7_untaste (wsV RX7 106 RX4 yX4_count wsX4_count) := goodIn_app (goodIn_of _ (by decide +kernel)) ggX7_untaste_X4_count
set_option maxRecDepth 20000 in
theorem ggX7_untaste_X4_clear : GoodIn wsX7_untaste wsX4_clear := goodIn_r _ [11, 7, 21, 22, 23] (by decide +kernel) (by decide +kernel)
set_option maxRecDepth 20000 in
theorem gX7_untaste_X4_clear : GoodIn wsX7_untaste (wsV RX7 246 RX4 yX4_clear wsX4_clear) := goodIn_app (goodIn_of _ (by decide +kernel)) ggX7_untaste_X4_clear
set_option maxRecDepth 20000 in
theorem ggX7_kept_X4_countFits : GoodIn wsX7_kept wsX4_countFits := goodIn_r _ [6, 7, 8, 9, 5, 10, 11, 12, 13, 14, 15, 16, 17, 18, 19, 20, 21, 22, 23, 24, 25, 26, 27, 28, 29, 30, 44, 45, 46] (by decide +kernel) (by decide +kernel)
set_option maxRecDepth 20000 in
theorem gX7_kept_X4_countFits : GoodIn wsX7_kept (wsV RX7 247 RX4 yX4_countFits wsX4_countFits) := goodIn_app (goodIn_of _ (by decide +kernel)) ggX7_kept_X4_countFits
set_option maxRecDepth 20000 in
theorem ggX7_kept_X4_firstFit : GoodIn wsX7_kept wsX4_firstFit := goodIn_r _ [34, 7, 8, 9, 5, 10, 11, 12, 13, 14, 15, 16, 17, 18, 19, 20, 21, 22, 23, 24, 25, 26, 27, 28, 29, 30, 44, 45, 46] (by decide +kernel) (by decide +kernel)
set_option maxRecDepth 20000 in
theorem gX7_kept_X4_firstFit : GoodIn wsX7_kept (wsV RX7 250 RX4 yX4_firstFit wsX4_firstFit) := goodIn_app (goodIn_of _ (by decide +kernel)) ggX7_kept_X4_firstFit
set_option maxRecDepth 20000 in
theorem ggX7_rests_X2_has : GoodIn wsX7_rests wsX2_has := goodIn_r _ [6, 7, 76, 77, 78, 79] (by decide +kernel) (by decide +kernel)
set_option maxRecDepth 20000 in
theorem gX7_rests_X2_has : GoodIn wsX7_rests (wsV RX7 107 RX2 yX2_has wsX2_has) := goodIn_app (goodIn_of _ (by decide +kernel)) ggX7_rests_X2_has
set_option maxRecDepth 20000 in
theorem ggX7_rests_X2_isWhole : GoodIn wsX7_rests wsX2_isWhole := goodIn_r _ [11, 12, 3, 4, 5, 6, 7, 13, 14, 15, 16, 17, 76, 77, 78, 79] (by decide +kernel) (by decide +kernel)
set_option maxRecDepth 20000 in
theorem gX7_rests_X2_isWhole : GoodIn wsX7_rests (wsV RX7 152 RX2 yX2_isWhole wsX2_isWhole) := goodIn_app (goodIn_of _ (by decide +kernel)) ggX7_rests_X2_isWhole
set_option maxRecDepth 20000 in
theorem ggX7_rests_X7_looksThatSee : GoodIn wsX7_rests wsX7_looksThatSee := goodIn_r _ [22, 23, 1, 24, 25, 26, 5, 27, 17, 28, 29, 30, 31, 7, 32, 33, 34, 35, 36, 37, 38, 39, 40, 41, 42, 43, 44, 13, 14, 15, 16, 45, 9, 10, 11, 12, 3, 4, 6, 46, 47, 48, 49, 50, 51, 52, 53, 54, 55, 56, 57, 67, 68, 69, 70, 71, 72, 73, 74, 75, 76, 77, 78, 79] (by decide +kernel) (by decide +kernel)
set_option maxRecDepth 20000 in
theorem gX7_rests_X7_looksThatSee : GoodIn wsX7_rests (wsV RX7 253 RX7 yX7_looksThatSee wsX7_looksThatSee) := goodIn_app (goodIn_of _ (by decide +kernel)) ggX7_rests_X7_looksThatSee
set_option maxRecDepth 20000 in
theorem ggX7_rests_X7_isIn : GoodIn wsX7_rests wsX7_isIn := goodIn_r _ [60] (by decide +kernel) (by decide +kernel)
set_option maxRecDepth 20000 in
theorem gX7_rests_X7_isIn : GoodIn wsX7_rests (va_wsS RX7 256 yX7_isIn wsX7_isIn) := goodIn_app (goodIn_of _ (by decide +kernel)) ggX7_rests_X7_isIn
set_option maxRecDepth 20000 in
theorem ggX7_rests_X7_isBest : GoodIn wsX7_rests wsX7_isBest := goodIn_r _ [63, 58, 59, 21, 60, 64, 65, 66] (by decide +kernel) (by decide +kernel)
set_option maxRecDepth 20000 in
theorem gX7_rests_X7_isBest : GoodIn wsX7_rests (va_wsS RX7 259 yX7_isBest wsX7_isBest) := goodIn_app (goodIn_of _ (by decide +kernel)) ggX7_rests_X7_isBest
set_option maxRecDepth 20000 in
theorem ggX7_looksThatSee_X2_copy : GoodIn wsX7_looksThatSee wsX2_copy := goodIn_r _ [7, 8, 9, 10, 11, 12, 13, 14, 60, 61, 62, 63] (by decide +kernel) (by decide +kernel)
set_option maxRecDepth 20000 in
theorem gX7_looksThatSee_X2_copy : GoodIn wsX7_looksThatSee (wsV RX7 163 RX2 yX2_copy wsX2_copy) := goodIn_app (goodIn_of _ (by decide +kernel)) ggX7_looksThatSee_X2_copy
set_option maxRecDepth 20000 in
theorem ggX7_looksThatSee_X2_turn : GoodIn wsX7_looksThatSee wsX2_turn := goodIn_r _ [18, 19, 20, 21, 6, 22, 8, 60, 61, 62, 63] (by decide +kernel) (by decide +kernel)
set_option maxRecDepth 20000 in
theorem gX7_looksThatSee_X2_turn : GoodIn wsX7_looksThatSee (wsV RX7 263 RX2 yX2_turn wsX2_turn) := goodIn_app (goodIn_of _ (by decide +kernel)) ggX7_looksThatSee_X2_turn
set_option maxRecDepth 20000 in
theorem ggX7_looksThatSee_X2_seenBy : GoodIn wsX7_looksThatSee wsX2_seenBy := goodIn_r _ [26, 27, 28, 29, 6, 30, 8, 31, 32, 33, 34, 35, 36, 37, 38, 13, 39, 40, 41, 42, 43, 44, 45, 46, 47, 48, 49, 50, 60, 61, 62, 63] (by decide +kernel) (by decide +kernel)
set_option maxRecDepth 20000 in
theorem gX7_looksThatSee_X2_seenBy : GoodIn wsX7_looksThatSee (wsV RX7 110 RX2 yX2_seenBy wsX2_seenBy) := goodIn_app (goodIn_of _ (by decide +kernel)) ggX7_looksThatSee_X2_seenBy
set_option maxRecDepth 20000 in
theorem ggX7_isBest_X7_isIn : GoodIn wsX7_isBest wsX7_isIn := goodIn_r _ [4] (by decide +kernel) (by decide +kernel)
set_option maxRecDepth 20000 in
theorem gX7_isBest_X7_isIn : GoodIn wsX7_isBest (va_wsS RX7 256 yX7_isIn wsX7_isIn) := goodIn_app (goodIn_of _ (by decide +kernel)) ggX7_isBest_X7_isIn
set_option maxRecDepth 20000 in
theorem ggX7_isBest_X7_points : GoodIn wsX7_isBest wsX7_points := goodIn_r _ [7] (by decide +kernel) (by decide +kernel)
set_option maxRecDepth 20000 in
theorem gX7_isBest_X7_points : GoodIn wsX7_isBest (va_wsS RX7 266 yX7_points wsX7_points) := goodIn_app (goodIn_of _ (by decide +kernel)) ggX7_isBest_X7_points
set_option maxRecDepth 20000 in
theorem ggX7_papers_X2_bitsOf : GoodIn wsX7_papers wsX2_bitsOf := goodIn_r _ [7, 8, 9, 10, 11, 6, 12, 13, 104, 105, 106, 107] (by decide +kernel) (by decide +kernel)
set_option maxRecDepth 20000 in
theorem gX7_papers_X2_bitsOf : GoodIn wsX7_papers (wsV RX7 93 RX2 yX2_bitsOf wsX2_bitsOf) := goodIn_app (goodIn_of _ (by decide +kernel)) ggX7_papers_X2_bitsOf
set_option maxRecDepth 20000 in
theorem ggX7_papers_J6_bitCount_0f7a4 : GoodIn wsX7_papers wsJ6_bitCount_0f7a4 := goodIn_r _ [17, 18, 19, 20] (by decide +kernel) (by decide +kernel)
set_option maxRecDepth 20000 in
theorem gX7_papers_J6_bitCount_0f7a4 : GoodIn wsX7_papers (va_wsS RX7 219 yJ6_bitCount_0f7a4 wsJ6_bitCount_0f7a4) := goodIn_app (goodIn_of _ (by decide +kernel)) ggX7_papers_J6_bitCount_0f7a4
set_option maxRecDepth 20000 in
theorem ggX7_papers_X7_pairsWithout : GoodIn wsX7_papers wsX7_pairsWithout := goodIn_r _ [25, 26, 1, 27, 28, 29, 6, 30, 8, 31, 32, 33, 34, 13, 35, 36, 37, 38, 39, 40, 24, 41, 42, 43, 44, 45, 46, 47, 48, 49, 50, 51, 52, 53, 54, 9, 10, 11, 12, 55, 56, 57, 58, 59, 60, 61, 62, 63, 64, 65, 66, 67, 68, 69, 70, 71, 72, 73, 74, 75, 76, 95, 96, 97, 98, 99, 100, 101, 102, 103, 104, 105, 106, 107] (by decide +kernel) (by decide +kernel)
set_option maxRecDepth 20000 in
theorem gX7_papers_X7_pairsWithout : GoodIn wsX7_papers (wsV RX7 270 RX7 yX7_pairsWithout wsX7_pairsWithout) := goodIn_app (goodIn_of _ (by decide +kernel)) ggX7_papers_X7_pairsWithout
set_option maxRecDepth 20000 in
theorem ggX7_papers_X7_power : GoodIn wsX7_papers wsX7_power := goodIn_r _ [79] (by decide +kernel) (by decide +kernel)
set_option maxRecDepth 20000 in
theorem gX7_papers_X7_power : GoodIn wsX7_papers (va_wsS RX7 273 yX7_power wsX7_power) := goodIn_app (goodIn_of _ (by decide +kernel)) ggX7_papers_X7_power
set_option maxRecDepth 20000 in
theorem ggX7_papers_X1_make : GoodIn wsX7_papers wsX1_make := goodIn_r _ [84, 85, 74, 75, 76, 86, 87, 88, 89, 83, 90, 108, 109] (by decide +kernel) (by decide +kernel)
set_option maxRecDepth 20000 in
theorem gX7_papers_X1_make : GoodIn wsX7_papers (wsV RX7 230 RX1 yX1_make wsX1_make) := goodIn_app (goodIn_of _ (by decide +kernel)) ggX7_papers_X1_make
set_option maxRecDepth 20000 in
theorem ggX7_papers_X1_told : GoodIn wsX7_papers wsX1_told := goodIn_r _ [94, 86, 87, 108, 109] (by decide +kernel) (by decide +kernel)
set_option maxRecDepth 20000 in
theorem gX7_papers_X1_told : GoodIn wsX7_papers (wsV RX7 233 RX1 yX1_told wsX1_told) := goodIn_app (goodIn_of _ (by decide +kernel)) ggX7_papers_X1_told
set_option maxRecDepth 20000 in
theorem ggX7_pairsWithout_X2_copyWithout : GoodIn wsX7_pairsWithout wsX2_copyWithout := goodIn_r _ [7, 8, 9, 10, 11, 6, 12, 13, 14, 15, 16, 17, 18, 19, 20, 21, 22, 23, 24, 25, 70, 71, 72, 73] (by decide +kernel) (by decide +kernel)
set_option maxRecDepth 20000 in
theorem gX7_pairsWithout_X2_copyWithout : GoodIn wsX7_pairsWithout (wsV RX7 237 RX2 yX2_copyWithout wsX2_copyWithout) := goodIn_app (goodIn_of _ (by decide +kernel)) ggX7_pairsWithout_X2_copyWithout
set_option maxRecDepth 20000 in
theorem ggX7_pairsWithout_X2_pairs : GoodIn wsX7_pairsWithout wsX2_pairs := goodIn_r _ [29, 30, 31, 32, 33, 6, 34, 8, 35, 36, 37, 38, 13, 39, 20, 40, 41, 42, 43, 44, 45, 46, 47, 48, 49, 50, 51, 52, 53, 54, 55, 56, 57, 58, 59, 60, 70, 71, 72, 73] (by decide +kernel) (by decide +kernel)
set_option maxRecDepth 20000 in
theorem gX7_pairsWithout_X2_pairs : GoodIn wsX7_pairsWithout (wsV RX7 100 RX2 yX2_pairs wsX2_pairs) := goodIn_app (goodIn_of _ (by decide +kernel)) ggX7_pairsWithout_X2_pairs
set_option maxRecDepth 20000 in
theorem ggX7_years_X2_copy : GoodIn wsX7_years wsX2_copy := goodIn_r _ [11, 12, 13, 14, 15, 16, 17, 18, 101, 102, 103, 104] (by decide +kernel) (by decide +kernel)
set_option maxRecDepth 20000 in
theorem gX7_years_X2_copy : GoodIn wsX7_years (wsV RX7 163 RX2 yX2_copy wsX2_copy) := goodIn_app (goodIn_of _ (by decide +kernel)) ggX7_years_X2_copy
set_option maxRecDepth 20000 in
theorem ggX7_years_X7_trialByChance : GoodIn wsX7_years wsX7_trialByChance := goodIn_r _ [23, 1, 24, 25, 26, 10, 27, 28, 29, 30, 31, 32, 33, 34, 35, 36, 37, 38, 39, 17, 40, 41, 42, 43, 12, 44, 22, 45, 46, 47, 48, 49, 50, 51, 52, 53, 54, 55, 56, 57, 58, 59, 60, 61, 62, 63, 64, 65, 66, 67, 68, 69, 18, 70, 71, 72, 73, 74, 75, 76, 77, 78, 79, 80, 81, 82, 83, 84, 85, 86, 87, 92, 93, 94, 95, 96, 97, 98, 99, 100, 101, 102, 103, 104] (by decide +kernel) (by decide +kernel)
set_option maxRecDepth 20000 in
theorem gX7_years_X7_trialByChance : GoodIn wsX7_years (wsV RX7 282 RX7 yX7_trialByChance wsX7_trialByChance) := goodIn_app (goodIn_of _ (by decide +kernel)) ggX7_years_X7_trialByChance
set_option maxRecDepth 20000 in
theorem ggX7_years_X2_flavours : GoodIn wsX7_years wsX2_flavours := goodIn_r _ [91, 17, 32, 33, 34, 10, 35, 36, 37, 38, 39, 40, 41, 42, 43, 12, 101, 102, 103, 104] (by decide +kernel) (by decide +kernel)
set_option maxRecDepth 20000 in
theorem gX7_years_X2_flavours : GoodIn wsX7_years (wsV RX7 129 RX2 yX2_flavours wsX2_flavours) := goodIn_app (goodIn_of _ (by decide +kernel)) ggX7_years_X2_flavours
set_option maxRecDepth 20000 in
theorem ggX7_trialByChance_X2_tryFill : GoodIn wsX7_trialByChance wsX2_tryFill := goodIn_r _ [6, 7, 8, 9, 5, 10, 11, 12, 13, 14, 15, 16, 17, 18, 19, 20, 21, 22, 23, 24, 25, 26, 27, 28, 29, 30, 31, 32, 33, 34, 35, 80, 81, 82, 83] (by decide +kernel) (by decide +kernel)
set_option maxRecDepth 20000 in
theorem gX7_trialByChance_X2_tryFill : GoodIn wsX7_trialByChance (wsV RX7 213 RX2 yX2_tryFill wsX2_tryFill) := goodIn_app (goodIn_of _ (by decide +kernel)) ggX7_trialByChance_X2_tryFill
set_option maxRecDepth 20000 in
theorem ggX7_trialByChance_X2_rattle : GoodIn wsX7_trialByChance wsX2_rattle := goodIn_r _ [39, 19, 40, 41, 42, 5, 43, 11, 12, 13, 14, 15, 16, 17, 18, 20, 21, 22, 23, 24, 32, 33, 34, 35, 44, 45, 46, 47, 80, 81, 82, 83] (by decide +kernel) (by decide +kernel)
set_option maxRecDepth 20000 in
theorem gX7_trialByChance_X2_rattle : GoodIn wsX7_trialByChance (wsV RX7 132 RX2 yX2_rattle wsX2_rattle) := goodIn_app (goodIn_of _ (by decide +kernel)) ggX7_trialByChance_X2_rattle
set_option maxRecDepth 20000 in
theorem ggX7_trialByChance_X2_passWeek : GoodIn wsX7_trialByChance wsX2_passWeek := goodIn_r _ [51, 52, 19, 11, 12, 13, 5, 14, 15, 16, 17, 18, 20, 21, 22, 23, 24, 53, 54, 55, 56, 57, 58, 59, 60, 61, 26, 62, 63, 64, 65, 66, 67, 68, 69, 70, 32, 33, 34, 35, 44, 45, 46, 47, 80, 81, 82, 83] (by decide +kernel) (by decide +kernel)
set_option maxRecDepth 20000 in
theorem gX7_trialByChance_X2_passWeek : GoodIn wsX7_trialByChance (wsV RX7 126 RX2 yX2_passWeek wsX2_passWeek) := goodIn_app (goodIn_of _ (by decide +kernel)) ggX7_trialByChance_X2_passWeek
set_option maxRecDepth 20000 in
theorem ggX7_keep_X3_store : GoodIn wsX7_keep wsX3_store := goodIn_r _ [7, 8, 9, 10, 11, 12, 13, 14, 15, 16, 17, 18, 19, 20, 34, 35, 36, 37, 38, 39] (by decide +kernel) (by decide +kernel)
set_option maxRecDepth 20000 in
theorem gX7_keep_X3_store : GoodIn wsX7_keep (wsV RX7 285 RX3 yX3_store wsX3_store) := goodIn_app (goodIn_of _ (by decide +kernel)) ggX7_keep_X3_store
set_option maxRecDepth 20000 in
theorem ggX7_keep_X2_weeks : GoodIn wsX7_keep wsX2_weeks := goodIn_r _ [24, 20, 36, 37, 38, 39] (by decide +kernel) (by decide +kernel)
set_option maxRecDepth 20000 in
theorem gX7_keep_X2_weeks : GoodIn wsX7_keep (wsV RX7 90 RX2 yX2_weeks wsX2_weeks) := goodIn_app (goodIn_of _ (by decide +kernel)) ggX7_keep_X2_weeks
set_option maxRecDepth 20000 in
theorem ggX7_again_X3_fetch : GoodIn wsX7_again wsX3_fetch := goodIn_r _ [8, 9, 10, 11, 12, 13, 14, 15, 16, 17, 18, 19, 20, 21, 41, 42, 43, 44, 45, 46] (by decide +kernel) (by decide +kernel)
set_option maxRecDepth 20000 in
theorem gX7_again_X3_fetch : GoodIn wsX7_again (wsV RX7 289 RX3 yX3_fetch wsX3_fetch) := goodIn_app (goodIn_of _ (by decide +kernel)) ggX7_again_X3_fetch
set_option maxRecDepth 20000 in
theorem ggX7_again_X0_forget : GoodIn wsX7_again wsX0_forget := goodIn_r _ [26, 27, 47, 48, 49] (by decide +kernel) (by decide +kernel)
set_option maxRecDepth 20000 in
theorem gX7_again_X0_forget : GoodIn wsX7_again (wsV RX7 83 RX0 yX0_forget wsX0_forget) := goodIn_app (goodIn_of _ (by decide +kernel)) ggX7_again_X0_forget
set_option maxRecDepth 20000 in
theorem ggX7_again_X2_weeks : GoodIn wsX7_again wsX2_weeks := goodIn_r _ [31, 21, 43, 44, 45, 46] (by decide +kernel) (by decide +kernel)
set_option maxRecDepth 20000 in
theorem gX7_again_X2_weeks : GoodIn wsX7_again (wsV RX7 90 RX2 yX2_weeks wsX2_weeks) := goodIn_app (goodIn_of _ (by decide +kernel)) ggX7_again_X2_weeks
set_option maxRecDepth 20000 in
theorem ggX7_ripened_J6_compare_7cf53 : GoodIn wsX7_ripened wsJ6_compare_7cf53 := goodIn_r _ [11] (by decide +kernel) (by decide +kernel)
set_option maxRecDepth 20000 in
theorem gX7_ripened_J6_compare_7cf53 : GoodIn wsX7_ripened (va_wsS RX7 303 yJ6_compare_7cf53 wsJ6_compare_7cf53) := goodIn_app (goodIn_of _ (by decide +kernel)) ggX7_ripened_J6_compare_7cf53
set_option maxRecDepth 20000 in
theorem ggX8_noJar_X8_in : GoodIn wsX8_noJar wsX8_in := goodIn_r _ [5] (by decide +kernel) (by decide +kernel)
set_option maxRecDepth 20000 in
theorem gX8_noJar_X8_in : GoodIn wsX8_noJar (va_wsS RX8 63 yX8_in wsX8_in) := goodIn_app (goodIn_of _ (by decide +kernel)) ggX8_noJar_X8_in
set_option maxRecDepth 20000 in
theorem ggX8_write_X8_in : GoodIn wsX8_write wsX8_in := goodIn_r _ [8] (by decide +kernel) (by decide +kernel)
set_option maxRecDepth 20000 in
theorem gX8_write_X8_in : GoodIn wsX8_write (va_wsS RX8 63 yX8_in wsX8_in) := goodIn_app (goodIn_of _ (by decide +kernel)) ggX8_write_X8_in
set_option maxRecDepth 20000 in
theorem ggX8_figure_X8_in : GoodIn wsX8_figure wsX8_in := goodIn_r _ [7] (by decide +kernel) (by decide +kernel)
set_option maxRecDepth 20000 in
theorem gX8_figure_X8_in : GoodIn wsX8_figure (va_wsS RX8 63 yX8_in wsX8_in) := goodIn_app (goodIn_of _ (by decide +kernel)) ggX8_figure_X8_in
set_option maxRecDepth 20000 in
theorem ggX8_readOneJar_X8_in : GoodIn wsX8_readOneJar wsX8_in := goodIn_r _ [11] (by decide +kernel) (by decide +kernel)
set_option maxRecDepth 20000 in
theorem gX8_readOneJar_X8_in : GoodIn wsX8_readOneJar (va_wsS RX8 63 yX8_in wsX8_in) := goodIn_app (goodIn_of _ (by decide +kernel)) ggX8_readOneJar_X8_in
set_option maxRecDepth 20000 in
theorem ggX8_readOneJar_X8_has : GoodIn wsX8_readOneJar wsX8_has := goodIn_r _ [14] (by decide +kernel) (by decide +kernel)
set_option maxRecDepth 20000 in
theorem gX8_readOneJar_X8_has : GoodIn wsX8_readOneJar (va_wsS RX8 83 yX8_has wsX8_has) := goodIn_app (goodIn_of _ (by decide +kernel)) ggX8_readOneJar_X8_has
set_option maxRecDepth 20000 in
theorem ggX8_readOneJar_X8_figure : GoodIn wsX8_readOneJar wsX8_figure := goodIn_r _ [18, 2, 4, 1, 8, 9, 10, 11, 19, 20, 21, 22, 23, 24, 25, 26, 27, 28, 29, 30, 31, 32, 33, 34, 35, 36, 37, 38, 39, 40, 41, 42, 43, 44, 45, 46, 47, 48, 49, 50, 51] (by decide +kernel) (by decide +kernel)
set_option maxRecDepth 20000 in
theorem gX8_readOneJar_X8_figure : GoodIn wsX8_readOneJar (wsV RX8 87 RX8 yX8_figure wsX8_figure) := goodIn_app (goodIn_of _ (by decide +kernel)) ggX8_readOneJar_X8_figure
set_option maxRecDepth 20000 in
theorem ggX8_readSale_X8_readOneJar : GoodIn wsX8_readSale wsX8_readOneJar := goodIn_r _ [10, 5, 1, 3, 4, 11, 2, 12, 13, 14, 9, 15, 16, 17, 18, 19, 20, 21, 22, 23, 24, 25, 26, 27, 28, 29, 30, 31, 32, 33, 34, 35, 36, 37, 38, 39, 40, 41, 42, 43, 44, 45, 46, 47, 48, 49, 50, 51, 52, 53, 54, 55] (by decide +kernel) (by decide +kernel)
set_option maxRecDepth 20000 in
theorem gX8_readSale_X8_readOneJar : GoodIn wsX8_readSale (wsV RX8 91 RX8 yX8_readOneJar wsX8_readOneJar) := goodIn_app (goodIn_of _ (by decide +kernel)) ggX8_readSale_X8_readOneJar
set_option maxRecDepth 20000 in
theorem ggX8_fault_X8_readSale : GoodIn wsX8_fault wsX8_readSale := goodIn_r _ [6, 7, 8, 9, 10, 11, 12, 13, 14, 5, 15, 16, 17, 18, 19, 20, 21, 22, 23, 24, 25, 26, 27, 28, 29, 30, 31, 32, 33, 34, 35, 36, 37, 38, 39, 40, 41, 42, 43, 44, 45, 46, 47, 48, 49, 50, 51, 52, 53, 54, 55, 56, 57, 58, 59, 60] (by decide +kernel) (by decide +kernel)
set_option maxRecDepth 20000 in
theorem gX8_fault_X8_readSale : GoodIn wsX8_fault (wsV RX8 95 RX8 yX8_readSale wsX8_readSale) := goodIn_app (goodIn_of _ (by decide +kernel)) ggX8_fault_X8_readSale
set_option maxRecDepth 20000 in
theorem ggX8_sale_X8_readSale : GoodIn wsX8_sale wsX8_readSale := goodIn_r _ [14, 15, 16, 2, 17, 18, 19, 20, 21, 13, 22, 23, 5, 24, 25, 26, 27, 28, 29, 30, 31, 32, 33, 34, 35, 36, 37, 38, 39, 40, 41, 42, 43, 44, 45, 46, 47, 48, 49, 50, 51, 52, 53, 54, 55, 56, 57, 58, 59, 60, 61, 62, 63, 64, 65, 66] (by decide +kernel) (by decide +kernel)
set_option maxRecDepth 20000 in
theorem gX8_sale_X8_readSale : GoodIn wsX8_sale (wsV RX8 95 RX8 yX8_readSale wsX8_readSale) := goodIn_app (goodIn_of _ (by decide +kernel)) ggX8_sale_X8_readSale
set_option maxRecDepth 20000 in
theorem ggX8_goWeek_X8_isWhole : GoodIn wsX8_goWeek wsX8_isWhole := goodIn_r _ [6] (by decide +kernel) (by decide +kernel)
set_option maxRecDepth 20000 in
theorem gX8_goWeek_X8_isWhole : GoodIn wsX8_goWeek (va_wsS RX8 102 yX8_isWhole wsX8_isWhole) := goodIn_app (goodIn_of _ (by decide +kernel)) ggX8_goWeek_X8_isWhole
set_option maxRecDepth 20000 in
theorem ggX8_goWeek_X8_soaked : GoodIn wsX8_goWeek wsX8_soaked := goodIn_r _ [9] (by decide +kernel) (by decide +kernel)
set_option maxRecDepth 20000 in
theorem gX8_goWeek_X8_soaked : GoodIn wsX8_goWeek (va_wsS RX8 106 yX8_soaked wsX8_soaked) := goodIn_app (goodIn_of _ (by decide +kernel)) ggX8_goWeek_X8_soaked
set_option maxRecDepth 20000 in
theorem ggX8_goShake_X8_isWhole : GoodIn wsX8_goShake wsX8_isWhole := goodIn_r _ [7] (by decide +kernel) (by decide +kernel)
set_option maxRecDepth 20000 in
theorem gX8_goShake_X8_isWhole : GoodIn wsX8_goShake (va_wsS RX8 102 yX8_isWhole wsX8_isWhole) := goodIn_app (goodIn_of _ (by decide +kernel)) ggX8_goShake_X8_isWhole
set_option maxRecDepth 20000 in
theorem ggX8_isOn_X8_has : GoodIn wsX8_isOn wsX8_has := goodIn_r _ [5] (by decide +kernel) (by decide +kernel)
set_option maxRecDepth 20000 in
theorem gX8_isOn_X8_has : GoodIn wsX8_isOn (va_wsS RX8 83 yX8_has wsX8_has) := goodIn_app (goodIn_of _ (by decide +kernel)) ggX8_isOn_X8_has
set_option maxRecDepth 20000 in
theorem ggX8_jarAt_X8_isOn : GoodIn wsX8_jarAt wsX8_isOn := goodIn_r _ [6, 7, 8, 9, 5, 10, 11, 12, 13, 14, 15, 16, 17, 18, 19, 20, 21, 22, 23, 24, 25, 26, 27, 28, 29, 30, 31, 32, 33, 34, 35, 36, 37, 38, 39, 40, 41, 42, 43] (by decide +kernel) (by decide +kernel)
set_option maxRecDepth 20000 in
theorem gX8_jarAt_X8_isOn : GoodIn wsX8_jarAt (wsV RX8 112 RX8 yX8_isOn wsX8_isOn) := goodIn_app (goodIn_of _ (by decide +kernel)) ggX8_jarAt_X8_isOn
set_option maxRecDepth 20000 in
theorem ggX8_hazeOf_X8_isWhole : GoodIn wsX8_hazeOf wsX8_isWhole := goodIn_r _ [4] (by decide +kernel) (by decide +kernel)
set_option maxRecDepth 20000 in
theorem gX8_hazeOf_X8_isWhole : GoodIn wsX8_hazeOf (va_wsS RX8 102 yX8_isWhole wsX8_isWhole) := goodIn_app (goodIn_of _ (by decide +kernel)) ggX8_hazeOf_X8_isWhole
set_option maxRecDepth 20000 in
theorem ggX8_sees_X8_has : GoodIn wsX8_sees wsX8_has := goodIn_r _ [7] (by decide +kernel) (by decide +kernel)
set_option maxRecDepth 20000 in
theorem gX8_sees_X8_has : GoodIn wsX8_sees (va_wsS RX8 83 yX8_has wsX8_has) := goodIn_app (goodIn_of _ (by decide +kernel)) ggX8_sees_X8_has
set_option maxRecDepth 20000 in
theorem ggX8_sees_X8_isWhole : GoodIn wsX8_sees wsX8_isWhole := goodIn_r _ [10] (by decide +kernel) (by decide +kernel)
set_option maxRecDepth 20000 in
theorem gX8_sees_X8_isWhole : GoodIn wsX8_sees (va_wsS RX8 102 yX8_isWhole wsX8_isWhole) := goodIn_app (goodIn_of _ (by decide +kernel)) ggX8_sees_X8_isWhole
set_option maxRecDepth 20000 in
theorem ggX8_sees_X8_in : GoodIn wsX8_sees wsX8_in := goodIn_r _ [13] (by decide +kernel) (by decide +kernel)
set_option maxRecDepth 20000 in
theorem gX8_sees_X8_in : GoodIn wsX8_sees (va_wsS RX8 63 yX8_in wsX8_in) := goodIn_app (goodIn_of _ (by decide +kernel)) ggX8_sees_X8_in
set_option maxRecDepth 20000 in
theorem ggX8_sees_X8_jarAt : GoodIn wsX8_sees wsX8_jarAt := goodIn_r _ [17, 18, 19, 20, 21, 6, 22, 1, 4, 5, 7, 26, 27, 28, 29, 30, 31, 32, 33, 34, 35, 36, 37, 38, 39, 40, 41, 42, 43, 44, 45, 46, 47, 48, 49, 50, 51, 52, 53, 54, 55, 56, 57, 58] (by decide +kernel) (by decide +kernel)
set_option maxRecDepth 20000 in
theorem gX8_sees_X8_jarAt : GoodIn wsX8_sees (wsV RX8 115 RX8 yX8_jarAt wsX8_jarAt) := goodIn_app (goodIn_of _ (by decide +kernel)) ggX8_sees_X8_jarAt
set_option maxRecDepth 20000 in
theorem ggX8_sees_X8_hazeOf : GoodIn wsX8_sees wsX8_hazeOf := goodIn_r _ [25, 8, 9, 6, 10] (by decide +kernel) (by decide +kernel)
set_option maxRecDepth 20000 in
theorem gX8_sees_X8_hazeOf : GoodIn wsX8_sees (va_wsS RX8 119 yX8_hazeOf wsX8_hazeOf) := goodIn_app (goodIn_of _ (by decide +kernel)) ggX8_sees_X8_hazeOf
set_option maxRecDepth 20000 in
theorem ggX8_pairsOf_X8_sees : GoodIn wsX8_pairsOf wsX8_sees := goodIn_r _ [6, 7, 8, 9, 10, 11, 5, 12, 13, 14, 15, 16, 17, 18, 19, 20, 21, 22, 1, 23, 24, 25, 26, 27, 28, 29, 30, 31, 32, 33, 34, 35, 36, 37, 38, 39, 40, 41, 42, 43, 44, 45, 46, 47, 48, 49, 50, 51, 52, 53, 54, 55, 56, 57, 58, 59, 60, 61, 62] (by decide +kernel) (by decide +kernel)
set_option maxRecDepth 20000 in
theorem gX8_pairsOf_X8_sees : GoodIn wsX8_pairsOf (wsV RX8 122 RX8 yX8_sees wsX8_sees) := goodIn_app (goodIn_of _ (by decide +kernel)) ggX8_pairsOf_X8_sees
set_option maxRecDepth 20000 in
theorem ggX8_flavours_X8_isWhole : GoodIn wsX8_flavours wsX8_isWhole := goodIn_r _ [5] (by decide +kernel) (by decide +kernel)
set_option maxRecDepth 20000 in
theorem gX8_flavours_X8_isWhole : GoodIn wsX8_flavours (va_wsS RX8 102 yX8_isWhole wsX8_isWhole) := goodIn_app (goodIn_of _ (by decide +kernel)) ggX8_flavours_X8_isWhole
set_option maxRecDepth 20000 in
theorem ggX8_about_X8_thatAre : GoodIn wsX8_about wsX8_thatAre := goodIn_r _ [12, 3, 47, 48, 49, 50, 51, 52, 53, 54, 55, 56, 57, 58, 59, 60, 61, 62, 63, 64, 65, 66, 67, 68, 69, 70, 71, 72, 73, 74, 75, 76, 77, 78, 79] (by decide +kernel) (by decide +kernel)
set_option maxRecDepth 20000 in
theorem gX8_about_X8_thatAre : GoodIn wsX8_about (wsV RX8 125 RX8 yX8_thatAre wsX8_thatAre) := goodIn_app (goodIn_of _ (by decide +kernel)) ggX8_about_X8_thatAre
set_option maxRecDepth 20000 in
theorem ggX8_about_X8_places : GoodIn wsX8_about wsX8_places := goodIn_r _ [16, 3, 4, 47, 48, 49, 50, 51, 52, 53, 54, 55, 56, 57, 58, 59, 60, 61, 62, 63, 64, 65, 66, 67, 68, 69, 70, 71, 72, 73, 74, 75, 76, 77, 78, 79] (by decide +kernel) (by decide +kernel)
set_option maxRecDepth 20000 in
theorem gX8_about_X8_places : GoodIn wsX8_about (wsV RX8 128 RX8 yX8_places wsX8_places) := goodIn_app (goodIn_of _ (by decide +kernel)) ggX8_about_X8_places
set_option maxRecDepth 20000 in
theorem ggX8_about_X8_pairsOf : GoodIn wsX8_about wsX8_pairsOf := goodIn_r _ [20, 3, 21, 22, 23, 11, 24, 2, 25, 26, 27, 28, 29, 30, 31, 32, 33, 34, 35, 36, 37, 38, 39, 40, 41, 42, 43, 44, 45, 46, 47, 48, 49, 50, 51, 52, 53, 54, 55, 56, 57, 58, 59, 60, 61, 62, 63, 64, 65, 66, 67, 68, 69, 70, 71, 72, 73, 74, 75, 76, 77, 78, 79] (by decide +kernel) (by decide +kernel)
set_option maxRecDepth 20000 in
theorem gX8_about_X8_pairsOf : GoodIn wsX8_about (wsV RX8 131 RX8 yX8_pairsOf wsX8_pairsOf) := goodIn_app (goodIn_of _ (by decide +kernel)) ggX8_about_X8_pairsOf
set_option maxRecDepth 20000 in
theorem ggX8_jar_X8_noJar : GoodIn wsX8_jar wsX8_noJar := goodIn_r _ [10, 11, 12, 13, 9, 14, 37, 38, 39, 40, 41, 42, 43, 44, 45, 46, 47, 48, 49, 50, 51, 52, 53, 54, 55, 56, 57, 58, 59, 60, 61, 62, 63, 64, 65, 66, 67, 68, 69] (by decide +kernel) (by decide +kernel)
set_option maxRecDepth 20000 in
theorem gX8_jar_X8_noJar : GoodIn wsX8_jar (wsV RX8 138 RX8 yX8_noJar wsX8_noJar) := goodIn_app (goodIn_of _ (by decide +kernel)) ggX8_jar_X8_noJar
set_option maxRecDepth 20000 in
theorem ggX8_jar_X8_sees : GoodIn wsX8_jar wsX8_sees := goodIn_r _ [18, 2, 19, 4, 20, 21, 9, 22, 23, 24, 25, 12, 13, 14, 26, 27, 28, 29, 11, 30, 31, 32, 33, 34, 35, 36, 37, 38, 39, 40, 41, 42, 43, 44, 45, 46, 47, 48, 49, 50, 51, 52, 53, 54, 55, 56, 57, 58, 59, 60, 61, 62, 63, 64, 65, 66, 67, 68, 69] (by decide +kernel) (by decide +kernel)
set_option maxRecDepth 20000 in
theorem gX8_jar_X8_sees : GoodIn wsX8_jar (wsV RX8 122 RX8 yX8_sees wsX8_sees) := goodIn_app (goodIn_of _ (by decide +kernel)) ggX8_jar_X8_sees
set_option maxRecDepth 20000 in
theorem ggX8_at_X8_in : GoodIn wsX8_at wsX8_in := goodIn_r _ [8] (by decide +kernel) (by decide +kernel)
set_option maxRecDepth 20000 in
theorem gX8_at_X8_in : GoodIn wsX8_at (va_wsS RX8 63 yX8_in wsX8_in) := goodIn_app (goodIn_of _ (by decide +kernel)) ggX8_at_X8_in
set_option maxRecDepth 20000 in
theorem ggX8_at_X8_jarAt : GoodIn wsX8_at wsX8_jarAt := goodIn_r _ [12, 13, 14, 15, 16, 7, 17, 2, 18, 19, 20, 21, 22, 23, 24, 25, 26, 27, 28, 29, 30, 31, 32, 33, 34, 35, 36, 37, 38, 39, 40, 41, 42, 43, 44, 45, 46, 47, 48, 49, 50, 51, 52, 53] (by decide +kernel) (by decide +kernel)
set_option maxRecDepth 20000 in
theorem gX8_at_X8_jarAt : GoodIn wsX8_at (wsV RX8 115 RX8 yX8_jarAt wsX8_jarAt) := goodIn_app (goodIn_of _ (by decide +kernel)) ggX8_at_X8_jarAt
set_option maxRecDepth 20000 in
theorem ggX8_week_X8_note : GoodIn wsX8_week wsX8_note := goodIn_r _ [7, 8, 9, 2, 26, 27, 28, 29, 30, 31, 32, 33, 34, 35, 36, 37, 38, 39, 40, 41, 42, 43, 44, 45, 46, 47, 48, 49, 50, 51, 52, 53, 54, 55, 56, 57, 58] (by decide +kernel) (by decide +kernel)
set_option maxRecDepth 20000 in
theorem gX8_week_X8_note : GoodIn wsX8_week (wsV RX8 142 RX8 yX8_note wsX8_note) := goodIn_app (goodIn_of _ (by decide +kernel)) ggX8_week_X8_note
set_option maxRecDepth 20000 in
theorem ggX8_week_X8_goWeek : GoodIn wsX8_week wsX8_goWeek := goodIn_r _ [13, 14, 15, 16, 17, 6, 18, 19, 20, 21, 26, 27, 28, 29, 30, 31, 32, 33, 34, 35, 36, 37, 38, 39, 40, 41, 42, 43, 44, 45, 46, 47, 48, 49, 50, 51, 52, 53, 54, 55, 56, 57, 58] (by decide +kernel) (by decide +kernel)
set_option maxRecDepth 20000 in
theorem gX8_week_X8_goWeek : GoodIn wsX8_week (wsV RX8 145 RX8 yX8_goWeek wsX8_goWeek) := goodIn_app (goodIn_of _ (by decide +kernel)) ggX8_week_X8_goWeek
set_option maxRecDepth 20000 in
theorem ggX8_week_X8_flavours : GoodIn wsX8_week wsX8_flavours := goodIn_r _ [25, 14, 16, 17, 6, 18, 26, 27, 28, 29, 30, 31, 32, 33, 34, 35, 36, 37, 38, 39, 40, 41, 42, 43, 44, 45, 46, 47, 48, 49, 50, 51, 52, 53, 54, 55, 56, 57, 58] (by decide +kernel) (by decide +kernel)
set_option maxRecDepth 20000 in
theorem gX8_week_X8_flavours : GoodIn wsX8_week (wsV RX8 149 RX8 yX8_flavours wsX8_flavours) := goodIn_app (goodIn_of _ (by decide +kernel)) ggX8_week_X8_flavours
set_option maxRecDepth 20000 in
theorem ggX8_shake_X8_note : GoodIn wsX8_shake wsX8_note := goodIn_r _ [7, 8, 9, 2, 20, 21, 22, 23, 24, 25, 26, 27, 28, 29, 30, 31, 32, 33, 34, 35, 36, 37, 38, 39, 40, 41, 42, 43, 44, 45, 46, 47, 48, 49, 50, 51, 52] (by decide +kernel) (by decide +kernel)
set_option maxRecDepth 20000 in
theorem gX8_shake_X8_note : GoodIn wsX8_shake (wsV RX8 142 RX8 yX8_note wsX8_note) := goodIn_app (goodIn_of _ (by decide +kernel)) ggX8_shake_X8_note
set_option maxRecDepth 20000 in
theorem ggX8_shake_X8_goShake : GoodIn wsX8_shake wsX8_goShake := goodIn_r _ [13, 14, 15, 16, 17, 18, 6, 19, 20, 21, 22, 23, 24, 25, 26, 27, 28, 29, 30, 31, 32, 33, 34, 35, 36, 37, 38, 39, 40, 41, 42, 43, 44, 45, 46, 47, 48, 49, 50, 51, 52] (by decide +kernel) (by decide +kernel)
set_option maxRecDepth 20000 in
theorem gX8_shake_X8_goShake : GoodIn wsX8_shake (wsV RX8 152 RX8 yX8_goShake wsX8_goShake) := goodIn_app (goodIn_of _ (by decide +kernel)) ggX8_shake_X8_goShake
set_option maxRecDepth 20000 in
theorem ggX8_canSet_X8_isWhole : GoodIn wsX8_canSet wsX8_isWhole := goodIn_r _ [4] (by decide +kernel) (by decide +kernel)
set_option maxRecDepth 20000 in
theorem gX8_canSet_X8_isWhole : GoodIn wsX8_canSet (va_wsS RX8 102 yX8_isWhole wsX8_isWhole) := goodIn_app (goodIn_of _ (by decide +kernel)) ggX8_canSet_X8_isWhole
set_option maxRecDepth 20000 in
theorem ggX8_canSet_X8_jarAt : GoodIn wsX8_canSet wsX8_jarAt := goodIn_r _ [8, 9, 10, 11, 12, 3, 13, 14, 15, 16, 17, 18, 19, 20, 21, 22, 23, 24, 25, 26, 27, 28, 29, 30, 31, 32, 33, 34, 35, 36, 37, 38, 39, 40, 41, 42, 43, 44, 45, 46, 47, 48, 49, 50] (by decide +kernel) (by decide +kernel)
set_option maxRecDepth 20000 in
theorem gX8_canSet_X8_jarAt : GoodIn wsX8_canSet (wsV RX8 115 RX8 yX8_jarAt wsX8_jarAt) := goodIn_app (goodIn_of _ (by decide +kernel)) ggX8_canSet_X8_jarAt
set_option maxRecDepth 20000 in
theorem ggX8_set_X8_noJar : GoodIn wsX8_set wsX8_noJar := goodIn_r _ [9, 10, 11, 12, 8, 13, 38, 39, 40, 41, 42, 43, 44, 45, 46, 47, 48, 49, 50, 51, 52, 53, 54, 55, 56, 57, 58, 59, 60, 61, 62, 63, 64, 65, 66, 67, 68, 69, 70] (by decide +kernel) (by decide +kernel)
set_option maxRecDepth 20000 in
theorem gX8_set_X8_noJar : GoodIn wsX8_set (wsV RX8 138 RX8 yX8_noJar wsX8_noJar) := goodIn_app (goodIn_of _ (by decide +kernel)) ggX8_set_X8_noJar
set_option maxRecDepth 20000 in
theorem ggX8_set_X8_in : GoodIn wsX8_set wsX8_in := goodIn_r _ [13] (by decide +kernel) (by decide +kernel)
set_option maxRecDepth 20000 in
theorem gX8_set_X8_in : GoodIn wsX8_set (va_wsS RX8 63 yX8_in wsX8_in) := goodIn_app (goodIn_of _ (by decide +kernel)) ggX8_set_X8_in
set_option maxRecDepth 20000 in
theorem ggX8_set_X8_canSet : GoodIn wsX8_set wsX8_canSet := goodIn_r _ [17, 18, 19, 8, 20, 21, 22, 23, 24, 10, 25, 26, 27, 28, 2, 29, 30, 31, 38, 39, 40, 41, 42, 43, 44, 45, 46, 47, 48, 49, 50, 51, 52, 53, 54, 55, 56, 57, 58, 59, 60, 61, 62, 63, 64, 65, 66, 67, 68, 69, 70] (by decide +kernel) (by decide +kernel)
set_option maxRecDepth 20000 in
theorem gX8_set_X8_canSet : GoodIn wsX8_set (wsV RX8 155 RX8 yX8_canSet wsX8_canSet) := goodIn_app (goodIn_of _ (by decide +kernel)) ggX8_set_X8_canSet
set_option maxRecDepth 20000 in
theorem ggX8_set_X8_note : GoodIn wsX8_set wsX8_note := goodIn_r _ [35, 36, 37, 4, 38, 39, 40, 41, 42, 43, 44, 45, 46, 47, 48, 49, 50, 51, 52, 53, 54, 55, 56, 57, 58, 59, 60, 61, 62, 63, 64, 65, 66, 67, 68, 69, 70] (by decide +kernel) (by decide +kernel)
set_option maxRecDepth 20000 in
theorem gX8_set_X8_note : GoodIn wsX8_set (wsV RX8 142 RX8 yX8_note wsX8_note) := goodIn_app (goodIn_of _ (by decide +kernel)) ggX8_set_X8_note
set_option maxRecDepth 20000 in
theorem ggX8_canPour_X8_isWhole : GoodIn wsX8_canPour wsX8_isWhole := goodIn_r _ [4] (by decide +kernel) (by decide +kernel)
set_option maxRecDepth 20000 in
theorem gX8_canPour_X8_isWhole : GoodIn wsX8_canPour (va_wsS RX8 102 yX8_isWhole wsX8_isWhole) := goodIn_app (goodIn_of _ (by decide +kernel)) ggX8_canPour_X8_isWhole
set_option maxRecDepth 20000 in
theorem ggX8_pour_X8_noJar : GoodIn wsX8_pour wsX8_noJar := goodIn_r _ [8, 9, 10, 11, 7, 12, 28, 29, 30, 31, 32, 33, 34, 35, 36, 37, 38, 39, 40, 41, 42, 43, 44, 45, 46, 47, 48, 49, 50, 51, 52, 53, 54, 55, 56, 57, 58, 59, 60] (by decide +kernel) (by decide +kernel)
set_option maxRecDepth 20000 in
theorem gX8_pour_X8_noJar : GoodIn wsX8_pour (wsV RX8 138 RX8 yX8_noJar wsX8_noJar) := goodIn_app (goodIn_of _ (by decide +kernel)) ggX8_pour_X8_noJar
set_option maxRecDepth 20000 in
theorem ggX8_pour_X8_in : GoodIn wsX8_pour wsX8_in := goodIn_r _ [12] (by decide +kernel) (by decide +kernel)
set_option maxRecDepth 20000 in
theorem gX8_pour_X8_in : GoodIn wsX8_pour (va_wsS RX8 63 yX8_in wsX8_in) := goodIn_app (goodIn_of _ (by decide +kernel)) ggX8_pour_X8_in
set_option maxRecDepth 20000 in
theorem ggX8_pour_X8_canPour : GoodIn wsX8_pour wsX8_canPour := goodIn_r _ [15, 16, 17, 7, 18] (by decide +kernel) (by decide +kernel)
set_option maxRecDepth 20000 in
theorem gX8_pour_X8_canPour : GoodIn wsX8_pour (va_wsS RX8 161 yX8_canPour wsX8_canPour) := goodIn_app (goodIn_of _ (by decide +kernel)) ggX8_pour_X8_canPour
set_option maxRecDepth 20000 in
theorem ggX8_pour_X8_note : GoodIn wsX8_pour wsX8_note := goodIn_r _ [22, 23, 24, 3, 28, 29, 30, 31, 32, 33, 34, 35, 36, 37, 38, 39, 40, 41, 42, 43, 44, 45, 46, 47, 48, 49, 50, 51, 52, 53, 54, 55, 56, 57, 58, 59, 60] (by decide +kernel) (by decide +kernel)
set_option maxRecDepth 20000 in
theorem gX8_pour_X8_note : GoodIn wsX8_pour (wsV RX8 142 RX8 yX8_note wsX8_note) := goodIn_app (goodIn_of _ (by decide +kernel)) ggX8_pour_X8_note
set_option maxRecDepth 20000 in
theorem ggX8_pour_X8_goPour : GoodIn wsX8_pour wsX8_goPour := goodIn_r _ [27] (by decide +kernel) (by decide +kernel)
set_option maxRecDepth 20000 in
theorem gX8_pour_X8_goPour : GoodIn wsX8_pour (va_wsS RX8 164 yX8_goPour wsX8_goPour) := goodIn_app (goodIn_of _ (by decide +kernel)) ggX8_pour_X8_goPour
set_option maxRecDepth 20000 in
theorem ggX8_open_X8_noJar : GoodIn wsX8_open wsX8_noJar := goodIn_r _ [7, 8, 9, 10, 6, 11, 21, 22, 23, 24, 25, 26, 27, 28, 29, 30, 31, 32, 33, 34, 35, 36, 37, 38, 39, 40, 41, 42, 43, 44, 45, 46, 47, 48, 49, 50, 51, 52, 53] (by decide +kernel) (by decide +kernel)
set_option maxRecDepth 20000 in
theorem gX8_open_X8_noJar : GoodIn wsX8_open (wsV RX8 138 RX8 yX8_noJar wsX8_noJar) := goodIn_app (goodIn_of _ (by decide +kernel)) ggX8_open_X8_noJar
set_option maxRecDepth 20000 in
theorem ggX8_open_X8_isWhole : GoodIn wsX8_open wsX8_isWhole := goodIn_r _ [14] (by decide +kernel) (by decide +kernel)
set_option maxRecDepth 20000 in
theorem gX8_open_X8_isWhole : GoodIn wsX8_open (va_wsS RX8 102 yX8_isWhole wsX8_isWhole) := goodIn_app (goodIn_of _ (by decide +kernel)) ggX8_open_X8_isWhole
set_option maxRecDepth 20000 in
theorem ggX8_open_X8_note : GoodIn wsX8_open wsX8_note := goodIn_r _ [18, 19, 20, 2, 21, 22, 23, 24, 25, 26, 27, 28, 29, 30, 31, 32, 33, 34, 35, 36, 37, 38, 39, 40, 41, 42, 43, 44, 45, 46, 47, 48, 49, 50, 51, 52, 53] (by decide +kernel) (by decide +kernel)
set_option maxRecDepth 20000 in
theorem gX8_open_X8_note : GoodIn wsX8_open (wsV RX8 142 RX8 yX8_note wsX8_note) := goodIn_app (goodIn_of _ (by decide +kernel)) ggX8_open_X8_note
set_option maxRecDepth 20000 in
theorem ggX8_goWeeks_X8_goWeek : GoodIn wsX8_goWeeks wsX8_goWeek := goodIn_r _ [6, 7, 8, 9, 10, 5, 11, 12, 13, 14, 15, 16, 17, 18, 19, 20, 21, 22, 23, 24, 25, 26, 27, 28, 29, 30, 31, 32, 33, 34, 35, 36, 37, 38, 39, 40, 41, 42, 43, 44, 45, 46, 47] (by decide +kernel) (by decide +kernel)
set_option maxRecDepth 20000 in
theorem gX8_goWeeks_X8_goWeek : GoodIn wsX8_goWeeks (wsV RX8 145 RX8 yX8_goWeek wsX8_goWeek) := goodIn_app (goodIn_of _ (by decide +kernel)) ggX8_goWeeks_X8_goWeek
set_option maxRecDepth 20000 in
theorem ggX8_later_X8_noJar : GoodIn wsX8_later wsX8_noJar := goodIn_r _ [8, 9, 10, 11, 7, 12, 53, 54, 55, 56, 57, 58, 59, 60, 61, 62, 63, 64, 65, 66, 67, 68, 69, 70, 71, 72, 73, 74, 75, 76, 77, 78, 79, 80, 81, 82, 83, 84, 85] (by decide +kernel) (by decide +kernel)
set_option maxRecDepth 20000 in
theorem gX8_later_X8_noJar : GoodIn wsX8_later (wsV RX8 138 RX8 yX8_noJar wsX8_noJar) := goodIn_app (goodIn_of _ (by decide +kernel)) ggX8_later_X8_noJar
set_option maxRecDepth 20000 in
theorem ggX8_later_X8_in : GoodIn wsX8_later wsX8_in := goodIn_r _ [12] (by decide +kernel) (by decide +kernel)
set_option maxRecDepth 20000 in
theorem gX8_later_X8_in : GoodIn wsX8_later (va_wsS RX8 63 yX8_in wsX8_in) := goodIn_app (goodIn_of _ (by decide +kernel)) ggX8_later_X8_in
set_option maxRecDepth 20000 in
theorem ggX8_later_X8_begin : GoodIn wsX8_later wsX8_begin := goodIn_r _ [16, 17, 3, 18, 53, 54, 55, 56, 57, 58, 59, 60, 61, 62, 63, 64, 65, 66, 67, 68, 69, 70, 71, 72, 73, 74, 75, 76, 77, 78, 79, 80, 81, 82, 83, 84, 85] (by decide +kernel) (by decide +kernel)
set_option maxRecDepth 20000 in
theorem gX8_later_X8_begin : GoodIn wsX8_later (wsV RX8 170 RX8 yX8_begin wsX8_begin) := goodIn_app (goodIn_of _ (by decide +kernel)) ggX8_later_X8_begin
set_option maxRecDepth 20000 in
theorem ggX8_later_X8_goWeeks : GoodIn wsX8_later wsX8_goWeeks := goodIn_r _ [22, 3, 23, 24, 25, 7, 26, 9, 27, 28, 29, 30, 31, 32, 33, 53, 54, 55, 56, 57, 58, 59, 60, 61, 62, 63, 64, 65, 66, 67, 68, 69, 70, 71, 72, 73, 74, 75, 76, 77, 78, 79, 80, 81, 82, 83, 84, 85] (by decide +kernel) (by decide +kernel)
set_option maxRecDepth 20000 in
theorem gX8_later_X8_goWeeks : GoodIn wsX8_later (wsV RX8 173 RX8 yX8_goWeeks wsX8_goWeeks) := goodIn_app (goodIn_of _ (by decide +kernel)) ggX8_later_X8_goWeeks
set_option maxRecDepth 20000 in
theorem ggX8_later_X8_sees : GoodIn wsX8_later wsX8_sees := goodIn_r _ [37, 17, 38, 27, 39, 40, 7, 41, 28, 29, 30, 10, 11, 12, 42, 43, 44, 45, 9, 46, 47, 48, 49, 50, 51, 52, 53, 54, 55, 56, 57, 58, 59, 60, 61, 62, 63, 64, 65, 66, 67, 68, 69, 70, 71, 72, 73, 74, 75, 76, 77, 78, 79, 80, 81, 82, 83, 84, 85] (by decide +kernel) (by decide +kernel)
set_option maxRecDepth 20000 in
theorem gX8_later_X8_sees : GoodIn wsX8_later (wsV RX8 122 RX8 yX8_sees wsX8_sees) := goodIn_app (goodIn_of _ (by decide +kernel)) ggX8_later_X8_sees
set_option maxRecDepth 20000 in
theorem ggX8_becomes_X8_noJar : GoodIn wsX8_becomes wsX8_noJar := goodIn_r _ [9, 10, 11, 12, 8, 13, 30, 31, 32, 33, 34, 35, 36, 37, 38, 39, 40, 41, 42, 43, 44, 45, 46, 47, 48, 49, 50, 51, 52, 53, 54, 55, 56, 57, 58, 59, 60, 61, 62] (by decide +kernel) (by decide +kernel)
set_option maxRecDepth 20000 in
theorem gX8_becomes_X8_noJar : GoodIn wsX8_becomes (wsV RX8 138 RX8 yX8_noJar wsX8_noJar) := goodIn_app (goodIn_of _ (by decide +kernel)) ggX8_becomes_X8_noJar
set_option maxRecDepth 20000 in
theorem ggX8_becomes_X8_in : GoodIn wsX8_becomes wsX8_in := goodIn_r _ [13] (by decide +kernel) (by decide +kernel)
set_option maxRecDepth 20000 in
theorem gX8_becomes_X8_in : GoodIn wsX8_becomes (va_wsS RX8 63 yX8_in wsX8_in) := goodIn_app (goodIn_of _ (by decide +kernel)) ggX8_becomes_X8_in
set_option maxRecDepth 20000 in
theorem ggX8_becomes_X8_isWhole : GoodIn wsX8_becomes wsX8_isWhole := goodIn_r _ [16] (by decide +kernel) (by decide +kernel)
set_option maxRecDepth 20000 in
theorem gX8_becomes_X8_isWhole : GoodIn wsX8_becomes (va_wsS RX8 102 yX8_isWhole wsX8_isWhole) := goodIn_app (goodIn_of _ (by decide +kernel)) ggX8_becomes_X8_isWhole
set_option maxRecDepth 20000 in
theorem ggX8_becomes_X8_begin : GoodIn wsX8_becomes wsX8_begin := goodIn_r _ [20, 21, 4, 3, 30, 31, 32, 33, 34, 35, 36, 37, 38, 39, 40, 41, 42, 43, 44, 45, 46, 47, 48, 49, 50, 51, 52, 53, 54, 55, 56, 57, 58, 59, 60, 61, 62] (by decide +kernel) (by decide +kernel)
set_option maxRecDepth 20000 in
theorem gX8_becomes_X8_begin : GoodIn wsX8_becomes (wsV RX8 170 RX8 yX8_begin wsX8_begin) := goodIn_app (goodIn_of _ (by decide +kernel)) ggX8_becomes_X8_begin
set_option maxRecDepth 20000 in
theorem ggX8_becomes_X8_goWeek : GoodIn wsX8_becomes wsX8_goWeek := goodIn_r _ [25, 10, 26, 14, 15, 8, 16, 27, 28, 29, 30, 31, 32, 33, 34, 35, 36, 37, 38, 39, 40, 41, 42, 43, 44, 45, 46, 47, 48, 49, 50, 51, 52, 53, 54, 55, 56, 57, 58, 59, 60, 61, 62] (by decide +kernel) (by decide +kernel)
set_option maxRecDepth 20000 in
theorem gX8_becomes_X8_goWeek : GoodIn wsX8_becomes (wsV RX8 145 RX8 yX8_goWeek wsX8_goWeek) := goodIn_app (goodIn_of _ (by decide +kernel)) ggX8_becomes_X8_goWeek
set_option maxRecDepth 20000 in
theorem ggX8_fails_X8_noJar : GoodIn wsX8_fails wsX8_noJar := goodIn_r _ [9, 10, 11, 12, 8, 13, 30, 31, 32, 33, 34, 35, 36, 37, 38, 39, 40, 41, 42, 43, 44, 45, 46, 47, 48, 49, 50, 51, 52, 53, 54, 55, 56, 57, 58, 59, 60, 61, 62] (by decide +kernel) (by decide +kernel)
set_option maxRecDepth 20000 in
theorem gX8_fails_X8_noJar : GoodIn wsX8_fails (wsV RX8 138 RX8 yX8_noJar wsX8_noJar) := goodIn_app (goodIn_of _ (by decide +kernel)) ggX8_fails_X8_noJar
set_option maxRecDepth 20000 in
theorem ggX8_fails_X8_isWhole : GoodIn wsX8_fails wsX8_isWhole := goodIn_r _ [16] (by decide +kernel) (by decide +kernel)
set_option maxRecDepth 20000 in
theorem gX8_fails_X8_isWhole : GoodIn wsX8_fails (va_wsS RX8 102 yX8_isWhole wsX8_isWhole) := goodIn_app (goodIn_of _ (by decide +kernel)) ggX8_fails_X8_isWhole
set_option maxRecDepth 20000 in
theorem ggX8_fails_X8_begin : GoodIn wsX8_fails wsX8_begin := goodIn_r _ [20, 21, 4, 2, 30, 31, 32, 33, 34, 35, 36, 37, 38, 39, 40, 41, 42, 43, 44, 45, 46, 47, 48, 49, 50, 51, 52, 53, 54, 55, 56, 57, 58, 59, 60, 61, 62] (by decide +kernel) (by decide +kernel)
set_option maxRecDepth 20000 in
theorem gX8_fails_X8_begin : GoodIn wsX8_fails (wsV RX8 170 RX8 yX8_begin wsX8_begin) := goodIn_app (goodIn_of _ (by decide +kernel)) ggX8_fails_X8_begin
set_option maxRecDepth 20000 in
theorem ggX8_fails_X8_goWeek : GoodIn wsX8_fails wsX8_goWeek := goodIn_r _ [25, 10, 26, 14, 15, 8, 16, 27, 28, 29, 30, 31, 32, 33, 34, 35, 36, 37, 38, 39, 40, 41, 42, 43, 44, 45, 46, 47, 48, 49, 50, 51, 52, 53, 54, 55, 56, 57, 58, 59, 60, 61, 62] (by decide +kernel) (by decide +kernel)
set_option maxRecDepth 20000 in
theorem gX8_fails_X8_goWeek : GoodIn wsX8_fails (wsV RX8 145 RX8 yX8_goWeek wsX8_goWeek) := goodIn_app (goodIn_of _ (by decide +kernel)) ggX8_fails_X8_goWeek
set_option maxRecDepth 20000 in
theorem ggX8_stuff_X8_noJar : GoodIn wsX8_stuff wsX8_noJar := goodIn_r _ [12, 13, 14, 15, 11, 16, 37, 38, 39, 40, 41, 42, 43, 44, 45, 46, 47, 48, 49, 50, 51, 52, 53, 54, 55, 56, 57, 58, 59, 60, 61, 62, 63, 64, 65, 66, 67, 68, 69] (by decide +kernel) (by decide +kernel)
set_option maxRecDepth 20000 in
theorem gX8_stuff_X8_noJar : GoodIn wsX8_stuff (wsV RX8 138 RX8 yX8_noJar wsX8_noJar) := goodIn_app (goodIn_of _ (by decide +kernel)) ggX8_stuff_X8_noJar
set_option maxRecDepth 20000 in
theorem ggX8_stuff_X8_in : GoodIn wsX8_stuff wsX8_in := goodIn_r _ [16] (by decide +kernel) (by decide +kernel)
set_option maxRecDepth 20000 in
theorem gX8_stuff_X8_in : GoodIn wsX8_stuff (va_wsS RX8 63 yX8_in wsX8_in) := goodIn_app (goodIn_of _ (by decide +kernel)) ggX8_stuff_X8_in
set_option maxRecDepth 20000 in
theorem ggX8_stuff_X8_isWhole : GoodIn wsX8_stuff wsX8_isWhole := goodIn_r _ [19] (by decide +kernel) (by decide +kernel)
set_option maxRecDepth 20000 in
theorem gX8_stuff_X8_isWhole : GoodIn wsX8_stuff (va_wsS RX8 102 yX8_isWhole wsX8_isWhole) := goodIn_app (goodIn_of _ (by decide +kernel)) ggX8_stuff_X8_isWhole
set_option maxRecDepth 20000 in
theorem ggX8_stuff_X8_begin : GoodIn wsX8_stuff wsX8_begin := goodIn_r _ [23, 24, 7, 4, 37, 38, 39, 40, 41, 42, 43, 44, 45, 46, 47, 48, 49, 50, 51, 52, 53, 54, 55, 56, 57, 58, 59, 60, 61, 62, 63, 64, 65, 66, 67, 68, 69] (by decide +kernel) (by decide +kernel)
set_option maxRecDepth 20000 in
theorem gX8_stuff_X8_begin : GoodIn wsX8_stuff (wsV RX8 170 RX8 yX8_begin wsX8_begin) := goodIn_app (goodIn_of _ (by decide +kernel)) ggX8_stuff_X8_begin
set_option maxRecDepth 20000 in
theorem ggX8_stuff_X8_goWeeks : GoodIn wsX8_stuff wsX8_goWeeks := goodIn_r _ [28, 7, 29, 30, 31, 11, 32, 13, 33, 17, 18, 19, 34, 35, 36, 37, 38, 39, 40, 41, 42, 43, 44, 45, 46, 47, 48, 49, 50, 51, 52, 53, 54, 55, 56, 57, 58, 59, 60, 61, 62, 63, 64, 65, 66, 67, 68, 69] (by decide +kernel) (by decide +kernel)
set_option maxRecDepth 20000 in
theorem gX8_stuff_X8_goWeeks : GoodIn wsX8_stuff (wsV RX8 173 RX8 yX8_goWeeks wsX8_goWeeks) := goodIn_app (goodIn_of _ (by decide +kernel)) ggX8_stuff_X8_goWeeks
set_option maxRecDepth 20000 in
theorem ggX8_laySpots_X8_isWhole : GoodIn wsX8_laySpots wsX8_isWhole := goodIn_r _ [8] (by decide +kernel) (by decide +kernel)
set_option maxRecDepth 20000 in
theorem gX8_laySpots_X8_isWhole : GoodIn wsX8_laySpots (va_wsS RX8 102 yX8_isWhole wsX8_isWhole) := goodIn_app (goodIn_of _ (by decide +kernel)) ggX8_laySpots_X8_isWhole
set_option maxRecDepth 20000 in
theorem ggX8_findRow_X8_laySpots : GoodIn wsX8_findRow wsX8_laySpots := goodIn_r _ [10, 11, 12, 5, 4, 13, 14, 9, 15, 52, 53, 54, 55, 56, 57, 58, 59, 60, 61, 62, 63, 64, 65, 66, 67, 68, 69, 70, 71, 72, 73, 74, 75, 76, 77, 78, 79, 80, 81, 82, 83, 84] (by decide +kernel) (by decide +kernel)
set_option maxRecDepth 20000 in
theorem gX8_findRow_X8_laySpots : GoodIn wsX8_findRow (wsV RX8 187 RX8 yX8_laySpots wsX8_laySpots) := goodIn_app (goodIn_of _ (by decide +kernel)) ggX8_findRow_X8_laySpots
set_option maxRecDepth 20000 in
theorem ggX8_findRow_X8_begin : GoodIn wsX8_findRow wsX8_begin := goodIn_r _ [19, 20, 3, 12, 52, 53, 54, 55, 56, 57, 58, 59, 60, 61, 62, 63, 64, 65, 66, 67, 68, 69, 70, 71, 72, 73, 74, 75, 76, 77, 78, 79, 80, 81, 82, 83, 84] (by decide +kernel) (by decide +kernel)
set_option maxRecDepth 20000 in
theorem gX8_findRow_X8_begin : GoodIn wsX8_findRow (wsV RX8 170 RX8 yX8_begin wsX8_begin) := goodIn_app (goodIn_of _ (by decide +kernel)) ggX8_findRow_X8_begin
set_option maxRecDepth 20000 in
theorem ggX8_findRow_X8_pairsOf : GoodIn wsX8_findRow wsX8_pairsOf := goodIn_r _ [24, 11, 25, 26, 27, 9, 28, 20, 29, 30, 31, 32, 33, 13, 14, 15, 34, 35, 36, 37, 38, 39, 40, 41, 42, 43, 44, 45, 46, 47, 52, 53, 54, 55, 56, 57, 58, 59, 60, 61, 62, 63, 64, 65, 66, 67, 68, 69, 70, 71, 72, 73, 74, 75, 76, 77, 78, 79, 80, 81, 82, 83, 84] (by decide +kernel) (by decide +kernel)
set_option maxRecDepth 20000 in
theorem gX8_findRow_X8_pairsOf : GoodIn wsX8_findRow (wsV RX8 131 RX8 yX8_pairsOf wsX8_pairsOf) := goodIn_app (goodIn_of _ (by decide +kernel)) ggX8_findRow_X8_pairsOf
set_option maxRecDepth 20000 in
theorem ggX8_findRow_X8_nextOrder : GoodIn wsX8_findRow wsX8_nextOrder := goodIn_r _ [51, 5, 52, 53, 54, 55, 56, 57, 58, 59, 60, 61, 62, 63, 64, 65, 66, 67, 68, 69, 70, 71, 72, 73, 74, 75, 76, 77, 78, 79, 80, 81, 82, 83, 84] (by decide +kernel) (by decide +kernel)
set_option maxRecDepth 20000 in
theorem gX8_findRow_X8_nextOrder : GoodIn wsX8_findRow (wsV RX8 196 RX8 yX8_nextOrder wsX8_nextOrder) := goodIn_app (goodIn_of _ (by decide +kernel)) ggX8_findRow_X8_nextOrder
set_option maxRecDepth 20000 in
theorem ggX8_row_X8_findRow : GoodIn wsX8_row wsX8_findRow := goodIn_r _ [8, 3, 2, 9, 10, 11, 12, 13, 14, 7, 15, 16, 17, 18, 19, 20, 21, 22, 23, 24, 25, 26, 27, 28, 29, 30, 31, 32, 33, 34, 35, 36, 37, 38, 39, 40, 41, 42, 43, 44, 45, 46, 47, 48, 49, 50, 51, 52, 53, 54, 55, 56, 57, 58, 59, 60, 61, 62, 63, 64, 65, 66, 67, 68, 69, 70, 71, 72, 73, 74, 75, 76, 77, 78, 79, 80, 81, 82, 83, 84, 85, 86, 87, 88, 89] (by decide +kernel) (by decide +kernel)
set_option maxRecDepth 20000 in
theorem gX8_row_X8_findRow : GoodIn wsX8_row (wsV RX8 199 RX8 yX8_findRow wsX8_findRow) := goodIn_app (goodIn_of _ (by decide +kernel)) ggX8_row_X8_findRow
set_option maxRecDepth 20000 in
theorem ggX8_doesTo_X8_canSet : GoodIn wsX8_doesTo wsX8_canSet := goodIn_r _ [7, 8, 9, 6, 10, 11, 12, 13, 14, 2, 15, 16, 17, 18, 19, 20, 21, 22, 41, 42, 43, 44, 45, 46, 47, 48, 49, 50, 51, 52, 53, 54, 55, 56, 57, 58, 59, 60, 61, 62, 63, 64, 65, 66, 67, 68, 69, 70, 71, 72, 73] (by decide +kernel) (by decide +kernel)
set_option maxRecDepth 20000 in
theorem gX8_doesTo_X8_canSet : GoodIn wsX8_doesTo (wsV RX8 155 RX8 yX8_canSet wsX8_canSet) := goodIn_app (goodIn_of _ (by decide +kernel)) ggX8_doesTo_X8_canSet
set_option maxRecDepth 20000 in
theorem ggX8_doesTo_X8_canPour : GoodIn wsX8_doesTo wsX8_canPour := goodIn_r _ [25, 8, 9, 6, 10] (by decide +kernel) (by decide +kernel)
set_option maxRecDepth 20000 in
theorem gX8_doesTo_X8_canPour : GoodIn wsX8_doesTo (va_wsS RX8 161 yX8_canPour wsX8_canPour) := goodIn_app (goodIn_of _ (by decide +kernel)) ggX8_doesTo_X8_canPour
set_option maxRecDepth 20000 in
theorem ggX8_doesTo_X8_goPour : GoodIn wsX8_doesTo wsX8_goPour := goodIn_r _ [28] (by decide +kernel) (by decide +kernel)
set_option maxRecDepth 20000 in
theorem gX8_doesTo_X8_goPour : GoodIn wsX8_doesTo (va_wsS RX8 164 yX8_goPour wsX8_goPour) := goodIn_app (goodIn_of _ (by decide +kernel)) ggX8_doesTo_X8_goPour
set_option maxRecDepth 20000 in
theorem ggX8_doesTo_X8_sees : GoodIn wsX8_doesTo wsX8_sees := goodIn_r _ [32, 19, 33, 34, 20, 21, 6, 22, 8, 9, 10, 35, 36, 37, 11, 12, 13, 14, 2, 15, 16, 17, 18, 38, 39, 40, 41, 42, 43, 44, 45, 46, 47, 48, 49, 50, 51, 52, 53, 54, 55, 56, 57, 58, 59, 60, 61, 62, 63, 64, 65, 66, 67, 68, 69, 70, 71, 72, 73] (by decide +kernel) (by decide +kernel)
set_option maxRecDepth 20000 in
theorem gX8_doesTo_X8_sees : GoodIn wsX8_doesTo (wsV RX8 122 RX8 yX8_sees wsX8_sees) := goodIn_app (goodIn_of _ (by decide +kernel)) ggX8_doesTo_X8_sees
set_option maxRecDepth 20000 in
theorem ggX8_doesTo_X8_isWhole : GoodIn wsX8_doesTo wsX8_isWhole := goodIn_r _ [10] (by decide +kernel) (by decide +kernel)
set_option maxRecDepth 20000 in
theorem gX8_doesTo_X8_isWhole : GoodIn wsX8_doesTo (va_wsS RX8 102 yX8_isWhole wsX8_isWhole) := goodIn_app (goodIn_of _ (by decide +kernel)) ggX8_doesTo_X8_isWhole
set_option maxRecDepth 20000 in
theorem ggX8_does_X8_goWeek : GoodIn wsX8_does wsX8_goWeek := goodIn_r _ [6, 7, 8, 9, 10, 5, 11, 12, 13, 14, 61, 62, 63, 64, 65, 66, 67, 68, 69, 70, 71, 72, 73, 74, 75, 76, 77, 78, 79, 80, 81, 82, 83, 84, 85, 86, 87, 88, 89, 90, 91, 92, 93] (by decide +kernel) (by decide +kernel)
set_option maxRecDepth 20000 in
theorem gX8_does_X8_goWeek : GoodIn wsX8_does (wsV RX8 145 RX8 yX8_goWeek wsX8_goWeek) := goodIn_app (goodIn_of _ (by decide +kernel)) ggX8_does_X8_goWeek
set_option maxRecDepth 20000 in
theorem ggX8_does_X8_goShake : GoodIn wsX8_does wsX8_goShake := goodIn_r _ [18, 7, 19, 8, 9, 10, 5, 11, 61, 62, 63, 64, 65, 66, 67, 68, 69, 70, 71, 72, 73, 74, 75, 76, 77, 78, 79, 80, 81, 82, 83, 84, 85, 86, 87, 88, 89, 90, 91, 92, 93] (by decide +kernel) (by decide +kernel)
set_option maxRecDepth 20000 in
theorem gX8_does_X8_goShake : GoodIn wsX8_does (wsV RX8 152 RX8 yX8_goShake wsX8_goShake) := goodIn_app (goodIn_of _ (by decide +kernel)) ggX8_does_X8_goShake
set_option maxRecDepth 20000 in
theorem ggX8_does_X8_noJar : GoodIn wsX8_does wsX8_noJar := goodIn_r _ [23, 7, 24, 25, 5, 26, 61, 62, 63, 64, 65, 66, 67, 68, 69, 70, 71, 72, 73, 74, 75, 76, 77, 78, 79, 80, 81, 82, 83, 84, 85, 86, 87, 88, 89, 90, 91, 92, 93] (by decide +kernel) (by decide +kernel)
set_option maxRecDepth 20000 in
theorem gX8_does_X8_noJar : GoodIn wsX8_does (wsV RX8 138 RX8 yX8_noJar wsX8_noJar) := goodIn_app (goodIn_of _ (by decide +kernel)) ggX8_does_X8_noJar
set_option maxRecDepth 20000 in
theorem ggX8_does_X8_isWhole : GoodIn wsX8_does wsX8_isWhole := goodIn_r _ [11] (by decide +kernel) (by decide +kernel)
set_option maxRecDepth 20000 in
theorem gX8_does_X8_isWhole : GoodIn wsX8_does (va_wsS RX8 102 yX8_isWhole wsX8_isWhole) := goodIn_app (goodIn_of _ (by decide +kernel)) ggX8_does_X8_isWhole
set_option maxRecDepth 20000 in
theorem ggX8_does_X8_doesTo : GoodIn wsX8_does wsX8_doesTo := goodIn_r _ [30, 1, 7, 31, 32, 33, 5, 34, 9, 10, 11, 35, 36, 37, 38, 39, 40, 41, 42, 43, 44, 45, 46, 47, 48, 49, 50, 51, 52, 53, 54, 55, 56, 57, 8, 24, 25, 26, 58, 59, 60, 61, 62, 63, 64, 65, 66, 67, 68, 69, 70, 71, 72, 73, 74, 75, 76, 77, 78, 79, 80, 81, 82, 83, 84, 85, 86, 87, 88, 89, 90, 91, 92, 93] (by decide +kernel) (by decide +kernel)
set_option maxRecDepth 20000 in
theorem gX8_does_X8_doesTo : GoodIn wsX8_does (wsV RX8 202 RX8 yX8_doesTo wsX8_doesTo) := goodIn_app (goodIn_of _ (by decide +kernel)) ggX8_does_X8_doesTo
set_option maxRecDepth 20000 in
theorem ggX8_judge_X8_in : GoodIn wsX8_judge wsX8_in := goodIn_r _ [7] (by decide +kernel) (by decide +kernel)
set_option maxRecDepth 20000 in
theorem gX8_judge_X8_in : GoodIn wsX8_judge (va_wsS RX8 63 yX8_in wsX8_in) := goodIn_app (goodIn_of _ (by decide +kernel)) ggX8_judge_X8_in
set_option maxRecDepth 20000 in
theorem ggX8_judge_X8_longPower : GoodIn wsX8_judge wsX8_longPower := goodIn_r _ [10] (by decide +kernel) (by decide +kernel)
set_option maxRecDepth 20000 in
theorem gX8_judge_X8_longPower : GoodIn wsX8_judge (va_wsS RX8 210 yX8_longPower wsX8_longPower) := goodIn_app (goodIn_of _ (by decide +kernel)) ggX8_judge_X8_longPower
set_option maxRecDepth 20000 in
theorem ggX8_judge_X8_begin : GoodIn wsX8_judge wsX8_begin := goodIn_r _ [14, 15, 16, 17, 76, 77, 78, 79, 80, 81, 82, 83, 84, 85, 86, 87, 88, 89, 90, 91, 92, 93, 94, 95, 96, 97, 98, 99, 100, 101, 102, 103, 104, 105, 106, 107, 108] (by decide +kernel) (by decide +kernel)
set_option maxRecDepth 20000 in
theorem gX8_judge_X8_begin : GoodIn wsX8_judge (wsV RX8 170 RX8 yX8_begin wsX8_begin) := goodIn_app (goodIn_of _ (by decide +kernel)) ggX8_judge_X8_begin
set_option maxRecDepth 20000 in
theorem ggX8_judge_X8_does : GoodIn wsX8_judge wsX8_does := goodIn_r _ [21, 16, 22, 23, 24, 6, 25, 26, 27, 28, 29, 30, 31, 32, 33, 34, 35, 36, 37, 38, 39, 40, 41, 42, 4, 5, 7, 43, 44, 45, 46, 47, 48, 49, 50, 51, 52, 53, 54, 55, 56, 57, 58, 15, 59, 60, 61, 62, 63, 64, 65, 66, 67, 68, 69, 70, 71, 72, 73, 74, 75, 76, 77, 78, 79, 80, 81, 82, 83, 84, 85, 86, 87, 88, 89, 90, 91, 92, 93, 94, 95, 96, 97, 98, 99, 100, 101, 102, 103, 104, 105, 106, 107, 108] (by decide +kernel) (by decide +kernel)
set_option maxRecDepth 20000 in
theorem gX8_judge_X8_does : GoodIn wsX8_judge (wsV RX8 214 RX8 yX8_does wsX8_does) := goodIn_app (goodIn_of _ (by decide +kernel)) ggX8_judge_X8_does
set_option maxRecDepth 20000 in
theorem ggX8_fraction_X8_divisor : GoodIn wsX8_fraction wsX8_divisor := goodIn_r _ [4] (by decide +kernel) (by decide +kernel)
set_option maxRecDepth 20000 in
theorem gX8_fraction_X8_divisor : GoodIn wsX8_fraction (va_wsS RX8 217 yX8_divisor wsX8_divisor) := goodIn_app (goodIn_of _ (by decide +kernel)) ggX8_fraction_X8_divisor
set_option maxRecDepth 20000 in
theorem ggX8_seenBy_X8_sees : GoodIn wsX8_seenBy wsX8_sees := goodIn_r _ [8, 1, 9, 10, 11, 12, 7, 13, 14, 15, 16, 17, 18, 19, 20, 21, 22, 23, 2, 24, 25, 26, 27, 28, 29, 30, 34, 35, 36, 37, 38, 39, 40, 41, 42, 43, 44, 45, 46, 47, 48, 49, 50, 51, 52, 53, 54, 55, 56, 57, 58, 59, 60, 61, 62, 63, 64, 65, 66] (by decide +kernel) (by decide +kernel)
set_option maxRecDepth 20000 in
theorem gX8_seenBy_X8_sees : GoodIn wsX8_seenBy (wsV RX8 122 RX8 yX8_sees wsX8_sees) := goodIn_app (goodIn_of _ (by decide +kernel)) ggX8_seenBy_X8_sees
set_option maxRecDepth 20000 in
theorem ggX8_seenBy_X8_many : GoodIn wsX8_seenBy wsX8_many := goodIn_r _ [33] (by decide +kernel) (by decide +kernel)
set_option maxRecDepth 20000 in
theorem gX8_seenBy_X8_many : GoodIn wsX8_seenBy (va_wsS RX8 220 yX8_many wsX8_many) := goodIn_app (goodIn_of _ (by decide +kernel)) ggX8_seenBy_X8_many
set_option maxRecDepth 20000 in
theorem ggX8_share_X8_noJar : GoodIn wsX8_share wsX8_noJar := goodIn_r _ [8, 2, 9, 10, 7, 11, 53, 54, 55, 56, 57, 58, 59, 60, 61, 62, 63, 64, 65, 66, 67, 68, 69, 70, 71, 72, 73, 74, 75, 76, 77, 78, 79, 80, 81, 82, 83, 84, 85] (by decide +kernel) (by decide +kernel)
set_option maxRecDepth 20000 in
theorem gX8_share_X8_noJar : GoodIn wsX8_share (wsV RX8 138 RX8 yX8_noJar wsX8_noJar) := goodIn_app (goodIn_of _ (by decide +kernel)) ggX8_share_X8_noJar
set_option maxRecDepth 20000 in
theorem ggX8_share_X8_seenBy : GoodIn wsX8_share wsX8_seenBy := goodIn_r _ [15, 16, 2, 17, 18, 19, 20, 7, 21, 22, 23, 24, 25, 26, 27, 28, 29, 9, 10, 11, 30, 31, 32, 33, 34, 35, 36, 37, 38, 39, 40, 41, 42, 43, 53, 54, 55, 56, 57, 58, 59, 60, 61, 62, 63, 64, 65, 66, 67, 68, 69, 70, 71, 72, 73, 74, 75, 76, 77, 78, 79, 80, 81, 82, 83, 84, 85] (by decide +kernel) (by decide +kernel)
set_option maxRecDepth 20000 in
theorem gX8_share_X8_seenBy : GoodIn wsX8_share (wsV RX8 224 RX8 yX8_seenBy wsX8_seenBy) := goodIn_app (goodIn_of _ (by decide +kernel)) ggX8_share_X8_seenBy
set_option maxRecDepth 20000 in
theorem ggX8_share_X8_has : GoodIn wsX8_share wsX8_has := goodIn_r _ [26] (by decide +kernel) (by decide +kernel)
set_option maxRecDepth 20000 in
theorem gX8_share_X8_has : GoodIn wsX8_share (va_wsS RX8 83 yX8_has wsX8_has) := goodIn_app (goodIn_of _ (by decide +kernel)) ggX8_share_X8_has
set_option maxRecDepth 20000 in
theorem ggX8_share_X8_many : GoodIn wsX8_share wsX8_many := goodIn_r _ [43] (by decide +kernel) (by decide +kernel)
set_option maxRecDepth 20000 in
theorem gX8_share_X8_many : GoodIn wsX8_share (va_wsS RX8 220 yX8_many wsX8_many) := goodIn_app (goodIn_of _ (by decide +kernel)) ggX8_share_X8_many
set_option maxRecDepth 20000 in
theorem ggX8_share_X8_ways : GoodIn wsX8_share wsX8_ways := goodIn_r _ [46] (by decide +kernel) (by decide +kernel)
set_option maxRecDepth 20000 in
theorem gX8_share_X8_ways : GoodIn wsX8_share (va_wsS RX8 227 yX8_ways wsX8_ways) := goodIn_app (goodIn_of _ (by decide +kernel)) ggX8_share_X8_ways
set_option maxRecDepth 20000 in
theorem ggX8_share_X8_fraction : GoodIn wsX8_share wsX8_fraction := goodIn_r _ [49, 50, 51, 7, 52] (by decide +kernel) (by decide +kernel)
set_option maxRecDepth 20000 in
theorem gX8_share_X8_fraction : GoodIn wsX8_share (va_wsS RX8 230 yX8_fraction wsX8_fraction) := goodIn_app (goodIn_of _ (by decide +kernel)) ggX8_share_X8_fraction
set_option maxRecDepth 20000 in
theorem ggX8_taste_X8_in : GoodIn wsX8_taste wsX8_in := goodIn_r _ [9] (by decide +kernel) (by decide +kernel)
set_option maxRecDepth 20000 in
theorem gX8_taste_X8_in : GoodIn wsX8_taste (va_wsS RX8 63 yX8_in wsX8_in) := goodIn_app (goodIn_of _ (by decide +kernel)) ggX8_taste_X8_in
set_option maxRecDepth 20000 in
theorem ggX8_soakedFor_X8_soaked : GoodIn wsX8_soakedFor wsX8_soaked := goodIn_r _ [4] (by decide +kernel) (by decide +kernel)
set_option maxRecDepth 20000 in
theorem gX8_soakedFor_X8_soaked : GoodIn wsX8_soakedFor (va_wsS RX8 106 yX8_soaked wsX8_soaked) := goodIn_app (goodIn_of _ (by decide +kernel)) ggX8_soakedFor_X8_soaked
set_option maxRecDepth 20000 in
theorem ggX8_kept_X8_in : GoodIn wsX8_kept wsX8_in := goodIn_r _ [10] (by decide +kernel) (by decide +kernel)
set_option maxRecDepth 20000 in
theorem gX8_kept_X8_in : GoodIn wsX8_kept (va_wsS RX8 63 yX8_in wsX8_in) := goodIn_app (goodIn_of _ (by decide +kernel)) ggX8_kept_X8_in
set_option maxRecDepth 20000 in
theorem ggX8_kept_X8_soakedFor : GoodIn wsX8_kept wsX8_soakedFor := goodIn_r _ [13, 14, 15, 9, 16] (by decide +kernel) (by decide +kernel)
set_option maxRecDepth 20000 in
theorem gX8_kept_X8_soakedFor : GoodIn wsX8_kept (va_wsS RX8 240 yX8_soakedFor wsX8_soakedFor) := goodIn_app (goodIn_of _ (by decide +kernel)) ggX8_kept_X8_soakedFor
set_option maxRecDepth 20000 in
theorem ggX8_rests_X8_noJar : GoodIn wsX8_rests wsX8_noJar := goodIn_r _ [11, 12, 13, 14, 10, 15, 47, 48, 49, 50, 51, 52, 53, 54, 55, 56, 57, 58, 59, 60, 61, 62, 63, 64, 65, 66, 67, 68, 69, 70, 71, 72, 73, 74, 75, 76, 77, 78, 79] (by decide +kernel) (by decide +kernel)
set_option maxRecDepth 20000 in
theorem gX8_rests_X8_noJar : GoodIn wsX8_rests (wsV RX8 138 RX8 yX8_noJar wsX8_noJar) := goodIn_app (goodIn_of _ (by decide +kernel)) ggX8_rests_X8_noJar
set_option maxRecDepth 20000 in
theorem ggX8_rests_X8_in : GoodIn wsX8_rests wsX8_in := goodIn_r _ [15] (by decide +kernel) (by decide +kernel)
set_option maxRecDepth 20000 in
theorem gX8_rests_X8_in : GoodIn wsX8_rests (va_wsS RX8 63 yX8_in wsX8_in) := goodIn_app (goodIn_of _ (by decide +kernel)) ggX8_rests_X8_in
set_option maxRecDepth 20000 in
theorem ggX8_rests_X8_isWhole : GoodIn wsX8_rests wsX8_isWhole := goodIn_r _ [18] (by decide +kernel) (by decide +kernel)
set_option maxRecDepth 20000 in
theorem gX8_rests_X8_isWhole : GoodIn wsX8_rests (va_wsS RX8 102 yX8_isWhole wsX8_isWhole) := goodIn_app (goodIn_of _ (by decide +kernel)) ggX8_rests_X8_isWhole
set_option maxRecDepth 20000 in
theorem ggX8_rests_X8_begin : GoodIn wsX8_rests wsX8_begin := goodIn_r _ [22, 23, 3, 2, 47, 48, 49, 50, 51, 52, 53, 54, 55, 56, 57, 58, 59, 60, 61, 62, 63, 64, 65, 66, 67, 68, 69, 70, 71, 72, 73, 74, 75, 76, 77, 78, 79] (by decide +kernel) (by decide +kernel)
set_option maxRecDepth 20000 in
theorem gX8_rests_X8_begin : GoodIn wsX8_rests (wsV RX8 170 RX8 yX8_begin wsX8_begin) := goodIn_app (goodIn_of _ (by decide +kernel)) ggX8_rests_X8_begin
set_option maxRecDepth 20000 in
theorem ggX8_rests_X8_sees : GoodIn wsX8_rests wsX8_sees := goodIn_r _ [27, 23, 28, 29, 30, 31, 10, 32, 16, 17, 18, 13, 14, 15, 33, 34, 35, 36, 12, 37, 38, 39, 40, 41, 42, 43, 47, 48, 49, 50, 51, 52, 53, 54, 55, 56, 57, 58, 59, 60, 61, 62, 63, 64, 65, 66, 67, 68, 69, 70, 71, 72, 73, 74, 75, 76, 77, 78, 79] (by decide +kernel) (by decide +kernel)
set_option maxRecDepth 20000 in
theorem gX8_rests_X8_sees : GoodIn wsX8_rests (wsV RX8 122 RX8 yX8_sees wsX8_sees) := goodIn_app (goodIn_of _ (by decide +kernel)) ggX8_rests_X8_sees
set_option maxRecDepth 20000 in
theorem ggX8_rests_X8_gain : GoodIn wsX8_rests wsX8_gain := goodIn_r _ [46] (by decide +kernel) (by decide +kernel)
set_option maxRecDepth 20000 in
theorem gX8_rests_X8_gain : GoodIn wsX8_rests (va_wsS RX8 244 yX8_gain wsX8_gain) := goodIn_app (goodIn_of _ (by decide +kernel)) ggX8_rests_X8_gain
set_option maxRecDepth 20000 in
theorem ggX8_papers_X8_in : GoodIn wsX8_papers wsX8_in := goodIn_r _ [10] (by decide +kernel) (by decide +kernel)
set_option maxRecDepth 20000 in
theorem gX8_papers_X8_in : GoodIn wsX8_papers (va_wsS RX8 63 yX8_in wsX8_in) := goodIn_app (goodIn_of _ (by decide +kernel)) ggX8_papers_X8_in
set_option maxRecDepth 20000 in
theorem ggX8_papers_X8_thatAre : GoodIn wsX8_papers wsX8_thatAre := goodIn_r _ [14, 5, 59, 60, 61, 62, 63, 64, 65, 66, 67, 68, 69, 70, 71, 72, 73, 74, 75, 76, 77, 78, 79, 80, 81, 82, 83, 84, 85, 86, 87, 88, 89, 90, 91] (by decide +kernel) (by decide +kernel)
set_option maxRecDepth 20000 in
theorem gX8_papers_X8_thatAre : GoodIn wsX8_papers (wsV RX8 125 RX8 yX8_thatAre wsX8_thatAre) := goodIn_app (goodIn_of _ (by decide +kernel)) ggX8_papers_X8_thatAre
set_option maxRecDepth 20000 in
theorem ggX8_papers_X8_many : GoodIn wsX8_papers wsX8_many := goodIn_r _ [17] (by decide +kernel) (by decide +kernel)
set_option maxRecDepth 20000 in
theorem gX8_papers_X8_many : GoodIn wsX8_papers (va_wsS RX8 220 yX8_many wsX8_many) := goodIn_app (goodIn_of _ (by decide +kernel)) ggX8_papers_X8_many
set_option maxRecDepth 20000 in
theorem ggX8_papers_X8_begin : GoodIn wsX8_papers wsX8_begin := goodIn_r _ [21, 22, 6, 4, 59, 60, 61, 62, 63, 64, 65, 66, 67, 68, 69, 70, 71, 72, 73, 74, 75, 76, 77, 78, 79, 80, 81, 82, 83, 84, 85, 86, 87, 88, 89, 90, 91] (by decide +kernel) (by decide +kernel)
set_option maxRecDepth 20000 in
theorem gX8_papers_X8_begin : GoodIn wsX8_papers (wsV RX8 170 RX8 yX8_begin wsX8_begin) := goodIn_app (goodIn_of _ (by decide +kernel)) ggX8_papers_X8_begin
set_option maxRecDepth 20000 in
theorem ggX8_papers_X8_has : GoodIn wsX8_papers wsX8_has := goodIn_r _ [25] (by decide +kernel) (by decide +kernel)
set_option maxRecDepth 20000 in
theorem gX8_papers_X8_has : GoodIn wsX8_papers (va_wsS RX8 83 yX8_has wsX8_has) := goodIn_app (goodIn_of _ (by decide +kernel)) ggX8_papers_X8_has
set_option maxRecDepth 20000 in
theorem ggX8_papers_X8_pairsOf : GoodIn wsX8_papers wsX8_pairsOf := goodIn_r _ [29, 5, 30, 31, 32, 9, 33, 22, 34, 35, 23, 24, 25, 36, 37, 38, 7, 8, 10, 39, 40, 41, 42, 43, 44, 45, 46, 47, 48, 49, 59, 60, 61, 62, 63, 64, 65, 66, 67, 68, 69, 70, 71, 72, 73, 74, 75, 76, 77, 78, 79, 80, 81, 82, 83, 84, 85, 86, 87, 88, 89, 90, 91] (by decide +kernel) (by decide +kernel)
set_option maxRecDepth 20000 in
theorem gX8_papers_X8_pairsOf : GoodIn wsX8_papers (wsV RX8 131 RX8 yX8_pairsOf wsX8_pairsOf) := goodIn_app (goodIn_of _ (by decide +kernel)) ggX8_papers_X8_pairsOf
set_option maxRecDepth 20000 in
theorem ggX8_papers_X8_power : GoodIn wsX8_papers wsX8_power := goodIn_r _ [52] (by decide +kernel) (by decide +kernel)
set_option maxRecDepth 20000 in
theorem gX8_papers_X8_power : GoodIn wsX8_papers (va_wsS RX8 256 yX8_power wsX8_power) := goodIn_app (goodIn_of _ (by decide +kernel)) ggX8_papers_X8_power
set_option maxRecDepth 20000 in
theorem ggX8_papers_X8_fraction : GoodIn wsX8_papers wsX8_fraction := goodIn_r _ [55, 56, 57, 9, 58] (by decide +kernel) (by decide +kernel)
set_option maxRecDepth 20000 in
theorem gX8_papers_X8_fraction : GoodIn wsX8_papers (va_wsS RX8 230 yX8_fraction wsX8_fraction) := goodIn_app (goodIn_of _ (by decide +kernel)) ggX8_papers_X8_fraction
set_option maxRecDepth 20000 in
theorem ggX8_years_X8_in : GoodIn wsX8_years wsX8_in := goodIn_r _ [11] (by decide +kernel) (by decide +kernel)
set_option maxRecDepth 20000 in
theorem gX8_years_X8_in : GoodIn wsX8_years (va_wsS RX8 63 yX8_in wsX8_in) := goodIn_app (goodIn_of _ (by decide +kernel)) ggX8_years_X8_in
set_option maxRecDepth 20000 in
theorem ggX8_years_X8_begin : GoodIn wsX8_years wsX8_begin := goodIn_r _ [15, 16, 7, 17, 80, 81, 82, 83, 84, 85, 86, 87, 88, 89, 90, 91, 92, 93, 94, 95, 96, 97, 98, 99, 100, 101, 102, 103, 104, 105, 106, 107, 108, 109, 110, 111, 112] (by decide +kernel) (by decide +kernel)
set_option maxRecDepth 20000 in
theorem gX8_years_X8_begin : GoodIn wsX8_years (wsV RX8 170 RX8 yX8_begin wsX8_begin) := goodIn_app (goodIn_of _ (by decide +kernel)) ggX8_years_X8_begin
set_option maxRecDepth 20000 in
theorem ggX8_years_X8_does : GoodIn wsX8_years wsX8_does := goodIn_r _ [21, 7, 22, 23, 24, 10, 25, 26, 27, 28, 29, 30, 31, 32, 33, 34, 35, 36, 37, 38, 39, 40, 41, 42, 8, 9, 11, 43, 44, 45, 46, 47, 48, 49, 50, 51, 52, 53, 54, 55, 56, 57, 58, 16, 59, 60, 61, 62, 63, 64, 65, 66, 67, 68, 69, 70, 71, 72, 73, 74, 75, 80, 81, 82, 83, 84, 85, 86, 87, 88, 89, 90, 91, 92, 93, 94, 95, 96, 97, 98, 99, 100, 101, 102, 103, 104, 105, 106, 107, 108, 109, 110, 111, 112] (by decide +kernel) (by decide +kernel)
set_option maxRecDepth 20000 in
theorem gX8_years_X8_does : GoodIn wsX8_years (wsV RX8 214 RX8 yX8_does wsX8_does) := goodIn_app (goodIn_of _ (by decide +kernel)) ggX8_years_X8_does
set_option maxRecDepth 20000 in
theorem ggX8_years_X8_flavours : GoodIn wsX8_years wsX8_flavours := goodIn_r _ [79, 26, 28, 29, 10, 30, 80, 81, 82, 83, 84, 85, 86, 87, 88, 89, 90, 91, 92, 93, 94, 95, 96, 97, 98, 99, 100, 101, 102, 103, 104, 105, 106, 107, 108, 109, 110, 111, 112] (by decide +kernel) (by decide +kernel)
set_option maxRecDepth 20000 in
theorem gX8_years_X8_flavours : GoodIn wsX8_years (wsV RX8 149 RX8 yX8_flavours wsX8_flavours) := goodIn_app (goodIn_of _ (by decide +kernel)) ggX8_years_X8_flavours
set_option maxRecDepth 20000 in
theorem ggX8_keep_X8_in : GoodIn wsX8_keep wsX8_in := goodIn_r _ [8] (by decide +kernel) (by decide +kernel)
set_option maxRecDepth 20000 in
theorem gX8_keep_X8_in : GoodIn wsX8_keep (va_wsS RX8 63 yX8_in wsX8_in) := goodIn_app (goodIn_of _ (by decide +kernel)) ggX8_keep_X8_in
set_option maxRecDepth 20000 in
theorem ggX8_again_X8_in : GoodIn wsX8_again wsX8_in := goodIn_r _ [9] (by decide +kernel) (by decide +kernel)
set_option maxRecDepth 20000 in
theorem gX8_again_X8_in : GoodIn wsX8_again (va_wsS RX8 63 yX8_in wsX8_in) := goodIn_app (goodIn_of _ (by decide +kernel)) ggX8_again_X8_in
