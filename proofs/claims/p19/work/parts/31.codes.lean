set_option maxRecDepth 100000 in
theorem tbX0_has_ok : mv_tbB cX0_has RX0 mv_TT tbX0_has := mv_tbB_lim (by decide +kernel)
set_option maxRecDepth 100000 in
theorem tbX0_add_ok : mv_tbB cX0_add RX0 mv_TT tbX0_add := mv_tbB_lim (by decide +kernel)
set_option maxRecDepth 100000 in
theorem tbX0_freeRoom_ok : mv_tbB cX0_freeRoom RX0 mv_TT tbX0_freeRoom := mv_tbB_lim (by decide +kernel)
set_option maxRecDepth 100000 in
theorem tbX0_stowedOf_ok : mv_tbB cX0_stowedOf RX0 mv_TT tbX0_stowedOf := mv_tbB_lim (by decide +kernel)
set_option maxRecDepth 100000 in
theorem tbX0_stow_ok : mv_tbB cX0_stow RX0 mv_TT tbX0_stow := mv_tbB_lim (by decide +kernel)
set_option maxRecDepth 100000 in
theorem tbX0_turnBehind_ok : mv_tbB cX0_turnBehind RX0 mv_TT tbX0_turnBehind := mv_tbB_lim (by decide +kernel)
set_option maxRecDepth 100000 in
theorem tbX0_loadingDays_ok : mv_tbB cX0_loadingDays RX0 mv_TT tbX0_loadingDays := mv_tbB_lim (by decide +kernel)
set_option maxRecDepth 100000 in
theorem tbX0_costOf_ok : mv_tbB cX0_costOf RX0 mv_TT tbX0_costOf := mv_tbB_lim (by decide +kernel)
set_option maxRecDepth 100000 in
theorem tbX1_has_ok : mv_tbB cX1_has RX1 mv_TT tbX1_has := mv_tbB_lim (by decide +kernel)
set_option maxRecDepth 100000 in
theorem tbX1_add_ok : mv_tbB cX1_add RX1 mv_TT tbX1_add := mv_tbB_lim (by decide +kernel)
set_option maxRecDepth 100000 in
theorem tbX1_moveToPort_ok : mv_tbB cX1_moveToPort RX1 mv_TT tbX1_moveToPort := mv_tbB_lim (by decide +kernel)
set_option maxRecDepth 100000 in
theorem tbX1_moveToHolds_ok : mv_tbB cX1_moveToHolds RX1 mv_TT tbX1_moveToHolds := mv_tbB_lim (by decide +kernel)
set_option maxRecDepth 100000 in
theorem tbX1_sumOf_ok : mv_tbB cX1_sumOf RX1 mv_TT tbX1_sumOf := mv_tbB_lim (by decide +kernel)
set_option maxRecDepth 100000 in
theorem tbX4_takenOn_ok : mv_tbB cX4_takenOn RX4 mv_TT tbX4_takenOn := mv_tbB_lim (by decide +kernel)
set_option maxRecDepth 100000 in
theorem tbX4_countLoadableDays_ok : mv_tbB cX4_countLoadableDays RX4 mv_TT tbX4_countLoadableDays := mv_tbB_lim (by decide +kernel)
set_option maxRecDepth 100000 in
theorem tbX4_endFrom_ok : mv_tbB cX4_endFrom RX4 mv_TT tbX4_endFrom := mv_tbB_lim (by decide +kernel)
set_option maxRecDepth 100000 in
theorem tbX2_seek_ok : mv_tbB cX2_seek RX2 mv_TT tbX2_seek := mv_tbB_lim (by decide +kernel)
set_option maxRecDepth 100000 in
theorem tbJ6_bitCount_0f7a4_ok : mv_tbB cJ6_bitCount_0f7a4 RJ6 mv_TT tbJ6_bitCount_0f7a4 := mv_tbB_lim (by decide +kernel)
set_option maxRecDepth 100000 in
theorem tbJ7_fill_53178_ok : mv_tbB cJ7_fill_53178 RJ7 mv_TT tbJ7_fill_53178 := mv_tbB_lim (by decide +kernel)
set_option maxRecDepth 100000 in
theorem tbX2_keepCheapest_ok : mv_tbB cX2_keepCheapest RX2 mv_TT tbX2_keepCheapest := mv_tbB_lim (by decide +kernel)
set_option maxRecDepth 100000 in
theorem tbX2_layCheapest_ok : mv_tbB cX2_layCheapest RX2 mv_TT tbX2_layCheapest := mv_tbB_lim (by decide +kernel)
set_option maxRecDepth 100000 in
theorem tbX3_hasWorks_ok : mv_tbB cX3_hasWorks RX3 mv_TT tbX3_hasWorks := mv_tbB_lim (by decide +kernel)
set_option maxRecDepth 100000 in
theorem tbX3_addWorks_ok : mv_tbB cX3_addWorks RX3 mv_TT tbX3_addWorks := mv_tbB_lim (by decide +kernel)
set_option maxRecDepth 100000 in
theorem tbX3_addEntry_ok : mv_tbB cX3_addEntry RX3 mv_TT tbX3_addEntry := mv_tbB_lim (by decide +kernel)
set_option maxRecDepth 100000 in
theorem tbX3_takeParts_ok : mv_tbB cX3_takeParts RX3 mv_TT tbX3_takeParts := mv_tbB_lim (by decide +kernel)
set_option maxRecDepth 100000 in
theorem tbX3_partsAmong_ok : mv_tbB cX3_partsAmong RX3 mv_TT tbX3_partsAmong := mv_tbB_lim (by decide +kernel)
set_option maxRecDepth 100000 in
theorem tbX3_raiseGreatestRests_ok : mv_tbB cX3_raiseGreatestRests RX3 mv_TT tbX3_raiseGreatestRests := mv_tbB_lim (by decide +kernel)
set_option maxRecDepth 100000 in
theorem tbX3_partAmong_ok : mv_tbB cX3_partAmong RX3 mv_TT tbX3_partAmong := mv_tbB_lim (by decide +kernel)
set_option maxRecDepth 100000 in
theorem tbX3_isOpen_ok : mv_tbB cX3_isOpen RX3 mv_TT tbX3_isOpen := mv_tbB_lim (by decide +kernel)
set_option maxRecDepth 100000 in
theorem tbX3_lentTo_ok : mv_tbB cX3_lentTo RX3 mv_TT tbX3_lentTo := mv_tbB_lim (by decide +kernel)
set_option maxRecDepth 100000 in
theorem tbX3_quotaOf_ok : mv_tbB cX3_quotaOf RX3 mv_TT tbX3_quotaOf := mv_tbB_lim (by decide +kernel)
set_option maxRecDepth 100000 in
theorem tbX3_unshipped_ok : mv_tbB cX3_unshipped RX3 mv_TT tbX3_unshipped := mv_tbB_lim (by decide +kernel)
set_option maxRecDepth 100000 in
theorem tbX5_isNothing_ok : mv_tbB cX5_isNothing RX5 mv_TT tbX5_isNothing := mv_tbB_lim (by decide +kernel)
set_option maxRecDepth 100000 in
theorem tbX5_begin_ok : mv_tbB cX5_begin RX5 mv_TT tbX5_begin := mv_tbB_lim (by decide +kernel)
set_option maxRecDepth 100000 in
theorem tbX5_hasItems_ok : mv_tbB cX5_hasItems RX5 mv_TT tbX5_hasItems := mv_tbB_lim (by decide +kernel)
set_option maxRecDepth 100000 in
theorem tbX5_faultAs_ok : mv_tbB cX5_faultAs RX5 mv_TT tbX5_faultAs := mv_tbB_lim (by decide +kernel)
set_option maxRecDepth 100000 in
theorem tbX5_hasAbove_ok : mv_tbB cX5_hasAbove RX5 mv_TT tbX5_hasAbove := mv_tbB_lim (by decide +kernel)
set_option maxRecDepth 100000 in
theorem tbX5_put_ok : mv_tbB cX5_put RX5 mv_TT tbX5_put := mv_tbB_lim (by decide +kernel)
set_option maxRecDepth 100000 in
theorem tbX6_byteOf_ok : mv_tbB cX6_byteOf RX6 mv_TT tbX6_byteOf := mv_tbB_lim (by decide +kernel)
set_option maxRecDepth 100000 in
theorem tbX7_isWithin_ok : mv_tbB cX7_isWithin RX7 mv_TT tbX7_isWithin := mv_tbB_lim (by decide +kernel)
set_option maxRecDepth 100000 in
theorem tbX6_canHold_ok : mv_tbB cX6_canHold RX6 mv_TT tbX6_canHold := mv_tbB_lim (by decide +kernel)
set_option maxRecDepth 100000 in
theorem tbX6_append_ok : mv_tbB cX6_append RX6 mv_TT tbX6_append := mv_tbB_lim (by decide +kernel)
set_option maxRecDepth 100000 in
theorem tbX6_skipBlanks_ok : mv_tbB cX6_skipBlanks RX6 mv_TT tbX6_skipBlanks := mv_tbB_lim (by decide +kernel)
set_option maxRecDepth 100000 in
theorem tbX6_readNumber_ok : mv_tbB cX6_readNumber RX6 mv_TT tbX6_readNumber := mv_tbB_lim (by decide +kernel)
set_option maxRecDepth 100000 in
theorem tbX6_readSign_ok : mv_tbB cX6_readSign RX6 mv_TT tbX6_readSign := mv_tbB_lim (by decide +kernel)
set_option maxRecDepth 100000 in
theorem tbX6_readPair_ok : mv_tbB cX6_readPair RX6 mv_TT tbX6_readPair := mv_tbB_lim (by decide +kernel)
set_option maxRecDepth 100000 in
theorem tbX6_readPairs_ok : mv_tbB cX6_readPairs RX6 mv_TT tbX6_readPairs := mv_tbB_lim (by decide +kernel)
set_option maxRecDepth 100000 in
theorem tbX7_works_ok : mv_tbB cX7_works RX7 mv_TT tbX7_works := mv_tbB_lim (by decide +kernel)
set_option maxRecDepth 100000 in
theorem tbX7_weeks_ok : mv_tbB cX7_weeks RX7 mv_TT tbX7_weeks := mv_tbB_lim (by decide +kernel)
set_option maxRecDepth 100000 in
theorem tbX7_lot_ok : mv_tbB cX7_lot RX7 mv_TT tbX7_lot := mv_tbB_lim (by decide +kernel)
set_option maxRecDepth 100000 in
theorem tbX7_rail_ok : mv_tbB cX7_rail RX7 mv_TT tbX7_rail := mv_tbB_lim (by decide +kernel)
set_option maxRecDepth 100000 in
theorem tbX7_told_ok : mv_tbB cX7_told RX7 mv_TT tbX7_told := mv_tbB_lim (by decide +kernel)
set_option maxRecDepth 100000 in
theorem tbX7_total_ok : mv_tbB cX7_total RX7 mv_TT tbX7_total := mv_tbB_lim (by decide +kernel)
set_option maxRecDepth 100000 in
theorem tbX7_lend_ok : mv_tbB cX7_lend RX7 mv_TT tbX7_lend := mv_tbB_lim (by decide +kernel)
set_option maxRecDepth 100000 in
theorem tbX7_isWeek_ok : mv_tbB cX7_isWeek RX7 mv_TT tbX7_isWeek := mv_tbB_lim (by decide +kernel)
set_option maxRecDepth 100000 in
theorem tbX7_shut_ok : mv_tbB cX7_shut RX7 mv_TT tbX7_shut := mv_tbB_lim (by decide +kernel)
set_option maxRecDepth 100000 in
theorem tbX7_isAsked_ok : mv_tbB cX7_isAsked RX7 mv_TT tbX7_isAsked := mv_tbB_lim (by decide +kernel)
set_option maxRecDepth 100000 in
theorem tbX7_open_ok : mv_tbB cX7_open RX7 mv_TT tbX7_open := mv_tbB_lim (by decide +kernel)
set_option maxRecDepth 100000 in
theorem tbX7_quota_ok : mv_tbB cX7_quota RX7 mv_TT tbX7_quota := mv_tbB_lim (by decide +kernel)
set_option maxRecDepth 100000 in
theorem tbX7_left_ok : mv_tbB cX7_left RX7 mv_TT tbX7_left := mv_tbB_lim (by decide +kernel)
set_option maxRecDepth 100000 in
theorem tbX7_type_ok : mv_tbB cX7_type RX7 mv_TT tbX7_type := mv_tbB_lim (by decide +kernel)
set_option maxRecDepth 100000 in
theorem tbX7_parts_ok : mv_tbB cX7_parts RX7 mv_TT tbX7_parts := mv_tbB_lim (by decide +kernel)
set_option maxRecDepth 100000 in
theorem tbX7_isDay_ok : mv_tbB cX7_isDay RX7 mv_TT tbX7_isDay := mv_tbB_lim (by decide +kernel)
set_option maxRecDepth 100000 in
theorem tbX7_ship_ok : mv_tbB cX7_ship RX7 mv_TT tbX7_ship := mv_tbB_lim (by decide +kernel)
set_option maxRecDepth 100000 in
theorem tbX7_load_ok : mv_tbB cX7_load RX7 mv_TT tbX7_load := mv_tbB_lim (by decide +kernel)
set_option maxRecDepth 100000 in
theorem tbX7_held_ok : mv_tbB cX7_held RX7 mv_TT tbX7_held := mv_tbB_lim (by decide +kernel)
set_option maxRecDepth 100000 in
theorem tbX7_grade_ok : mv_tbB cX7_grade RX7 mv_TT tbX7_grade := mv_tbB_lim (by decide +kernel)
set_option maxRecDepth 100000 in
theorem tbX7_isSheet_ok : mv_tbB cX7_isSheet RX7 mv_TT tbX7_isSheet := mv_tbB_lim (by decide +kernel)
set_option maxRecDepth 100000 in
theorem tbX7_isLane_ok : mv_tbB cX7_isLane RX7 mv_TT tbX7_isLane := mv_tbB_lim (by decide +kernel)
set_option maxRecDepth 100000 in
theorem tbX7_surf_ok : mv_tbB cX7_surf RX7 mv_TT tbX7_surf := mv_tbB_lim (by decide +kernel)
set_option maxRecDepth 100000 in
theorem tbX7_sea_ok : mv_tbB cX7_sea RX7 mv_TT tbX7_sea := mv_tbB_lim (by decide +kernel)
set_option maxRecDepth 100000 in
theorem tbX7_bar_ok : mv_tbB cX7_bar RX7 mv_TT tbX7_bar := mv_tbB_lim (by decide +kernel)
set_option maxRecDepth 100000 in
theorem tbX7_lay_ok : mv_tbB cX7_lay RX7 mv_TT tbX7_lay := mv_tbB_lim (by decide +kernel)
set_option maxRecDepth 100000 in
theorem tbX7_laid_ok : mv_tbB cX7_laid RX7 mv_TT tbX7_laid := mv_tbB_lim (by decide +kernel)
set_option maxRecDepth 100000 in
theorem tbX7_count_ok : mv_tbB cX7_count RX7 mv_TT tbX7_count := mv_tbB_lim (by decide +kernel)
set_option maxRecDepth 100000 in
theorem tbX7_sheet_ok : mv_tbB cX7_sheet RX7 mv_TT tbX7_sheet := mv_tbB_lim (by decide +kernel)
set_option maxRecDepth 100000 in
theorem tbX7_drop_ok : mv_tbB cX7_drop RX7 mv_TT tbX7_drop := mv_tbB_lim (by decide +kernel)
set_option maxRecDepth 100000 in
theorem tbX7_item_ok : mv_tbB cX7_item RX7 mv_TT tbX7_item := mv_tbB_lim (by decide +kernel)
set_option maxRecDepth 100000 in
theorem tbX7_copy_ok : mv_tbB cX7_copy RX7 mv_TT tbX7_copy := mv_tbB_lim (by decide +kernel)
set_option maxRecDepth 100000 in
theorem tbX8_in_ok : mv_tbB cX8_in RX8 mv_TT tbX8_in := mv_tbB_lim (by decide +kernel)
set_option maxRecDepth 100000 in
theorem tbX8_isWorks_ok : mv_tbB cX8_isWorks RX8 mv_TT tbX8_isWorks := mv_tbB_lim (by decide +kernel)
set_option maxRecDepth 100000 in
theorem tbX8_isLot_ok : mv_tbB cX8_isLot RX8 mv_TT tbX8_isLot := mv_tbB_lim (by decide +kernel)
set_option maxRecDepth 100000 in
theorem tbX8_works_ok : mv_tbB cX8_works RX8 mv_TT tbX8_works := mv_tbB_lim (by decide +kernel)
set_option maxRecDepth 100000 in
theorem tbX8_weeks_ok : mv_tbB cX8_weeks RX8 mv_TT tbX8_weeks := mv_tbB_lim (by decide +kernel)
set_option maxRecDepth 100000 in
theorem tbX8_lot_ok : mv_tbB cX8_lot RX8 mv_TT tbX8_lot := mv_tbB_lim (by decide +kernel)
set_option maxRecDepth 100000 in
theorem tbX8_rail_ok : mv_tbB cX8_rail RX8 mv_TT tbX8_rail := mv_tbB_lim (by decide +kernel)
set_option maxRecDepth 100000 in
theorem tbX8_inHolds_ok : mv_tbB cX8_inHolds RX8 mv_TT tbX8_inHolds := mv_tbB_lim (by decide +kernel)
set_option maxRecDepth 100000 in
theorem tbX8_told_ok : mv_tbB cX8_told RX8 mv_TT tbX8_told := mv_tbB_lim (by decide +kernel)
set_option maxRecDepth 100000 in
theorem tbX8_total_ok : mv_tbB cX8_total RX8 mv_TT tbX8_total := mv_tbB_lim (by decide +kernel)
set_option maxRecDepth 100000 in
theorem tbX8_entry_ok : mv_tbB cX8_entry RX8 mv_TT tbX8_entry := mv_tbB_lim (by decide +kernel)
set_option maxRecDepth 100000 in
theorem tbX8_isOpen_ok : mv_tbB cX8_isOpen RX8 mv_TT tbX8_isOpen := mv_tbB_lim (by decide +kernel)
set_option maxRecDepth 100000 in
theorem tbX8_part_ok : mv_tbB cX8_part RX8 mv_TT tbX8_part := mv_tbB_lim (by decide +kernel)
set_option maxRecDepth 100000 in
theorem tbX8_quotas_ok : mv_tbB cX8_quotas RX8 mv_TT tbX8_quotas := mv_tbB_lim (by decide +kernel)
set_option maxRecDepth 100000 in
theorem tbX8_lend_ok : mv_tbB cX8_lend RX8 mv_TT tbX8_lend := mv_tbB_lim (by decide +kernel)
set_option maxRecDepth 100000 in
theorem tbX8_shut_ok : mv_tbB cX8_shut RX8 mv_TT tbX8_shut := mv_tbB_lim (by decide +kernel)
set_option maxRecDepth 100000 in
theorem tbX8_isAsOf_ok : mv_tbB cX8_isAsOf RX8 mv_TT tbX8_isAsOf := mv_tbB_lim (by decide +kernel)
set_option maxRecDepth 100000 in
theorem tbX8_open_ok : mv_tbB cX8_open RX8 mv_TT tbX8_open := mv_tbB_lim (by decide +kernel)
set_option maxRecDepth 100000 in
theorem tbX8_quota_ok : mv_tbB cX8_quota RX8 mv_TT tbX8_quota := mv_tbB_lim (by decide +kernel)
set_option maxRecDepth 100000 in
theorem tbX8_leftOf_ok : mv_tbB cX8_leftOf RX8 mv_TT tbX8_leftOf := mv_tbB_lim (by decide +kernel)
set_option maxRecDepth 100000 in
theorem tbX8_left_ok : mv_tbB cX8_left RX8 mv_TT tbX8_left := mv_tbB_lim (by decide +kernel)
set_option maxRecDepth 100000 in
theorem tbX8_type_ok : mv_tbB cX8_type RX8 mv_TT tbX8_type := mv_tbB_lim (by decide +kernel)
set_option maxRecDepth 100000 in
theorem tbX8_next_ok : mv_tbB cX8_next RX8 mv_TT tbX8_next := mv_tbB_lim (by decide +kernel)
set_option maxRecDepth 100000 in
theorem tbX8_number_ok : mv_tbB cX8_number RX8 mv_TT tbX8_number := mv_tbB_lim (by decide +kernel)
set_option maxRecDepth 100000 in
theorem tbX8_reads_ok : mv_tbB cX8_reads RX8 mv_TT tbX8_reads := mv_tbB_lim (by decide +kernel)
set_option maxRecDepth 100000 in
theorem tbX8_parts_ok : mv_tbB cX8_parts RX8 mv_TT tbX8_parts := mv_tbB_lim (by decide +kernel)
set_option maxRecDepth 100000 in
theorem tbX8_isShip_ok : mv_tbB cX8_isShip RX8 mv_TT tbX8_isShip := mv_tbB_lim (by decide +kernel)
set_option maxRecDepth 100000 in
theorem tbX8_ship_ok : mv_tbB cX8_ship RX8 mv_TT tbX8_ship := mv_tbB_lim (by decide +kernel)
set_option maxRecDepth 100000 in
theorem tbX8_inHold_ok : mv_tbB cX8_inHold RX8 mv_TT tbX8_inHold := mv_tbB_lim (by decide +kernel)
set_option maxRecDepth 100000 in
theorem tbX8_load_ok : mv_tbB cX8_load RX8 mv_TT tbX8_load := mv_tbB_lim (by decide +kernel)
set_option maxRecDepth 100000 in
theorem tbX8_held_ok : mv_tbB cX8_held RX8 mv_TT tbX8_held := mv_tbB_lim (by decide +kernel)
set_option maxRecDepth 100000 in
theorem tbX8_grade_ok : mv_tbB cX8_grade RX8 mv_TT tbX8_grade := mv_tbB_lim (by decide +kernel)
set_option maxRecDepth 100000 in
theorem tbX8_taken_ok : mv_tbB cX8_taken RX8 mv_TT tbX8_taken := mv_tbB_lim (by decide +kernel)
set_option maxRecDepth 100000 in
theorem tbX8_sea_ok : mv_tbB cX8_sea RX8 mv_TT tbX8_sea := mv_tbB_lim (by decide +kernel)
set_option maxRecDepth 100000 in
theorem tbX8_bar_ok : mv_tbB cX8_bar RX8 mv_TT tbX8_bar := mv_tbB_lim (by decide +kernel)
set_option maxRecDepth 100000 in
theorem tbX8_lets_ok : mv_tbB cX8_lets RX8 mv_TT tbX8_lets := mv_tbB_lim (by decide +kernel)
set_option maxRecDepth 100000 in
theorem tbX8_endOf_ok : mv_tbB cX8_endOf RX8 mv_TT tbX8_endOf := mv_tbB_lim (by decide +kernel)
set_option maxRecDepth 100000 in
theorem tbX8_costOf_ok : mv_tbB cX8_costOf RX8 mv_TT tbX8_costOf := mv_tbB_lim (by decide +kernel)
set_option maxRecDepth 100000 in
theorem tbX8_keep_ok : mv_tbB cX8_keep RX8 mv_TT tbX8_keep := mv_tbB_lim (by decide +kernel)
set_option maxRecDepth 100000 in
theorem tbX8_swap_ok : mv_tbB cX8_swap RX8 mv_TT tbX8_swap := mv_tbB_lim (by decide +kernel)
set_option maxRecDepth 100000 in
theorem tbX8_countsUp_ok : mv_tbB cX8_countsUp RX8 mv_TT tbX8_countsUp := mv_tbB_lim (by decide +kernel)
set_option maxRecDepth 100000 in
theorem tbX8_lay_ok : mv_tbB cX8_lay RX8 mv_TT tbX8_lay := mv_tbB_lim (by decide +kernel)
set_option maxRecDepth 100000 in
theorem tbX8_laid_ok : mv_tbB cX8_laid RX8 mv_TT tbX8_laid := mv_tbB_lim (by decide +kernel)
set_option maxRecDepth 100000 in
theorem tbX8_count_ok : mv_tbB cX8_count RX8 mv_TT tbX8_count := mv_tbB_lim (by decide +kernel)
set_option maxRecDepth 100000 in
theorem tbX8_isSheet_ok : mv_tbB cX8_isSheet RX8 mv_TT tbX8_isSheet := mv_tbB_lim (by decide +kernel)
set_option maxRecDepth 100000 in
theorem tbX8_sheet_ok : mv_tbB cX8_sheet RX8 mv_TT tbX8_sheet := mv_tbB_lim (by decide +kernel)
set_option maxRecDepth 100000 in
theorem tbX8_drop_ok : mv_tbB cX8_drop RX8 mv_TT tbX8_drop := mv_tbB_lim (by decide +kernel)
set_option maxRecDepth 100000 in
theorem tbX8_item_ok : mv_tbB cX8_item RX8 mv_TT tbX8_item := mv_tbB_lim (by decide +kernel)
set_option maxRecDepth 100000 in
theorem tbX8_isWithin_ok : mv_tbB cX8_isWithin RX8 mv_TT tbX8_isWithin := mv_tbB_lim (by decide +kernel)
set_option maxRecDepth 100000 in
theorem tbX8_copy_ok : mv_tbB cX8_copy RX8 mv_TT tbX8_copy := mv_tbB_lim (by decide +kernel)
set_option maxRecDepth 100000 in
theorem tbX8_surf_ok : mv_tbB cX8_surf RX8 mv_TT tbX8_surf := mv_tbB_lim (by decide +kernel)
