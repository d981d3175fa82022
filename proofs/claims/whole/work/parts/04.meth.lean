/-! ===== the table of the methods ===== -/
def am_on : List String := [RX0, RX1, RX2, RX3, RX4, RX5, RX6, RX7, RX8, RX9, RX10, RX11, RX12, RL, RJ6]
/-- a method: its name, its bytes, its locals, what it returns, its class, whether it is static -/
abbrev am_MI : Type := MethodName × ByteArray × Nat × Option FieldType × Nat × Bool
def am_mi_0 : List am_MI := [(yX11_init, cX11_init, 1, none, 11, false), (yX11_feed, cX11_feed, 7, (some .int), 11, false), (yX11_mark, cX11_mark, 4, (some .int), 11, false), (yX11_withinText, cX11_withinText, 2, (some .int), 11, true), (yX11_fault, cX11_fault, 1, (some .int), 11, false), (yX11_count, cX11_count, 2, (some .int), 11, false), (yX11_part, cX11_part, 6, (some .int), 11, false), (yX11_write, cX11_write, 2, (some .int), 11, false), (yX11_out, cX11_out, 2, (some .int), 11, false), (yX11_way, cX11_way, 2, (some .boolean), 11, false), (yX11_sorts, cX11_sorts, 3, (some .int), 11, false), (yX11_shelf, cX11_shelf, 3, (some .int), 11, false), (yX11_book, cX11_book, 6, (some .int), 11, false), (yX11_stand, cX11_stand, 5, (some .boolean), 11, false), (yX11_dummy, cX11_dummy, 5, (some .boolean), 11, false), (yX11_off, cX11_off, 3, (some .boolean), 11, false), (yX11_tell, cX11_tell, 4, (some .int), 11, false), (yX11_place, cX11_place, 3, (some .int), 11, false), (yX11_room, cX11_room, 3, (some .int), 11, false), (yX11_run, cX11_run, 5, (some .boolean), 11, false), (yX11_seen, cX11_seen, 2, (some .int), 11, false), (yX11_read, cX11_read, 2, (some .int), 11, false), (yX11_order, cX11_order, 3, (some .int), 11, false), (yX11_fewest, cX11_fewest, 1, (some .int), 11, false), (yX11_move, cX11_move, 3, (some .int), 11, false)]
def am_cd_0 : List (List am_I) := [cd_Cart_init, cd_Cart_feed, cd_Cart_mark, cd_Cart_withinText, cd_Cart_fault, cd_Cart_count, cd_Cart_part, cd_Cart_write, cd_Cart_out, cd_Cart_way, cd_Cart_sorts, cd_Cart_shelf, cd_Cart_book, cd_Cart_stand, cd_Cart_dummy, cd_Cart_off, cd_Cart_tell, cd_Cart_place, cd_Cart_room, cd_Cart_run, cd_Cart_seen, cd_Cart_read, cd_Cart_order, cd_Cart_fewest, cd_Cart_move]
def am_mi_1 : List am_MI := [(yX11_where, cX11_where, 4, (some .int), 11, false), (yX11_isInOrder, cX11_isInOrder, 3, (some .boolean), 11, false), (yX11_between, cX11_between, 4, (some .int), 11, false), (yX11_done, cX11_done, 2, (some .int), 11, false), (yX11_list, cX11_list, 3, (some .boolean), 11, false), (yX11_forget, cX11_forget, 2, (some .boolean), 11, false), (yX11_listed, cX11_listed, 2, (some .int), 11, false), (yX11_found, cX11_found, 6, (some .int), 11, false), (yX11_check, cX11_check, 6, (some .int), 11, false), (yX11_grow, cX11_grow, 4, (some .int), 11, false), (yX11_full, cX11_full, 4, (some .int), 11, false), (yX11_firstFullYear, cX11_firstFullYear, 4, (some .int), 11, false), (yX11_shift, cX11_shift, 5, (some .int), 11, false), (yX11_isFloor, cX11_isFloor, 4, (some .boolean), 11, false), (yX11_plan, cX11_plan, 2, (some .int), 11, false), (yX11_lift, cX11_lift, 1, (some .boolean), 11, false), (yX11_image, cX11_image, 2, (some .boolean), 11, false), (yX11_again, cX11_again, 2, (some .boolean), 11, false), (yX12_init, cX12_init, 3, none, 12, false), (yX12_isIn, cX12_isIn, 2, (some .boolean), 12, true), (yX12_isMark, cX12_isMark, 2, (some .boolean), 12, false), (yX12_isShelf, cX12_isShelf, 2, (some .boolean), 12, false), (yX12_isBook, cX12_isBook, 2, (some .boolean), 12, false), (yX12_feed, cX12_feed, 8, (some .int), 12, false), (yX12_here, cX12_here, 1, (some .int), 12, false)]
def am_cd_1 : List (List am_I) := [cd_Cart_where, cd_Cart_isInOrder, cd_Cart_between, cd_Cart_done, cd_Cart_list, cd_Cart_forget, cd_Cart_listed, cd_Cart_found, cd_Cart_check, cd_Cart_grow, cd_Cart_full, cd_Cart_firstFullYear, cd_Cart_shift, cd_Cart_isFloor, cd_Cart_plan, cd_Cart_lift, cd_Cart_image, cd_Cart_again, cd_Model_init, cd_Model_isIn, cd_Model_isMark, cd_Model_isShelf, cd_Model_isBook, cd_Model_feed, cd_Model_here]
def am_mi_2 : List am_MI := [(yX12_isDigit, cX12_isDigit, 1, (some .boolean), 12, false), (yX12_isLetter, cX12_isLetter, 1, (some .boolean), 12, false), (yX12_begins, cX12_begins, 2, none, 12, false), (yX12_number, cX12_number, 4, (some .int), 12, false), (yX12_isValue, cX12_isValue, 1, none, 12, false), (yX12_fraction, cX12_fraction, 2, (some .boolean), 12, false), (yX12_letters, cX12_letters, 2, (some .boolean), 12, false), (yX12_whole, cX12_whole, 2, (some .boolean), 12, false), (yX12_year, cX12_year, 2, (some .boolean), 12, false), (yX12_counted, cX12_counted, 3, (some .boolean), 12, false), (yX12_pointed, cX12_pointed, 3, (some .boolean), 12, false), (yX12_nextPart, cX12_nextPart, 4, (some .boolean), 12, false), (yX12_isText, cX12_isText, 5, (some .boolean), 12, false), (yX12_isMade, cX12_isMade, 6, (some .boolean), 12, false), (yX12_mark, cX12_mark, 6, (some .int), 12, false), (yX12_fault, cX12_fault, 1, (some .int), 12, false), (yX12_count, cX12_count, 4, (some .int), 12, false), (yX12_partsOf, cX12_partsOf, 2, (some .int), 12, false), (yX12_partOf, cX12_partOf, 4, (some .int), 12, false), (yX12_part, cX12_part, 4, (some .int), 12, false), (yX12_ink, cX12_ink, 2, none, 12, false), (yX12_inkNumber, cX12_inkNumber, 5, none, 12, false), (yX12_inkLetters, cX12_inkLetters, 2, none, 12, false), (yX12_inkPart, cX12_inkPart, 4, none, 12, false), (yX12_write, cX12_write, 6, (some .int), 12, false)]
def am_cd_2 : List (List am_I) := [cd_Model_isDigit, cd_Model_isLetter, cd_Model_begins, cd_Model_number, cd_Model_isValue, cd_Model_fraction, cd_Model_letters, cd_Model_whole, cd_Model_year, cd_Model_counted, cd_Model_pointed, cd_Model_nextPart, cd_Model_isText, cd_Model_isMade, cd_Model_mark, cd_Model_fault, cd_Model_count, cd_Model_partsOf, cd_Model_partOf, cd_Model_part, cd_Model_ink, cd_Model_inkNumber, cd_Model_inkLetters, cd_Model_inkPart, cd_Model_write]
def am_mi_3 : List am_MI := [(yX12_out, cX12_out, 2, (some .int), 12, false), (yX12_way, cX12_way, 2, (some .boolean), 12, false), (yX12_sign, cX12_sign, 1, (some .int), 12, true), (yX12_filled, cX12_filled, 6, (some .int), 12, true), (yX12_lettersIn, cX12_lettersIn, 1, (some .int), 12, true), (yX12_held, cX12_held, 10, (some .int), 12, false), (yX12_compare, cX12_compare, 8, (some .int), 12, false), (yX12_compared, cX12_compared, 3, (some .int), 12, false), (yX12_sorts, cX12_sorts, 3, (some .int), 12, false), (yX12_shelf, cX12_shelf, 5, (some .int), 12, false), (yX12_volumeOf, cX12_volumeOf, 4, (some .int), 12, false), (yX12_book, cX12_book, 7, (some .int), 12, false), (yX12_of, cX12_of, 3, (some .int), 12, false), (yX12_placeOf, cX12_placeOf, 3, (some .int), 12, false), (yX12_leaves, cX12_leaves, 4, none, 12, false), (yX12_comes, cX12_comes, 5, none, 12, false), (yX12_isHigh, cX12_isHigh, 2, (some .boolean), 12, false), (yX12_stand, cX12_stand, 4, (some .boolean), 12, false), (yX12_dummy, cX12_dummy, 4, (some .boolean), 12, false), (yX12_off, cX12_off, 2, (some .boolean), 12, false), (yX12_tell, cX12_tell, 3, (some .int), 12, false), (yX12_place, cX12_place, 3, (some .int), 12, false), (yX12_wide, cX12_wide, 2, (some .int), 12, false), (yX12_markOf, cX12_markOf, 2, (some .int), 12, false), (yX12_plainRoom, cX12_plainRoom, 5, (some .int), 12, false)]
def am_cd_3 : List (List am_I) := [cd_Model_out, cd_Model_way, cd_Model_sign, cd_Model_filled, cd_Model_lettersIn, cd_Model_held, cd_Model_compare, cd_Model_compared, cd_Model_sorts, cd_Model_shelf, cd_Model_volumeOf, cd_Model_book, cd_Model_of, cd_Model_placeOf, cd_Model_leaves, cd_Model_comes, cd_Model_isHigh, cd_Model_stand, cd_Model_dummy, cd_Model_off, cd_Model_tell, cd_Model_place, cd_Model_wide, cd_Model_markOf, cd_Model_plainRoom]
def am_mi_4 : List am_MI := [(yX12_growing, cX12_growing, 7, (some .int), 12, false), (yX12_roomIn, cX12_roomIn, 7, (some .int), 12, false), (yX12_room, cX12_room, 3, (some .int), 12, false), (yX12_run, cX12_run, 6, (some .boolean), 12, false), (yX12_seenAt, cX12_seenAt, 2, (some .int), 12, false), (yX12_many, cX12_many, 1, (some .int), 12, false), (yX12_seen, cX12_seen, 2, (some .int), 12, false), (yX12_read, cX12_read, 2, (some .int), 12, false), (yX12_rights, cX12_rights, 6, (some .int), 12, false), (yX12_order, cX12_order, 7, (some .int), 12, false), (yX12_fewest, cX12_fewest, 1, (some .int), 12, false), (yX12_move, cX12_move, 6, (some .int), 12, false), (yX12_where, cX12_where, 4, (some .int), 12, false), (yX12_between, cX12_between, 5, (some .int), 12, false), (yX12_often, cX12_often, 6, (some .int), 12, false), (yX12_done, cX12_done, 5, (some .int), 12, false), (yX12_list, cX12_list, 3, (some .boolean), 12, false), (yX12_forget, cX12_forget, 2, (some .boolean), 12, false), (yX12_listed, cX12_listed, 2, (some .int), 12, false), (yX12_found, cX12_found, 9, (some .int), 12, false), (yX12_check, cX12_check, 5, (some .int), 12, false), (yX12_grow, cX12_grow, 5, (some .int), 12, false), (yX12_full, cX12_full, 3, (some .int), 12, false), (yX12_isOneWork, cX12_isOneWork, 8, (some .boolean), 12, false), (yX12_gathers, cX12_gathers, 6, none, 12, false)]
def am_cd_4 : List (List am_I) := [cd_Model_growing, cd_Model_roomIn, cd_Model_room, cd_Model_run, cd_Model_seenAt, cd_Model_many, cd_Model_seen, cd_Model_read, cd_Model_rights, cd_Model_order, cd_Model_fewest, cd_Model_move, cd_Model_where, cd_Model_between, cd_Model_often, cd_Model_done, cd_Model_list, cd_Model_forget, cd_Model_listed, cd_Model_found, cd_Model_check, cd_Model_grow, cd_Model_full, cd_Model_isOneWork, cd_Model_gathers]
def am_mi_5 : List am_MI := [(yX12_partings, cX12_partings, 6, none, 12, false), (yX12_tries, cX12_tries, 14, none, 12, false), (yX12_shift, cX12_shift, 9, (some .int), 12, false), (yX12_plan, cX12_plan, 2, (some .int), 12, false), (yX12_lift, cX12_lift, 4, (some .boolean), 12, false), (yX12_image, cX12_image, 3, (some .boolean), 12, false), (yX12_again, cX12_again, 3, (some .boolean), 12, false), (yX0_init, cX0_init, 2, none, 0, false), (yX0_add, cX0_add, 2, none, 0, false), (yX0_addNumber, cX0_addNumber, 2, none, 0, false), (yX0_addDigits, cX0_addDigits, 4, none, 0, false), (yX0_byteAt, cX0_byteAt, 2, (some .int), 0, false), (yX1_init, cX1_init, 2, none, 1, false), (yX1_isMark, cX1_isMark, 1, (some .boolean), 1, true), (yX1_shelfOf, cX1_shelfOf, 2, (some .int), 1, false), (yX1_enter, cX1_enter, 3, none, 1, false), (yX1_strike, cX1_strike, 2, (some .boolean), 1, false), (yX1_isRead, cX1_isRead, 2, (some .boolean), 1, false), (yX1_timesRead, cX1_timesRead, 5, (some .int), 1, false), (yX1_isGone, cX1_isGone, 3, (some .boolean), 1, false), (yX1_countGone, cX1_countGone, 4, (some .int), 1, false), (yX1_keepReading, cX1_keepReading, 4, none, 1, false), (yX1_traceMark, cX1_traceMark, 3, none, 1, false), (yX1_isSuch, cX1_isSuch, 4, (some .boolean), 1, false), (yX1_become, cX1_become, 2, none, 1, false)]
def am_cd_5 : List (List am_I) := [cd_Model_partings, cd_Model_tries, cd_Model_shift, cd_Model_plan, cd_Model_lift, cd_Model_image, cd_Model_again, cd_ByteRow_init, cd_ByteRow_add, cd_ByteRow_addNumber, cd_ByteRow_addDigits, cd_ByteRow_byteAt, cd_Catalogue_init, cd_Catalogue_isMark, cd_Catalogue_shelfOf, cd_Catalogue_enter, cd_Catalogue_strike, cd_Catalogue_isRead, cd_Catalogue_timesRead, cd_Catalogue_isGone, cd_Catalogue_countGone, cd_Catalogue_keepReading, cd_Catalogue_traceMark, cd_Catalogue_isSuch, cd_Catalogue_become]
def am_mi_6 : List am_MI := [(yX2_init, cX2_init, 1, none, 2, false), (yX2_make, cX2_make, 4, (some .int), 2, false), (yX2_countBooks, cX2_countBooks, 6, none, 2, false), (yX2_isOf, cX2_isOf, 4, (some .boolean), 2, false), (yX2_lossOf, cX2_lossOf, 7, (some .int), 2, false), (yX2_become, cX2_become, 2, none, 2, false), (yX3_init, cX3_init, 1, none, 3, false), (yX3_has, cX3_has, 2, (some .boolean), 3, false), (yX3_lengthOf, cX3_lengthOf, 2, (some .int), 3, false), (yX3_partOf, cX3_partOf, 3, (some .long), 3, false), (yX3_numberOf, cX3_numberOf, 4, (some .int), 3, false), (yX3_beginsWith, cX3_beginsWith, 5, (some .boolean), 3, false), (yX3_make, cX3_make, 4, (some .int), 3, false), (yX3_compare, cX3_compare, 7, (some .int), 3, false), (yX3_volumeOf, cX3_volumeOf, 3, (some .int), 3, false), (yX3_areOfOneWork, cX3_areOfOneWork, 5, (some .boolean), 3, false), (yX3_lengthOfWork, cX3_lengthOfWork, 3, (some .int), 3, false), (yX3_spell, cX3_spell, 7, none, 3, false), (yX3_become, cX3_become, 2, none, 3, false), (yX4_of, cX4_of, 4, (some .long), 4, true), (yX4_kindOf, cX4_kindOf, 2, (some .int), 4, true), (yX4_valueOf, cX4_valueOf, 2, (some .int), 4, true), (yX4_digitsOf, cX4_digitsOf, 2, (some .int), 4, true), (yX4_placesOf, cX4_placesOf, 2, (some .int), 4, true), (yX4_compare, cX4_compare, 5, (some .int), 4, true)]
def am_cd_6 : List (List am_I) := [cd_Growths_init, cd_Growths_make, cd_Growths_countBooks, cd_Growths_isOf, cd_Growths_lossOf, cd_Growths_become, cd_Marks_init, cd_Marks_has, cd_Marks_lengthOf, cd_Marks_partOf, cd_Marks_numberOf, cd_Marks_beginsWith, cd_Marks_make, cd_Marks_compare, cd_Marks_volumeOf, cd_Marks_areOfOneWork, cd_Marks_lengthOfWork, cd_Marks_spell, cd_Marks_become, cd_Part_of, cd_Part_kindOf, cd_Part_valueOf, cd_Part_digitsOf, cd_Part_placesOf, cd_Part_compare]
def am_mi_7 : List am_MI := [(yX4_wordKey, cX4_wordKey, 1, (some .int), 4, true), (yX4_digitKey, cX4_digitKey, 3, (some .int), 4, true), (yX4_spell, cX4_spell, 4, none, 4, true), (yX4_spellLetters, cX4_spellLetters, 2, none, 4, true), (yX4_spellDigits, cX4_spellDigits, 5, none, 4, true), (yX4_spellNumber, cX4_spellNumber, 3, none, 4, true), (yX4_lengthOfNumber, cX4_lengthOfNumber, 2, (some .int), 4, true), (yX5_init, cX5_init, 1, none, 5, false), (yX5_isThere, cX5_isThere, 1, (some .boolean), 5, false), (yX5_begin, cX5_begin, 2, none, 5, false), (yX5_end, cX5_end, 1, none, 5, false), (yX5_add, cX5_add, 2, (some .boolean), 5, false), (yX5_markAt, cX5_markAt, 2, (some .int), 5, false), (yX5_shiftOne, cX5_shiftOne, 4, none, 5, false), (yX5_become, cX5_become, 2, none, 5, false), (yX6_init, cX6_init, 1, none, 6, false), (yX6_study, cX6_study, 3, none, 6, false), (yX6_longestFrom, cX6_longestFrom, 5, (some .int), 6, false), (yX6_follows, cX6_follows, 3, (some .boolean), 6, true), (yX6_chooseRights, cX6_chooseRights, 5, none, 6, false), (yX6_placeOf, cX6_placeOf, 5, (some .int), 6, false), (yX6_newPlaceOf, cX6_newPlaceOf, 5, (some .int), 6, false), (yX7_init, cX7_init, 1, none, 7, false), (yX7_makePlan, cX7_makePlan, 10, (some .int), 7, false), (yX7_gather, cX7_gather, 7, none, 7, false)]
def am_cd_7 : List (List am_I) := [cd_Part_wordKey, cd_Part_digitKey, cd_Part_spell, cd_Part_spellLetters, cd_Part_spellDigits, cd_Part_spellNumber, cd_Part_lengthOfNumber, cd_Reading_init, cd_Reading_isThere, cd_Reading_begin, cd_Reading_end, cd_Reading_add, cd_Reading_markAt, cd_Reading_shiftOne, cd_Reading_become, cd_Sequence_init, cd_Sequence_study, cd_Sequence_longestFrom, cd_Sequence_follows, cd_Sequence_chooseRights, cd_Sequence_placeOf, cd_Sequence_newPlaceOf, cd_Shifter_init, cd_Shifter_makePlan, cd_Shifter_gather]
def am_mi_8 : List am_MI := [(yX7_findEnds, cX7_findEnds, 10, none, 7, false), (yX7_markEnds, cX7_markEnds, 5, none, 7, false), (yX7_fill, cX7_fill, 11, none, 7, false), (yX7_keepPlan, cX7_keepPlan, 7, none, 7, false), (yX7_dropPlan, cX7_dropPlan, 1, none, 7, false), (yX7_endOf, cX7_endOf, 2, (some .int), 7, false), (yX7_carryOut, cX7_carryOut, 6, (some .boolean), 7, false), (yX7_isAsThen, cX7_isAsThen, 4, (some .boolean), 7, false), (yX8_init, cX8_init, 1, none, 8, false), (yX8_hasShelf, cX8_hasShelf, 2, (some .boolean), 8, false), (yX8_hasBook, cX8_hasBook, 2, (some .boolean), 8, false), (yX8_isHigh, cX8_isHigh, 2, (some .boolean), 8, false), (yX8_widthOf, cX8_widthOf, 2, (some .int), 8, false), (yX8_hasPlace, cX8_hasPlace, 3, (some .boolean), 8, false), (yX8_thingAt, cX8_thingAt, 3, (some .int), 8, false), (yX8_isFree, cX8_isFree, 3, (some .boolean), 8, false), (yX8_setThing, cX8_setThing, 4, none, 8, false), (yX8_bookOf, cX8_bookOf, 1, (some .int), 8, true), (yX8_markOf, cX8_markOf, 3, (some .int), 8, false), (yX8_widthTaken, cX8_widthTaken, 3, (some .int), 8, false), (yX8_makeShelf, cX8_makeShelf, 4, (some .int), 8, false), (yX8_clearShelf, cX8_clearShelf, 3, none, 8, false), (yX8_makeBook, cX8_makeBook, 6, (some .int), 8, false), (yX8_notePlace, cX8_notePlace, 5, none, 8, false), (yX8_takeThing, cX8_takeThing, 3, none, 8, false)]
def am_cd_8 : List (List am_I) := [cd_Shifter_findEnds, cd_Shifter_markEnds, cd_Shifter_fill, cd_Shifter_keepPlan, cd_Shifter_dropPlan, cd_Shifter_endOf, cd_Shifter_carryOut, cd_Shifter_isAsThen, cd_Stacks_init, cd_Stacks_hasShelf, cd_Stacks_hasBook, cd_Stacks_isHigh, cd_Stacks_widthOf, cd_Stacks_hasPlace, cd_Stacks_thingAt, cd_Stacks_isFree, cd_Stacks_setThing, cd_Stacks_bookOf, cd_Stacks_markOf, cd_Stacks_widthTaken, cd_Stacks_makeShelf, cd_Stacks_clearShelf, cd_Stacks_makeBook, cd_Stacks_notePlace, cd_Stacks_takeThing]
def am_mi_9 : List am_MI := [(yX8_putThing, cX8_putThing, 4, none, 8, false), (yX8_roomNow, cX8_roomNow, 5, (some .int), 8, false), (yX8_become, cX8_become, 2, none, 8, false), (yX9_init, cX9_init, 1, none, 9, false), (yX9_compare, cX9_compare, 3, (some .int), 9, false), (yX9_become, cX9_become, 2, none, 9, false), (yX10_init, cX10_init, 1, none, 10, false), (yX10_faultOf, cX10_faultOf, 5, (some .int), 10, false), (yX10_next, cX10_next, 1, (some .int), 10, false), (yX10_isLetter, cX10_isLetter, 1, (some .boolean), 10, true), (yX10_isDigit, cX10_isDigit, 1, (some .boolean), 10, true), (yX10_isJoined, cX10_isJoined, 2, (some .boolean), 10, false), (yX10_takeBlank, cX10_takeBlank, 2, (some .boolean), 10, false), (yX10_takePart, cX10_takePart, 4, (some .boolean), 10, false), (yX10_keep, cX10_keep, 5, none, 10, false), (yX10_takeLetters, cX10_takeLetters, 3, (some .boolean), 10, false), (yX10_takeWhole, cX10_takeWhole, 1, (some .boolean), 10, false), (yX10_takePoint, cX10_takePoint, 4, (some .boolean), 10, false), (yX10_takeFraction, cX10_takeFraction, 4, (some .boolean), 10, false), (yX10_takeYear, cX10_takeYear, 1, (some .boolean), 10, false), (yX10_takeNumber, cX10_takeNumber, 2, (some .boolean), 10, false), (yX10_takeDigits, cX10_takeDigits, 2, none, 10, false), (yL_law, cL_law, 4, (some .boolean), 13, true), (yJ6_compare_7cf53, cJ6_compare_7cf53, 2, (some .int), 14, true)]
def am_cd_9 : List (List am_I) := [cd_Stacks_putThing, cd_Stacks_roomNow, cd_Stacks_become, cd_State_init, cd_State_compare, cd_State_become, cd_TextReader_init, cd_TextReader_faultOf, cd_TextReader_next, cd_TextReader_isLetter, cd_TextReader_isDigit, cd_TextReader_isJoined, cd_TextReader_takeBlank, cd_TextReader_takePart, cd_TextReader_keep, cd_TextReader_takeLetters, cd_TextReader_takeWhole, cd_TextReader_takePoint, cd_TextReader_takeFraction, cd_TextReader_takeYear, cd_TextReader_takeNumber, cd_TextReader_takeDigits, cd_CartLaw_law, cd_Integer_compare]
def am_mi : List am_MI := am_mi_0 ++ (am_mi_1 ++ (am_mi_2 ++ (am_mi_3 ++ (am_mi_4 ++ (am_mi_5 ++ (am_mi_6 ++ (am_mi_7 ++ (am_mi_8 ++ (am_mi_9)))))))))
def am_tab : List (List am_I) := am_cd_0 ++ (am_cd_1 ++ (am_cd_2 ++ (am_cd_3 ++ (am_cd_4 ++ (am_cd_5 ++ (am_cd_6 ++ (am_cd_7 ++ (am_cd_8 ++ (am_cd_9)))))))))
def am_cd (y : Nat) : List am_I := am_tab.getD y []
def am_m (y : Nat) : am_MI := am_mi.getD y (yL_law, cL_law, 4, (some .boolean), 13, true)
theorem cq_Cart_init : am_cd 0 = cd_Cart_init := rfl
theorem mq_Cart_init : am_m 0 = (yX11_init, cX11_init, 1, none, 11, false) := rfl
theorem cq_Cart_feed : am_cd 1 = cd_Cart_feed := rfl
theorem mq_Cart_feed : am_m 1 = (yX11_feed, cX11_feed, 7, (some .int), 11, false) := rfl
theorem cq_Cart_mark : am_cd 2 = cd_Cart_mark := rfl
theorem mq_Cart_mark : am_m 2 = (yX11_mark, cX11_mark, 4, (some .int), 11, false) := rfl
theorem cq_Cart_withinText : am_cd 3 = cd_Cart_withinText := rfl
theorem mq_Cart_withinText : am_m 3 = (yX11_withinText, cX11_withinText, 2, (some .int), 11, true) := rfl
theorem cq_Cart_fault : am_cd 4 = cd_Cart_fault := rfl
theorem mq_Cart_fault : am_m 4 = (yX11_fault, cX11_fault, 1, (some .int), 11, false) := rfl
theorem cq_Cart_count : am_cd 5 = cd_Cart_count := rfl
theorem mq_Cart_count : am_m 5 = (yX11_count, cX11_count, 2, (some .int), 11, false) := rfl
theorem cq_Cart_part : am_cd 6 = cd_Cart_part := rfl
theorem mq_Cart_part : am_m 6 = (yX11_part, cX11_part, 6, (some .int), 11, false) := rfl
theorem cq_Cart_write : am_cd 7 = cd_Cart_write := rfl
theorem mq_Cart_write : am_m 7 = (yX11_write, cX11_write, 2, (some .int), 11, false) := rfl
theorem cq_Cart_out : am_cd 8 = cd_Cart_out := rfl
theorem mq_Cart_out : am_m 8 = (yX11_out, cX11_out, 2, (some .int), 11, false) := rfl
theorem cq_Cart_way : am_cd 9 = cd_Cart_way := rfl
theorem mq_Cart_way : am_m 9 = (yX11_way, cX11_way, 2, (some .boolean), 11, false) := rfl
theorem cq_Cart_sorts : am_cd 10 = cd_Cart_sorts := rfl
theorem mq_Cart_sorts : am_m 10 = (yX11_sorts, cX11_sorts, 3, (some .int), 11, false) := rfl
theorem cq_Cart_shelf : am_cd 11 = cd_Cart_shelf := rfl
theorem mq_Cart_shelf : am_m 11 = (yX11_shelf, cX11_shelf, 3, (some .int), 11, false) := rfl
theorem cq_Cart_book : am_cd 12 = cd_Cart_book := rfl
theorem mq_Cart_book : am_m 12 = (yX11_book, cX11_book, 6, (some .int), 11, false) := rfl
theorem cq_Cart_stand : am_cd 13 = cd_Cart_stand := rfl
theorem mq_Cart_stand : am_m 13 = (yX11_stand, cX11_stand, 5, (some .boolean), 11, false) := rfl
theorem cq_Cart_dummy : am_cd 14 = cd_Cart_dummy := rfl
theorem mq_Cart_dummy : am_m 14 = (yX11_dummy, cX11_dummy, 5, (some .boolean), 11, false) := rfl
theorem cq_Cart_off : am_cd 15 = cd_Cart_off := rfl
theorem mq_Cart_off : am_m 15 = (yX11_off, cX11_off, 3, (some .boolean), 11, false) := rfl
theorem cq_Cart_tell : am_cd 16 = cd_Cart_tell := rfl
theorem mq_Cart_tell : am_m 16 = (yX11_tell, cX11_tell, 4, (some .int), 11, false) := rfl
theorem cq_Cart_place : am_cd 17 = cd_Cart_place := rfl
theorem mq_Cart_place : am_m 17 = (yX11_place, cX11_place, 3, (some .int), 11, false) := rfl
theorem cq_Cart_room : am_cd 18 = cd_Cart_room := rfl
theorem mq_Cart_room : am_m 18 = (yX11_room, cX11_room, 3, (some .int), 11, false) := rfl
theorem cq_Cart_run : am_cd 19 = cd_Cart_run := rfl
theorem mq_Cart_run : am_m 19 = (yX11_run, cX11_run, 5, (some .boolean), 11, false) := rfl
theorem cq_Cart_seen : am_cd 20 = cd_Cart_seen := rfl
theorem mq_Cart_seen : am_m 20 = (yX11_seen, cX11_seen, 2, (some .int), 11, false) := rfl
theorem cq_Cart_read : am_cd 21 = cd_Cart_read := rfl
theorem mq_Cart_read : am_m 21 = (yX11_read, cX11_read, 2, (some .int), 11, false) := rfl
theorem cq_Cart_order : am_cd 22 = cd_Cart_order := rfl
theorem mq_Cart_order : am_m 22 = (yX11_order, cX11_order, 3, (some .int), 11, false) := rfl
theorem cq_Cart_fewest : am_cd 23 = cd_Cart_fewest := rfl
theorem mq_Cart_fewest : am_m 23 = (yX11_fewest, cX11_fewest, 1, (some .int), 11, false) := rfl
theorem cq_Cart_move : am_cd 24 = cd_Cart_move := rfl
theorem mq_Cart_move : am_m 24 = (yX11_move, cX11_move, 3, (some .int), 11, false) := rfl
theorem cq_Cart_where : am_cd 25 = cd_Cart_where := rfl
theorem mq_Cart_where : am_m 25 = (yX11_where, cX11_where, 4, (some .int), 11, false) := rfl
theorem cq_Cart_isInOrder : am_cd 26 = cd_Cart_isInOrder := rfl
theorem mq_Cart_isInOrder : am_m 26 = (yX11_isInOrder, cX11_isInOrder, 3, (some .boolean), 11, false) := rfl
theorem cq_Cart_between : am_cd 27 = cd_Cart_between := rfl
theorem mq_Cart_between : am_m 27 = (yX11_between, cX11_between, 4, (some .int), 11, false) := rfl
theorem cq_Cart_done : am_cd 28 = cd_Cart_done := rfl
theorem mq_Cart_done : am_m 28 = (yX11_done, cX11_done, 2, (some .int), 11, false) := rfl
theorem cq_Cart_list : am_cd 29 = cd_Cart_list := rfl
theorem mq_Cart_list : am_m 29 = (yX11_list, cX11_list, 3, (some .boolean), 11, false) := rfl
theorem cq_Cart_forget : am_cd 30 = cd_Cart_forget := rfl
theorem mq_Cart_forget : am_m 30 = (yX11_forget, cX11_forget, 2, (some .boolean), 11, false) := rfl
theorem cq_Cart_listed : am_cd 31 = cd_Cart_listed := rfl
theorem mq_Cart_listed : am_m 31 = (yX11_listed, cX11_listed, 2, (some .int), 11, false) := rfl
theorem cq_Cart_found : am_cd 32 = cd_Cart_found := rfl
theorem mq_Cart_found : am_m 32 = (yX11_found, cX11_found, 6, (some .int), 11, false) := rfl
theorem cq_Cart_check : am_cd 33 = cd_Cart_check := rfl
theorem mq_Cart_check : am_m 33 = (yX11_check, cX11_check, 6, (some .int), 11, false) := rfl
theorem cq_Cart_grow : am_cd 34 = cd_Cart_grow := rfl
theorem mq_Cart_grow : am_m 34 = (yX11_grow, cX11_grow, 4, (some .int), 11, false) := rfl
theorem cq_Cart_full : am_cd 35 = cd_Cart_full := rfl
theorem mq_Cart_full : am_m 35 = (yX11_full, cX11_full, 4, (some .int), 11, false) := rfl
theorem cq_Cart_firstFullYear : am_cd 36 = cd_Cart_firstFullYear := rfl
theorem mq_Cart_firstFullYear : am_m 36 = (yX11_firstFullYear, cX11_firstFullYear, 4, (some .int), 11, false) := rfl
theorem cq_Cart_shift : am_cd 37 = cd_Cart_shift := rfl
theorem mq_Cart_shift : am_m 37 = (yX11_shift, cX11_shift, 5, (some .int), 11, false) := rfl
theorem cq_Cart_isFloor : am_cd 38 = cd_Cart_isFloor := rfl
theorem mq_Cart_isFloor : am_m 38 = (yX11_isFloor, cX11_isFloor, 4, (some .boolean), 11, false) := rfl
theorem cq_Cart_plan : am_cd 39 = cd_Cart_plan := rfl
theorem mq_Cart_plan : am_m 39 = (yX11_plan, cX11_plan, 2, (some .int), 11, false) := rfl
theorem cq_Cart_lift : am_cd 40 = cd_Cart_lift := rfl
theorem mq_Cart_lift : am_m 40 = (yX11_lift, cX11_lift, 1, (some .boolean), 11, false) := rfl
theorem cq_Cart_image : am_cd 41 = cd_Cart_image := rfl
theorem mq_Cart_image : am_m 41 = (yX11_image, cX11_image, 2, (some .boolean), 11, false) := rfl
theorem cq_Cart_again : am_cd 42 = cd_Cart_again := rfl
theorem mq_Cart_again : am_m 42 = (yX11_again, cX11_again, 2, (some .boolean), 11, false) := rfl
theorem cq_Model_init : am_cd 43 = cd_Model_init := rfl
theorem mq_Model_init : am_m 43 = (yX12_init, cX12_init, 3, none, 12, false) := rfl
theorem cq_Model_isIn : am_cd 44 = cd_Model_isIn := rfl
theorem mq_Model_isIn : am_m 44 = (yX12_isIn, cX12_isIn, 2, (some .boolean), 12, true) := rfl
theorem cq_Model_isMark : am_cd 45 = cd_Model_isMark := rfl
theorem mq_Model_isMark : am_m 45 = (yX12_isMark, cX12_isMark, 2, (some .boolean), 12, false) := rfl
theorem cq_Model_isShelf : am_cd 46 = cd_Model_isShelf := rfl
theorem mq_Model_isShelf : am_m 46 = (yX12_isShelf, cX12_isShelf, 2, (some .boolean), 12, false) := rfl
theorem cq_Model_isBook : am_cd 47 = cd_Model_isBook := rfl
theorem mq_Model_isBook : am_m 47 = (yX12_isBook, cX12_isBook, 2, (some .boolean), 12, false) := rfl
theorem cq_Model_feed : am_cd 48 = cd_Model_feed := rfl
theorem mq_Model_feed : am_m 48 = (yX12_feed, cX12_feed, 8, (some .int), 12, false) := rfl
theorem cq_Model_here : am_cd 49 = cd_Model_here := rfl
theorem mq_Model_here : am_m 49 = (yX12_here, cX12_here, 1, (some .int), 12, false) := rfl
theorem cq_Model_isDigit : am_cd 50 = cd_Model_isDigit := rfl
theorem mq_Model_isDigit : am_m 50 = (yX12_isDigit, cX12_isDigit, 1, (some .boolean), 12, false) := rfl
theorem cq_Model_isLetter : am_cd 51 = cd_Model_isLetter := rfl
theorem mq_Model_isLetter : am_m 51 = (yX12_isLetter, cX12_isLetter, 1, (some .boolean), 12, false) := rfl
theorem cq_Model_begins : am_cd 52 = cd_Model_begins := rfl
theorem mq_Model_begins : am_m 52 = (yX12_begins, cX12_begins, 2, none, 12, false) := rfl
theorem cq_Model_number : am_cd 53 = cd_Model_number := rfl
theorem mq_Model_number : am_m 53 = (yX12_number, cX12_number, 4, (some .int), 12, false) := rfl
theorem cq_Model_isValue : am_cd 54 = cd_Model_isValue := rfl
theorem mq_Model_isValue : am_m 54 = (yX12_isValue, cX12_isValue, 1, none, 12, false) := rfl
theorem cq_Model_fraction : am_cd 55 = cd_Model_fraction := rfl
theorem mq_Model_fraction : am_m 55 = (yX12_fraction, cX12_fraction, 2, (some .boolean), 12, false) := rfl
theorem cq_Model_letters : am_cd 56 = cd_Model_letters := rfl
theorem mq_Model_letters : am_m 56 = (yX12_letters, cX12_letters, 2, (some .boolean), 12, false) := rfl
theorem cq_Model_whole : am_cd 57 = cd_Model_whole := rfl
theorem mq_Model_whole : am_m 57 = (yX12_whole, cX12_whole, 2, (some .boolean), 12, false) := rfl
theorem cq_Model_year : am_cd 58 = cd_Model_year := rfl
theorem mq_Model_year : am_m 58 = (yX12_year, cX12_year, 2, (some .boolean), 12, false) := rfl
theorem cq_Model_counted : am_cd 59 = cd_Model_counted := rfl
theorem mq_Model_counted : am_m 59 = (yX12_counted, cX12_counted, 3, (some .boolean), 12, false) := rfl
theorem cq_Model_pointed : am_cd 60 = cd_Model_pointed := rfl
theorem mq_Model_pointed : am_m 60 = (yX12_pointed, cX12_pointed, 3, (some .boolean), 12, false) := rfl
theorem cq_Model_nextPart : am_cd 61 = cd_Model_nextPart := rfl
theorem mq_Model_nextPart : am_m 61 = (yX12_nextPart, cX12_nextPart, 4, (some .boolean), 12, false) := rfl
theorem cq_Model_isText : am_cd 62 = cd_Model_isText := rfl
theorem mq_Model_isText : am_m 62 = (yX12_isText, cX12_isText, 5, (some .boolean), 12, false) := rfl
theorem cq_Model_isMade : am_cd 63 = cd_Model_isMade := rfl
theorem mq_Model_isMade : am_m 63 = (yX12_isMade, cX12_isMade, 6, (some .boolean), 12, false) := rfl
theorem cq_Model_mark : am_cd 64 = cd_Model_mark := rfl
theorem mq_Model_mark : am_m 64 = (yX12_mark, cX12_mark, 6, (some .int), 12, false) := rfl
theorem cq_Model_fault : am_cd 65 = cd_Model_fault := rfl
theorem mq_Model_fault : am_m 65 = (yX12_fault, cX12_fault, 1, (some .int), 12, false) := rfl
theorem cq_Model_count : am_cd 66 = cd_Model_count := rfl
theorem mq_Model_count : am_m 66 = (yX12_count, cX12_count, 4, (some .int), 12, false) := rfl
theorem cq_Model_partsOf : am_cd 67 = cd_Model_partsOf := rfl
theorem mq_Model_partsOf : am_m 67 = (yX12_partsOf, cX12_partsOf, 2, (some .int), 12, false) := rfl
theorem cq_Model_partOf : am_cd 68 = cd_Model_partOf := rfl
theorem mq_Model_partOf : am_m 68 = (yX12_partOf, cX12_partOf, 4, (some .int), 12, false) := rfl
theorem cq_Model_part : am_cd 69 = cd_Model_part := rfl
theorem mq_Model_part : am_m 69 = (yX12_part, cX12_part, 4, (some .int), 12, false) := rfl
theorem cq_Model_ink : am_cd 70 = cd_Model_ink := rfl
theorem mq_Model_ink : am_m 70 = (yX12_ink, cX12_ink, 2, none, 12, false) := rfl
theorem cq_Model_inkNumber : am_cd 71 = cd_Model_inkNumber := rfl
theorem mq_Model_inkNumber : am_m 71 = (yX12_inkNumber, cX12_inkNumber, 5, none, 12, false) := rfl
theorem cq_Model_inkLetters : am_cd 72 = cd_Model_inkLetters := rfl
theorem mq_Model_inkLetters : am_m 72 = (yX12_inkLetters, cX12_inkLetters, 2, none, 12, false) := rfl
theorem cq_Model_inkPart : am_cd 73 = cd_Model_inkPart := rfl
theorem mq_Model_inkPart : am_m 73 = (yX12_inkPart, cX12_inkPart, 4, none, 12, false) := rfl
theorem cq_Model_write : am_cd 74 = cd_Model_write := rfl
theorem mq_Model_write : am_m 74 = (yX12_write, cX12_write, 6, (some .int), 12, false) := rfl
theorem cq_Model_out : am_cd 75 = cd_Model_out := rfl
theorem mq_Model_out : am_m 75 = (yX12_out, cX12_out, 2, (some .int), 12, false) := rfl
theorem cq_Model_way : am_cd 76 = cd_Model_way := rfl
theorem mq_Model_way : am_m 76 = (yX12_way, cX12_way, 2, (some .boolean), 12, false) := rfl
theorem cq_Model_sign : am_cd 77 = cd_Model_sign := rfl
theorem mq_Model_sign : am_m 77 = (yX12_sign, cX12_sign, 1, (some .int), 12, true) := rfl
theorem cq_Model_filled : am_cd 78 = cd_Model_filled := rfl
theorem mq_Model_filled : am_m 78 = (yX12_filled, cX12_filled, 6, (some .int), 12, true) := rfl
theorem cq_Model_lettersIn : am_cd 79 = cd_Model_lettersIn := rfl
theorem mq_Model_lettersIn : am_m 79 = (yX12_lettersIn, cX12_lettersIn, 1, (some .int), 12, true) := rfl
theorem cq_Model_held : am_cd 80 = cd_Model_held := rfl
theorem mq_Model_held : am_m 80 = (yX12_held, cX12_held, 10, (some .int), 12, false) := rfl
theorem cq_Model_compare : am_cd 81 = cd_Model_compare := rfl
theorem mq_Model_compare : am_m 81 = (yX12_compare, cX12_compare, 8, (some .int), 12, false) := rfl
theorem cq_Model_compared : am_cd 82 = cd_Model_compared := rfl
theorem mq_Model_compared : am_m 82 = (yX12_compared, cX12_compared, 3, (some .int), 12, false) := rfl
theorem cq_Model_sorts : am_cd 83 = cd_Model_sorts := rfl
theorem mq_Model_sorts : am_m 83 = (yX12_sorts, cX12_sorts, 3, (some .int), 12, false) := rfl
theorem cq_Model_shelf : am_cd 84 = cd_Model_shelf := rfl
theorem mq_Model_shelf : am_m 84 = (yX12_shelf, cX12_shelf, 5, (some .int), 12, false) := rfl
theorem cq_Model_volumeOf : am_cd 85 = cd_Model_volumeOf := rfl
theorem mq_Model_volumeOf : am_m 85 = (yX12_volumeOf, cX12_volumeOf, 4, (some .int), 12, false) := rfl
theorem cq_Model_book : am_cd 86 = cd_Model_book := rfl
theorem mq_Model_book : am_m 86 = (yX12_book, cX12_book, 7, (some .int), 12, false) := rfl
theorem cq_Model_of : am_cd 87 = cd_Model_of := rfl
theorem mq_Model_of : am_m 87 = (yX12_of, cX12_of, 3, (some .int), 12, false) := rfl
theorem cq_Model_placeOf : am_cd 88 = cd_Model_placeOf := rfl
theorem mq_Model_placeOf : am_m 88 = (yX12_placeOf, cX12_placeOf, 3, (some .int), 12, false) := rfl
theorem cq_Model_leaves : am_cd 89 = cd_Model_leaves := rfl
theorem mq_Model_leaves : am_m 89 = (yX12_leaves, cX12_leaves, 4, none, 12, false) := rfl
theorem cq_Model_comes : am_cd 90 = cd_Model_comes := rfl
theorem mq_Model_comes : am_m 90 = (yX12_comes, cX12_comes, 5, none, 12, false) := rfl
theorem cq_Model_isHigh : am_cd 91 = cd_Model_isHigh := rfl
theorem mq_Model_isHigh : am_m 91 = (yX12_isHigh, cX12_isHigh, 2, (some .boolean), 12, false) := rfl
theorem cq_Model_stand : am_cd 92 = cd_Model_stand := rfl
theorem mq_Model_stand : am_m 92 = (yX12_stand, cX12_stand, 4, (some .boolean), 12, false) := rfl
theorem cq_Model_dummy : am_cd 93 = cd_Model_dummy := rfl
theorem mq_Model_dummy : am_m 93 = (yX12_dummy, cX12_dummy, 4, (some .boolean), 12, false) := rfl
theorem cq_Model_off : am_cd 94 = cd_Model_off := rfl
theorem mq_Model_off : am_m 94 = (yX12_off, cX12_off, 2, (some .boolean), 12, false) := rfl
theorem cq_Model_tell : am_cd 95 = cd_Model_tell := rfl
theorem mq_Model_tell : am_m 95 = (yX12_tell, cX12_tell, 3, (some .int), 12, false) := rfl
theorem cq_Model_place : am_cd 96 = cd_Model_place := rfl
theorem mq_Model_place : am_m 96 = (yX12_place, cX12_place, 3, (some .int), 12, false) := rfl
theorem cq_Model_wide : am_cd 97 = cd_Model_wide := rfl
theorem mq_Model_wide : am_m 97 = (yX12_wide, cX12_wide, 2, (some .int), 12, false) := rfl
theorem cq_Model_markOf : am_cd 98 = cd_Model_markOf := rfl
theorem mq_Model_markOf : am_m 98 = (yX12_markOf, cX12_markOf, 2, (some .int), 12, false) := rfl
theorem cq_Model_plainRoom : am_cd 99 = cd_Model_plainRoom := rfl
theorem mq_Model_plainRoom : am_m 99 = (yX12_plainRoom, cX12_plainRoom, 5, (some .int), 12, false) := rfl
theorem cq_Model_growing : am_cd 100 = cd_Model_growing := rfl
theorem mq_Model_growing : am_m 100 = (yX12_growing, cX12_growing, 7, (some .int), 12, false) := rfl
theorem cq_Model_roomIn : am_cd 101 = cd_Model_roomIn := rfl
theorem mq_Model_roomIn : am_m 101 = (yX12_roomIn, cX12_roomIn, 7, (some .int), 12, false) := rfl
theorem cq_Model_room : am_cd 102 = cd_Model_room := rfl
theorem mq_Model_room : am_m 102 = (yX12_room, cX12_room, 3, (some .int), 12, false) := rfl
theorem cq_Model_run : am_cd 103 = cd_Model_run := rfl
theorem mq_Model_run : am_m 103 = (yX12_run, cX12_run, 6, (some .boolean), 12, false) := rfl
theorem cq_Model_seenAt : am_cd 104 = cd_Model_seenAt := rfl
theorem mq_Model_seenAt : am_m 104 = (yX12_seenAt, cX12_seenAt, 2, (some .int), 12, false) := rfl
theorem cq_Model_many : am_cd 105 = cd_Model_many := rfl
theorem mq_Model_many : am_m 105 = (yX12_many, cX12_many, 1, (some .int), 12, false) := rfl
theorem cq_Model_seen : am_cd 106 = cd_Model_seen := rfl
theorem mq_Model_seen : am_m 106 = (yX12_seen, cX12_seen, 2, (some .int), 12, false) := rfl
theorem cq_Model_read : am_cd 107 = cd_Model_read := rfl
theorem mq_Model_read : am_m 107 = (yX12_read, cX12_read, 2, (some .int), 12, false) := rfl
theorem cq_Model_rights : am_cd 108 = cd_Model_rights := rfl
theorem mq_Model_rights : am_m 108 = (yX12_rights, cX12_rights, 6, (some .int), 12, false) := rfl
theorem cq_Model_order : am_cd 109 = cd_Model_order := rfl
theorem mq_Model_order : am_m 109 = (yX12_order, cX12_order, 7, (some .int), 12, false) := rfl
theorem cq_Model_fewest : am_cd 110 = cd_Model_fewest := rfl
theorem mq_Model_fewest : am_m 110 = (yX12_fewest, cX12_fewest, 1, (some .int), 12, false) := rfl
theorem cq_Model_move : am_cd 111 = cd_Model_move := rfl
theorem mq_Model_move : am_m 111 = (yX12_move, cX12_move, 6, (some .int), 12, false) := rfl
theorem cq_Model_where : am_cd 112 = cd_Model_where := rfl
theorem mq_Model_where : am_m 112 = (yX12_where, cX12_where, 4, (some .int), 12, false) := rfl
theorem cq_Model_between : am_cd 113 = cd_Model_between := rfl
theorem mq_Model_between : am_m 113 = (yX12_between, cX12_between, 5, (some .int), 12, false) := rfl
theorem cq_Model_often : am_cd 114 = cd_Model_often := rfl
theorem mq_Model_often : am_m 114 = (yX12_often, cX12_often, 6, (some .int), 12, false) := rfl
theorem cq_Model_done : am_cd 115 = cd_Model_done := rfl
theorem mq_Model_done : am_m 115 = (yX12_done, cX12_done, 5, (some .int), 12, false) := rfl
theorem cq_Model_list : am_cd 116 = cd_Model_list := rfl
theorem mq_Model_list : am_m 116 = (yX12_list, cX12_list, 3, (some .boolean), 12, false) := rfl
theorem cq_Model_forget : am_cd 117 = cd_Model_forget := rfl
theorem mq_Model_forget : am_m 117 = (yX12_forget, cX12_forget, 2, (some .boolean), 12, false) := rfl
theorem cq_Model_listed : am_cd 118 = cd_Model_listed := rfl
theorem mq_Model_listed : am_m 118 = (yX12_listed, cX12_listed, 2, (some .int), 12, false) := rfl
theorem cq_Model_found : am_cd 119 = cd_Model_found := rfl
theorem mq_Model_found : am_m 119 = (yX12_found, cX12_found, 9, (some .int), 12, false) := rfl
theorem cq_Model_check : am_cd 120 = cd_Model_check := rfl
theorem mq_Model_check : am_m 120 = (yX12_check, cX12_check, 5, (some .int), 12, false) := rfl
theorem cq_Model_grow : am_cd 121 = cd_Model_grow := rfl
theorem mq_Model_grow : am_m 121 = (yX12_grow, cX12_grow, 5, (some .int), 12, false) := rfl
theorem cq_Model_full : am_cd 122 = cd_Model_full := rfl
theorem mq_Model_full : am_m 122 = (yX12_full, cX12_full, 3, (some .int), 12, false) := rfl
theorem cq_Model_isOneWork : am_cd 123 = cd_Model_isOneWork := rfl
theorem mq_Model_isOneWork : am_m 123 = (yX12_isOneWork, cX12_isOneWork, 8, (some .boolean), 12, false) := rfl
theorem cq_Model_gathers : am_cd 124 = cd_Model_gathers := rfl
theorem mq_Model_gathers : am_m 124 = (yX12_gathers, cX12_gathers, 6, none, 12, false) := rfl
theorem cq_Model_partings : am_cd 125 = cd_Model_partings := rfl
theorem mq_Model_partings : am_m 125 = (yX12_partings, cX12_partings, 6, none, 12, false) := rfl
theorem cq_Model_tries : am_cd 126 = cd_Model_tries := rfl
theorem mq_Model_tries : am_m 126 = (yX12_tries, cX12_tries, 14, none, 12, false) := rfl
theorem cq_Model_shift : am_cd 127 = cd_Model_shift := rfl
theorem mq_Model_shift : am_m 127 = (yX12_shift, cX12_shift, 9, (some .int), 12, false) := rfl
theorem cq_Model_plan : am_cd 128 = cd_Model_plan := rfl
theorem mq_Model_plan : am_m 128 = (yX12_plan, cX12_plan, 2, (some .int), 12, false) := rfl
theorem cq_Model_lift : am_cd 129 = cd_Model_lift := rfl
theorem mq_Model_lift : am_m 129 = (yX12_lift, cX12_lift, 4, (some .boolean), 12, false) := rfl
theorem cq_Model_image : am_cd 130 = cd_Model_image := rfl
theorem mq_Model_image : am_m 130 = (yX12_image, cX12_image, 3, (some .boolean), 12, false) := rfl
theorem cq_Model_again : am_cd 131 = cd_Model_again := rfl
theorem mq_Model_again : am_m 131 = (yX12_again, cX12_again, 3, (some .boolean), 12, false) := rfl
theorem cq_ByteRow_init : am_cd 132 = cd_ByteRow_init := rfl
theorem mq_ByteRow_init : am_m 132 = (yX0_init, cX0_init, 2, none, 0, false) := rfl
theorem cq_ByteRow_add : am_cd 133 = cd_ByteRow_add := rfl
theorem mq_ByteRow_add : am_m 133 = (yX0_add, cX0_add, 2, none, 0, false) := rfl
theorem cq_ByteRow_addNumber : am_cd 134 = cd_ByteRow_addNumber := rfl
theorem mq_ByteRow_addNumber : am_m 134 = (yX0_addNumber, cX0_addNumber, 2, none, 0, false) := rfl
theorem cq_ByteRow_addDigits : am_cd 135 = cd_ByteRow_addDigits := rfl
theorem mq_ByteRow_addDigits : am_m 135 = (yX0_addDigits, cX0_addDigits, 4, none, 0, false) := rfl
theorem cq_ByteRow_byteAt : am_cd 136 = cd_ByteRow_byteAt := rfl
theorem mq_ByteRow_byteAt : am_m 136 = (yX0_byteAt, cX0_byteAt, 2, (some .int), 0, false) := rfl
theorem cq_Catalogue_init : am_cd 137 = cd_Catalogue_init := rfl
theorem mq_Catalogue_init : am_m 137 = (yX1_init, cX1_init, 2, none, 1, false) := rfl
theorem cq_Catalogue_isMark : am_cd 138 = cd_Catalogue_isMark := rfl
theorem mq_Catalogue_isMark : am_m 138 = (yX1_isMark, cX1_isMark, 1, (some .boolean), 1, true) := rfl
theorem cq_Catalogue_shelfOf : am_cd 139 = cd_Catalogue_shelfOf := rfl
theorem mq_Catalogue_shelfOf : am_m 139 = (yX1_shelfOf, cX1_shelfOf, 2, (some .int), 1, false) := rfl
theorem cq_Catalogue_enter : am_cd 140 = cd_Catalogue_enter := rfl
theorem mq_Catalogue_enter : am_m 140 = (yX1_enter, cX1_enter, 3, none, 1, false) := rfl
theorem cq_Catalogue_strike : am_cd 141 = cd_Catalogue_strike := rfl
theorem mq_Catalogue_strike : am_m 141 = (yX1_strike, cX1_strike, 2, (some .boolean), 1, false) := rfl
theorem cq_Catalogue_isRead : am_cd 142 = cd_Catalogue_isRead := rfl
theorem mq_Catalogue_isRead : am_m 142 = (yX1_isRead, cX1_isRead, 2, (some .boolean), 1, false) := rfl
theorem cq_Catalogue_timesRead : am_cd 143 = cd_Catalogue_timesRead := rfl
theorem mq_Catalogue_timesRead : am_m 143 = (yX1_timesRead, cX1_timesRead, 5, (some .int), 1, false) := rfl
theorem cq_Catalogue_isGone : am_cd 144 = cd_Catalogue_isGone := rfl
theorem mq_Catalogue_isGone : am_m 144 = (yX1_isGone, cX1_isGone, 3, (some .boolean), 1, false) := rfl
theorem cq_Catalogue_countGone : am_cd 145 = cd_Catalogue_countGone := rfl
theorem mq_Catalogue_countGone : am_m 145 = (yX1_countGone, cX1_countGone, 4, (some .int), 1, false) := rfl
theorem cq_Catalogue_keepReading : am_cd 146 = cd_Catalogue_keepReading := rfl
theorem mq_Catalogue_keepReading : am_m 146 = (yX1_keepReading, cX1_keepReading, 4, none, 1, false) := rfl
theorem cq_Catalogue_traceMark : am_cd 147 = cd_Catalogue_traceMark := rfl
theorem mq_Catalogue_traceMark : am_m 147 = (yX1_traceMark, cX1_traceMark, 3, none, 1, false) := rfl
theorem cq_Catalogue_isSuch : am_cd 148 = cd_Catalogue_isSuch := rfl
theorem mq_Catalogue_isSuch : am_m 148 = (yX1_isSuch, cX1_isSuch, 4, (some .boolean), 1, false) := rfl
theorem cq_Catalogue_become : am_cd 149 = cd_Catalogue_become := rfl
theorem mq_Catalogue_become : am_m 149 = (yX1_become, cX1_become, 2, none, 1, false) := rfl
theorem cq_Growths_init : am_cd 150 = cd_Growths_init := rfl
theorem mq_Growths_init : am_m 150 = (yX2_init, cX2_init, 1, none, 2, false) := rfl
theorem cq_Growths_make : am_cd 151 = cd_Growths_make := rfl
theorem mq_Growths_make : am_m 151 = (yX2_make, cX2_make, 4, (some .int), 2, false) := rfl
theorem cq_Growths_countBooks : am_cd 152 = cd_Growths_countBooks := rfl
theorem mq_Growths_countBooks : am_m 152 = (yX2_countBooks, cX2_countBooks, 6, none, 2, false) := rfl
theorem cq_Growths_isOf : am_cd 153 = cd_Growths_isOf := rfl
theorem mq_Growths_isOf : am_m 153 = (yX2_isOf, cX2_isOf, 4, (some .boolean), 2, false) := rfl
theorem cq_Growths_lossOf : am_cd 154 = cd_Growths_lossOf := rfl
theorem mq_Growths_lossOf : am_m 154 = (yX2_lossOf, cX2_lossOf, 7, (some .int), 2, false) := rfl
theorem cq_Growths_become : am_cd 155 = cd_Growths_become := rfl
theorem mq_Growths_become : am_m 155 = (yX2_become, cX2_become, 2, none, 2, false) := rfl
theorem cq_Marks_init : am_cd 156 = cd_Marks_init := rfl
theorem mq_Marks_init : am_m 156 = (yX3_init, cX3_init, 1, none, 3, false) := rfl
theorem cq_Marks_has : am_cd 157 = cd_Marks_has := rfl
theorem mq_Marks_has : am_m 157 = (yX3_has, cX3_has, 2, (some .boolean), 3, false) := rfl
theorem cq_Marks_lengthOf : am_cd 158 = cd_Marks_lengthOf := rfl
theorem mq_Marks_lengthOf : am_m 158 = (yX3_lengthOf, cX3_lengthOf, 2, (some .int), 3, false) := rfl
theorem cq_Marks_partOf : am_cd 159 = cd_Marks_partOf := rfl
theorem mq_Marks_partOf : am_m 159 = (yX3_partOf, cX3_partOf, 3, (some .long), 3, false) := rfl
theorem cq_Marks_numberOf : am_cd 160 = cd_Marks_numberOf := rfl
theorem mq_Marks_numberOf : am_m 160 = (yX3_numberOf, cX3_numberOf, 4, (some .int), 3, false) := rfl
theorem cq_Marks_beginsWith : am_cd 161 = cd_Marks_beginsWith := rfl
theorem mq_Marks_beginsWith : am_m 161 = (yX3_beginsWith, cX3_beginsWith, 5, (some .boolean), 3, false) := rfl
theorem cq_Marks_make : am_cd 162 = cd_Marks_make := rfl
theorem mq_Marks_make : am_m 162 = (yX3_make, cX3_make, 4, (some .int), 3, false) := rfl
theorem cq_Marks_compare : am_cd 163 = cd_Marks_compare := rfl
theorem mq_Marks_compare : am_m 163 = (yX3_compare, cX3_compare, 7, (some .int), 3, false) := rfl
theorem cq_Marks_volumeOf : am_cd 164 = cd_Marks_volumeOf := rfl
theorem mq_Marks_volumeOf : am_m 164 = (yX3_volumeOf, cX3_volumeOf, 3, (some .int), 3, false) := rfl
theorem cq_Marks_areOfOneWork : am_cd 165 = cd_Marks_areOfOneWork := rfl
theorem mq_Marks_areOfOneWork : am_m 165 = (yX3_areOfOneWork, cX3_areOfOneWork, 5, (some .boolean), 3, false) := rfl
theorem cq_Marks_lengthOfWork : am_cd 166 = cd_Marks_lengthOfWork := rfl
theorem mq_Marks_lengthOfWork : am_m 166 = (yX3_lengthOfWork, cX3_lengthOfWork, 3, (some .int), 3, false) := rfl
theorem cq_Marks_spell : am_cd 167 = cd_Marks_spell := rfl
theorem mq_Marks_spell : am_m 167 = (yX3_spell, cX3_spell, 7, none, 3, false) := rfl
theorem cq_Marks_become : am_cd 168 = cd_Marks_become := rfl
theorem mq_Marks_become : am_m 168 = (yX3_become, cX3_become, 2, none, 3, false) := rfl
theorem cq_Part_of : am_cd 169 = cd_Part_of := rfl
theorem mq_Part_of : am_m 169 = (yX4_of, cX4_of, 4, (some .long), 4, true) := rfl
theorem cq_Part_kindOf : am_cd 170 = cd_Part_kindOf := rfl
theorem mq_Part_kindOf : am_m 170 = (yX4_kindOf, cX4_kindOf, 2, (some .int), 4, true) := rfl
theorem cq_Part_valueOf : am_cd 171 = cd_Part_valueOf := rfl
theorem mq_Part_valueOf : am_m 171 = (yX4_valueOf, cX4_valueOf, 2, (some .int), 4, true) := rfl
theorem cq_Part_digitsOf : am_cd 172 = cd_Part_digitsOf := rfl
theorem mq_Part_digitsOf : am_m 172 = (yX4_digitsOf, cX4_digitsOf, 2, (some .int), 4, true) := rfl
theorem cq_Part_placesOf : am_cd 173 = cd_Part_placesOf := rfl
theorem mq_Part_placesOf : am_m 173 = (yX4_placesOf, cX4_placesOf, 2, (some .int), 4, true) := rfl
theorem cq_Part_compare : am_cd 174 = cd_Part_compare := rfl
theorem mq_Part_compare : am_m 174 = (yX4_compare, cX4_compare, 5, (some .int), 4, true) := rfl
theorem cq_Part_wordKey : am_cd 175 = cd_Part_wordKey := rfl
theorem mq_Part_wordKey : am_m 175 = (yX4_wordKey, cX4_wordKey, 1, (some .int), 4, true) := rfl
theorem cq_Part_digitKey : am_cd 176 = cd_Part_digitKey := rfl
theorem mq_Part_digitKey : am_m 176 = (yX4_digitKey, cX4_digitKey, 3, (some .int), 4, true) := rfl
theorem cq_Part_spell : am_cd 177 = cd_Part_spell := rfl
theorem mq_Part_spell : am_m 177 = (yX4_spell, cX4_spell, 4, none, 4, true) := rfl
theorem cq_Part_spellLetters : am_cd 178 = cd_Part_spellLetters := rfl
theorem mq_Part_spellLetters : am_m 178 = (yX4_spellLetters, cX4_spellLetters, 2, none, 4, true) := rfl
theorem cq_Part_spellDigits : am_cd 179 = cd_Part_spellDigits := rfl
theorem mq_Part_spellDigits : am_m 179 = (yX4_spellDigits, cX4_spellDigits, 5, none, 4, true) := rfl
theorem cq_Part_spellNumber : am_cd 180 = cd_Part_spellNumber := rfl
theorem mq_Part_spellNumber : am_m 180 = (yX4_spellNumber, cX4_spellNumber, 3, none, 4, true) := rfl
theorem cq_Part_lengthOfNumber : am_cd 181 = cd_Part_lengthOfNumber := rfl
theorem mq_Part_lengthOfNumber : am_m 181 = (yX4_lengthOfNumber, cX4_lengthOfNumber, 2, (some .int), 4, true) := rfl
theorem cq_Reading_init : am_cd 182 = cd_Reading_init := rfl
theorem mq_Reading_init : am_m 182 = (yX5_init, cX5_init, 1, none, 5, false) := rfl
theorem cq_Reading_isThere : am_cd 183 = cd_Reading_isThere := rfl
theorem mq_Reading_isThere : am_m 183 = (yX5_isThere, cX5_isThere, 1, (some .boolean), 5, false) := rfl
theorem cq_Reading_begin : am_cd 184 = cd_Reading_begin := rfl
theorem mq_Reading_begin : am_m 184 = (yX5_begin, cX5_begin, 2, none, 5, false) := rfl
theorem cq_Reading_end : am_cd 185 = cd_Reading_end := rfl
theorem mq_Reading_end : am_m 185 = (yX5_end, cX5_end, 1, none, 5, false) := rfl
theorem cq_Reading_add : am_cd 186 = cd_Reading_add := rfl
theorem mq_Reading_add : am_m 186 = (yX5_add, cX5_add, 2, (some .boolean), 5, false) := rfl
theorem cq_Reading_markAt : am_cd 187 = cd_Reading_markAt := rfl
theorem mq_Reading_markAt : am_m 187 = (yX5_markAt, cX5_markAt, 2, (some .int), 5, false) := rfl
theorem cq_Reading_shiftOne : am_cd 188 = cd_Reading_shiftOne := rfl
theorem mq_Reading_shiftOne : am_m 188 = (yX5_shiftOne, cX5_shiftOne, 4, none, 5, false) := rfl
theorem cq_Reading_become : am_cd 189 = cd_Reading_become := rfl
theorem mq_Reading_become : am_m 189 = (yX5_become, cX5_become, 2, none, 5, false) := rfl
theorem cq_Sequence_init : am_cd 190 = cd_Sequence_init := rfl
theorem mq_Sequence_init : am_m 190 = (yX6_init, cX6_init, 1, none, 6, false) := rfl
theorem cq_Sequence_study : am_cd 191 = cd_Sequence_study := rfl
theorem mq_Sequence_study : am_m 191 = (yX6_study, cX6_study, 3, none, 6, false) := rfl
theorem cq_Sequence_longestFrom : am_cd 192 = cd_Sequence_longestFrom := rfl
theorem mq_Sequence_longestFrom : am_m 192 = (yX6_longestFrom, cX6_longestFrom, 5, (some .int), 6, false) := rfl
theorem cq_Sequence_follows : am_cd 193 = cd_Sequence_follows := rfl
theorem mq_Sequence_follows : am_m 193 = (yX6_follows, cX6_follows, 3, (some .boolean), 6, true) := rfl
theorem cq_Sequence_chooseRights : am_cd 194 = cd_Sequence_chooseRights := rfl
theorem mq_Sequence_chooseRights : am_m 194 = (yX6_chooseRights, cX6_chooseRights, 5, none, 6, false) := rfl
theorem cq_Sequence_placeOf : am_cd 195 = cd_Sequence_placeOf := rfl
theorem mq_Sequence_placeOf : am_m 195 = (yX6_placeOf, cX6_placeOf, 5, (some .int), 6, false) := rfl
theorem cq_Sequence_newPlaceOf : am_cd 196 = cd_Sequence_newPlaceOf := rfl
theorem mq_Sequence_newPlaceOf : am_m 196 = (yX6_newPlaceOf, cX6_newPlaceOf, 5, (some .int), 6, false) := rfl
theorem cq_Shifter_init : am_cd 197 = cd_Shifter_init := rfl
theorem mq_Shifter_init : am_m 197 = (yX7_init, cX7_init, 1, none, 7, false) := rfl
theorem cq_Shifter_makePlan : am_cd 198 = cd_Shifter_makePlan := rfl
theorem mq_Shifter_makePlan : am_m 198 = (yX7_makePlan, cX7_makePlan, 10, (some .int), 7, false) := rfl
theorem cq_Shifter_gather : am_cd 199 = cd_Shifter_gather := rfl
theorem mq_Shifter_gather : am_m 199 = (yX7_gather, cX7_gather, 7, none, 7, false) := rfl
theorem cq_Shifter_findEnds : am_cd 200 = cd_Shifter_findEnds := rfl
theorem mq_Shifter_findEnds : am_m 200 = (yX7_findEnds, cX7_findEnds, 10, none, 7, false) := rfl
theorem cq_Shifter_markEnds : am_cd 201 = cd_Shifter_markEnds := rfl
theorem mq_Shifter_markEnds : am_m 201 = (yX7_markEnds, cX7_markEnds, 5, none, 7, false) := rfl
theorem cq_Shifter_fill : am_cd 202 = cd_Shifter_fill := rfl
theorem mq_Shifter_fill : am_m 202 = (yX7_fill, cX7_fill, 11, none, 7, false) := rfl
theorem cq_Shifter_keepPlan : am_cd 203 = cd_Shifter_keepPlan := rfl
theorem mq_Shifter_keepPlan : am_m 203 = (yX7_keepPlan, cX7_keepPlan, 7, none, 7, false) := rfl
theorem cq_Shifter_dropPlan : am_cd 204 = cd_Shifter_dropPlan := rfl
theorem mq_Shifter_dropPlan : am_m 204 = (yX7_dropPlan, cX7_dropPlan, 1, none, 7, false) := rfl
theorem cq_Shifter_endOf : am_cd 205 = cd_Shifter_endOf := rfl
theorem mq_Shifter_endOf : am_m 205 = (yX7_endOf, cX7_endOf, 2, (some .int), 7, false) := rfl
theorem cq_Shifter_carryOut : am_cd 206 = cd_Shifter_carryOut := rfl
theorem mq_Shifter_carryOut : am_m 206 = (yX7_carryOut, cX7_carryOut, 6, (some .boolean), 7, false) := rfl
theorem cq_Shifter_isAsThen : am_cd 207 = cd_Shifter_isAsThen := rfl
theorem mq_Shifter_isAsThen : am_m 207 = (yX7_isAsThen, cX7_isAsThen, 4, (some .boolean), 7, false) := rfl
theorem cq_Stacks_init : am_cd 208 = cd_Stacks_init := rfl
theorem mq_Stacks_init : am_m 208 = (yX8_init, cX8_init, 1, none, 8, false) := rfl
theorem cq_Stacks_hasShelf : am_cd 209 = cd_Stacks_hasShelf := rfl
theorem mq_Stacks_hasShelf : am_m 209 = (yX8_hasShelf, cX8_hasShelf, 2, (some .boolean), 8, false) := rfl
theorem cq_Stacks_hasBook : am_cd 210 = cd_Stacks_hasBook := rfl
theorem mq_Stacks_hasBook : am_m 210 = (yX8_hasBook, cX8_hasBook, 2, (some .boolean), 8, false) := rfl
theorem cq_Stacks_isHigh : am_cd 211 = cd_Stacks_isHigh := rfl
theorem mq_Stacks_isHigh : am_m 211 = (yX8_isHigh, cX8_isHigh, 2, (some .boolean), 8, false) := rfl
theorem cq_Stacks_widthOf : am_cd 212 = cd_Stacks_widthOf := rfl
theorem mq_Stacks_widthOf : am_m 212 = (yX8_widthOf, cX8_widthOf, 2, (some .int), 8, false) := rfl
theorem cq_Stacks_hasPlace : am_cd 213 = cd_Stacks_hasPlace := rfl
theorem mq_Stacks_hasPlace : am_m 213 = (yX8_hasPlace, cX8_hasPlace, 3, (some .boolean), 8, false) := rfl
theorem cq_Stacks_thingAt : am_cd 214 = cd_Stacks_thingAt := rfl
theorem mq_Stacks_thingAt : am_m 214 = (yX8_thingAt, cX8_thingAt, 3, (some .int), 8, false) := rfl
theorem cq_Stacks_isFree : am_cd 215 = cd_Stacks_isFree := rfl
theorem mq_Stacks_isFree : am_m 215 = (yX8_isFree, cX8_isFree, 3, (some .boolean), 8, false) := rfl
theorem cq_Stacks_setThing : am_cd 216 = cd_Stacks_setThing := rfl
theorem mq_Stacks_setThing : am_m 216 = (yX8_setThing, cX8_setThing, 4, none, 8, false) := rfl
theorem cq_Stacks_bookOf : am_cd 217 = cd_Stacks_bookOf := rfl
theorem mq_Stacks_bookOf : am_m 217 = (yX8_bookOf, cX8_bookOf, 1, (some .int), 8, true) := rfl
theorem cq_Stacks_markOf : am_cd 218 = cd_Stacks_markOf := rfl
theorem mq_Stacks_markOf : am_m 218 = (yX8_markOf, cX8_markOf, 3, (some .int), 8, false) := rfl
theorem cq_Stacks_widthTaken : am_cd 219 = cd_Stacks_widthTaken := rfl
theorem mq_Stacks_widthTaken : am_m 219 = (yX8_widthTaken, cX8_widthTaken, 3, (some .int), 8, false) := rfl
theorem cq_Stacks_makeShelf : am_cd 220 = cd_Stacks_makeShelf := rfl
theorem mq_Stacks_makeShelf : am_m 220 = (yX8_makeShelf, cX8_makeShelf, 4, (some .int), 8, false) := rfl
theorem cq_Stacks_clearShelf : am_cd 221 = cd_Stacks_clearShelf := rfl
theorem mq_Stacks_clearShelf : am_m 221 = (yX8_clearShelf, cX8_clearShelf, 3, none, 8, false) := rfl
theorem cq_Stacks_makeBook : am_cd 222 = cd_Stacks_makeBook := rfl
theorem mq_Stacks_makeBook : am_m 222 = (yX8_makeBook, cX8_makeBook, 6, (some .int), 8, false) := rfl
theorem cq_Stacks_notePlace : am_cd 223 = cd_Stacks_notePlace := rfl
theorem mq_Stacks_notePlace : am_m 223 = (yX8_notePlace, cX8_notePlace, 5, none, 8, false) := rfl
theorem cq_Stacks_takeThing : am_cd 224 = cd_Stacks_takeThing := rfl
theorem mq_Stacks_takeThing : am_m 224 = (yX8_takeThing, cX8_takeThing, 3, none, 8, false) := rfl
theorem cq_Stacks_putThing : am_cd 225 = cd_Stacks_putThing := rfl
theorem mq_Stacks_putThing : am_m 225 = (yX8_putThing, cX8_putThing, 4, none, 8, false) := rfl
theorem cq_Stacks_roomNow : am_cd 226 = cd_Stacks_roomNow := rfl
theorem mq_Stacks_roomNow : am_m 226 = (yX8_roomNow, cX8_roomNow, 5, (some .int), 8, false) := rfl
theorem cq_Stacks_become : am_cd 227 = cd_Stacks_become := rfl
theorem mq_Stacks_become : am_m 227 = (yX8_become, cX8_become, 2, none, 8, false) := rfl
theorem cq_State_init : am_cd 228 = cd_State_init := rfl
theorem mq_State_init : am_m 228 = (yX9_init, cX9_init, 1, none, 9, false) := rfl
theorem cq_State_compare : am_cd 229 = cd_State_compare := rfl
theorem mq_State_compare : am_m 229 = (yX9_compare, cX9_compare, 3, (some .int), 9, false) := rfl
theorem cq_State_become : am_cd 230 = cd_State_become := rfl
theorem mq_State_become : am_m 230 = (yX9_become, cX9_become, 2, none, 9, false) := rfl
theorem cq_TextReader_init : am_cd 231 = cd_TextReader_init := rfl
theorem mq_TextReader_init : am_m 231 = (yX10_init, cX10_init, 1, none, 10, false) := rfl
theorem cq_TextReader_faultOf : am_cd 232 = cd_TextReader_faultOf := rfl
theorem mq_TextReader_faultOf : am_m 232 = (yX10_faultOf, cX10_faultOf, 5, (some .int), 10, false) := rfl
theorem cq_TextReader_next : am_cd 233 = cd_TextReader_next := rfl
theorem mq_TextReader_next : am_m 233 = (yX10_next, cX10_next, 1, (some .int), 10, false) := rfl
theorem cq_TextReader_isLetter : am_cd 234 = cd_TextReader_isLetter := rfl
theorem mq_TextReader_isLetter : am_m 234 = (yX10_isLetter, cX10_isLetter, 1, (some .boolean), 10, true) := rfl
theorem cq_TextReader_isDigit : am_cd 235 = cd_TextReader_isDigit := rfl
theorem mq_TextReader_isDigit : am_m 235 = (yX10_isDigit, cX10_isDigit, 1, (some .boolean), 10, true) := rfl
theorem cq_TextReader_isJoined : am_cd 236 = cd_TextReader_isJoined := rfl
theorem mq_TextReader_isJoined : am_m 236 = (yX10_isJoined, cX10_isJoined, 2, (some .boolean), 10, false) := rfl
theorem cq_TextReader_takeBlank : am_cd 237 = cd_TextReader_takeBlank := rfl
theorem mq_TextReader_takeBlank : am_m 237 = (yX10_takeBlank, cX10_takeBlank, 2, (some .boolean), 10, false) := rfl
theorem cq_TextReader_takePart : am_cd 238 = cd_TextReader_takePart := rfl
theorem mq_TextReader_takePart : am_m 238 = (yX10_takePart, cX10_takePart, 4, (some .boolean), 10, false) := rfl
theorem cq_TextReader_keep : am_cd 239 = cd_TextReader_keep := rfl
theorem mq_TextReader_keep : am_m 239 = (yX10_keep, cX10_keep, 5, none, 10, false) := rfl
theorem cq_TextReader_takeLetters : am_cd 240 = cd_TextReader_takeLetters := rfl
theorem mq_TextReader_takeLetters : am_m 240 = (yX10_takeLetters, cX10_takeLetters, 3, (some .boolean), 10, false) := rfl
theorem cq_TextReader_takeWhole : am_cd 241 = cd_TextReader_takeWhole := rfl
theorem mq_TextReader_takeWhole : am_m 241 = (yX10_takeWhole, cX10_takeWhole, 1, (some .boolean), 10, false) := rfl
theorem cq_TextReader_takePoint : am_cd 242 = cd_TextReader_takePoint := rfl
theorem mq_TextReader_takePoint : am_m 242 = (yX10_takePoint, cX10_takePoint, 4, (some .boolean), 10, false) := rfl
theorem cq_TextReader_takeFraction : am_cd 243 = cd_TextReader_takeFraction := rfl
theorem mq_TextReader_takeFraction : am_m 243 = (yX10_takeFraction, cX10_takeFraction, 4, (some .boolean), 10, false) := rfl
theorem cq_TextReader_takeYear : am_cd 244 = cd_TextReader_takeYear := rfl
theorem mq_TextReader_takeYear : am_m 244 = (yX10_takeYear, cX10_takeYear, 1, (some .boolean), 10, false) := rfl
theorem cq_TextReader_takeNumber : am_cd 245 = cd_TextReader_takeNumber := rfl
theorem mq_TextReader_takeNumber : am_m 245 = (yX10_takeNumber, cX10_takeNumber, 2, (some .boolean), 10, false) := rfl
theorem cq_TextReader_takeDigits : am_cd 246 = cd_TextReader_takeDigits := rfl
theorem mq_TextReader_takeDigits : am_m 246 = (yX10_takeDigits, cX10_takeDigits, 2, none, 10, false) := rfl
theorem cq_CartLaw_law : am_cd 247 = cd_CartLaw_law := rfl
theorem mq_CartLaw_law : am_m 247 = (yL_law, cL_law, 4, (some .boolean), 13, true) := rfl
theorem cq_Integer_compare : am_cd 248 = cd_Integer_compare := rfl
theorem mq_Integer_compare : am_m 248 = (yJ6_compare_7cf53, cJ6_compare_7cf53, 2, (some .int), 14, true) := rfl
