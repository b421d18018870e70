/-! method infos: name, code, locals, what is returned, frames and words below it -/
def kX0_init : q_MI := (yX0_init, cX0_init, 2, none, 1, 20)
theorem pnX0_init : plainName kX0_init.1.cls = true := by decide
def kX0_copyFrom : q_MI := (yX0_copyFrom, cX0_copyFrom, 2, none, 1, 21)
theorem pnX0_copyFrom : plainName kX0_copyFrom.1.cls = true := by decide
def kX0_begin : q_MI := (yX0_begin, cX0_begin, 5, none, 1, 20)
theorem pnX0_begin : plainName kX0_begin.1.cls = true := by decide
def kX0_reopen : q_MI := (yX0_reopen, cX0_reopen, 1, none, 0, 0)
theorem pnX0_reopen : plainName kX0_reopen.1.cls = true := by decide
def kX0_hasFreePlace : q_MI := (yX0_hasFreePlace, cX0_hasFreePlace, 1, (some .boolean), 0, 0)
theorem pnX0_hasFreePlace : plainName kX0_hasFreePlace.1.cls = true := by decide
def kX0_isTooSmall : q_MI := (yX0_isTooSmall, cX0_isTooSmall, 1, (some .boolean), 0, 0)
theorem pnX0_isTooSmall : plainName kX0_isTooSmall.1.cls = true := by decide
def kX0_canTake : q_MI := (yX0_canTake, cX0_canTake, 2, (some .boolean), 1, 21)
theorem pnX0_canTake : plainName kX0_canTake.1.cls = true := by decide
def kX0_levelsFrom : q_MI := (yX0_levelsFrom, cX0_levelsFrom, 2, (some .int), 0, 0)
theorem pnX0_levelsFrom : plainName kX0_levelsFrom.1.cls = true := by decide
def kX0_memberAt : q_MI := (yX0_memberAt, cX0_memberAt, 2, (some .int), 0, 0)
theorem pnX0_memberAt : plainName kX0_memberAt.1.cls = true := by decide
def kX0_add : q_MI := (yX0_add, cX0_add, 2, none, 0, 0)
theorem pnX0_add : plainName kX0_add.1.cls = true := by decide
def kX0_remove : q_MI := (yX0_remove, cX0_remove, 4, none, 0, 0)
theorem pnX0_remove : plainName kX0_remove.1.cls = true := by decide
def kX1_init : q_MI := (yX1_init, cX1_init, 2, none, 3, 62)
theorem pnX1_init : plainName kX1_init.1.cls = true := by decide
def kX1_note : q_MI := (yX1_note, cX1_note, 2, none, 3, 64)
theorem pnX1_note : plainName kX1_note.1.cls = true := by decide
def kX1_keep : q_MI := (yX1_keep, cX1_keep, 2, (some .int), 1, 21)
theorem pnX1_keep : plainName kX1_keep.1.cls = true := by decide
def kX1_restoreInto : q_MI := (yX1_restoreInto, cX1_restoreInto, 2, (some .int), 3, 64)
theorem pnX1_restoreInto : plainName kX1_restoreInto.1.cls = true := by decide
def kX2_init : q_MI := (yX2_init, cX2_init, 2, none, 1, 20)
theorem pnX2_init : plainName kX2_init.1.cls = true := by decide
def kX2_copyFrom : q_MI := (yX2_copyFrom, cX2_copyFrom, 2, none, 0, 0)
theorem pnX2_copyFrom : plainName kX2_copyFrom.1.cls = true := by decide
def kX2_forget : q_MI := (yX2_forget, cX2_forget, 1, none, 1, 23)
theorem pnX2_forget : plainName kX2_forget.1.cls = true := by decide
def kX2_setWishes : q_MI := (yX2_setWishes, cX2_setWishes, 4, none, 0, 0)
theorem pnX2_setWishes : plainName kX2_setWishes.1.cls = true := by decide
def kX2_wishAt : q_MI := (yX2_wishAt, cX2_wishAt, 2, (some .int), 0, 0)
theorem pnX2_wishAt : plainName kX2_wishAt.1.cls = true := by decide
def kX2_rankOf : q_MI := (yX2_rankOf, cX2_rankOf, 2, (some .int), 0, 0)
theorem pnX2_rankOf : plainName kX2_rankOf.1.cls = true := by decide
def kX2_rankHeld : q_MI := (yX2_rankHeld, cX2_rankHeld, 1, (some .int), 1, 21)
theorem pnX2_rankHeld : plainName kX2_rankHeld.1.cls = true := by decide
def kX2_waitsFor : q_MI := (yX2_waitsFor, cX2_waitsFor, 3, (some .boolean), 2, 41)
theorem pnX2_waitsFor : plainName kX2_waitsFor.1.cls = true := by decide
def kX3_init : q_MI := (yX3_init, cX3_init, 2, none, 2, 41)
theorem pnX3_init : plainName kX3_init.1.cls = true := by decide
def kX3_copyFrom : q_MI := (yX3_copyFrom, cX3_copyFrom, 3, none, 2, 42)
theorem pnX3_copyFrom : plainName kX3_copyFrom.1.cls = true := by decide
def kX3_courseAt : q_MI := (yX3_courseAt, cX3_courseAt, 2, (some (.object "EveningClasses$Course")), 0, 0)
theorem pnX3_courseAt : plainName kX3_courseAt.1.cls = true := by decide
def kX3_personAt : q_MI := (yX3_personAt, cX3_personAt, 2, (some (.object "EveningClasses$Person")), 0, 0)
theorem pnX3_personAt : plainName kX3_personAt.1.cls = true := by decide
def kX3_isRoom : q_MI := (yX3_isRoom, cX3_isRoom, 2, (some .boolean), 0, 0)
theorem pnX3_isRoom : plainName kX3_isRoom.1.cls = true := by decide
def kX3_chairsOf : q_MI := (yX3_chairsOf, cX3_chairsOf, 2, (some .int), 0, 0)
theorem pnX3_chairsOf : plainName kX3_chairsOf.1.cls = true := by decide
def kX3_addCourse : q_MI := (yX3_addCourse, cX3_addCourse, 6, (some .int), 2, 44)
theorem pnX3_addCourse : plainName kX3_addCourse.1.cls = true := by decide
def kX3_addRoom : q_MI := (yX3_addRoom, cX3_addRoom, 2, (some .int), 1, 22)
theorem pnX3_addRoom : plainName kX3_addRoom.1.cls = true := by decide
def kX3_addPerson : q_MI := (yX3_addPerson, cX3_addPerson, 5, (some .int), 3, 69)
theorem pnX3_addPerson : plainName kX3_addPerson.1.cls = true := by decide
def kX3_changeWishes : q_MI := (yX3_changeWishes, cX3_changeWishes, 6, (some .int), 3, 69)
theorem pnX3_changeWishes : plainName kX3_changeWishes.1.cls = true := by decide
def kX3_sendAway : q_MI := (yX3_sendAway, cX3_sendAway, 4, (some .int), 3, 69)
theorem pnX3_sendAway : plainName kX3_sendAway.1.cls = true := by decide
def kX3_areWishes : q_MI := (yX3_areWishes, cX3_areWishes, 4, (some .boolean), 1, 21)
theorem pnX3_areWishes : plainName kX3_areWishes.1.cls = true := by decide
def kX3_closeTerm : q_MI := (yX3_closeTerm, cX3_closeTerm, 4, (some .int), 3, 72)
theorem pnX3_closeTerm : plainName kX3_closeTerm.1.cls = true := by decide
def kX3_beginNextTerm : q_MI := (yX3_beginNextTerm, cX3_beginNextTerm, 5, (some .int), 2, 43)
theorem pnX3_beginNextTerm : plainName kX3_beginNextTerm.1.cls = true := by decide
def kX3_settle : q_MI := (yX3_settle, cX3_settle, 5, none, 2, 45)
theorem pnX3_settle : plainName kX3_settle.1.cls = true := by decide
def kX3_betterFor : q_MI := (yX3_betterFor, cX3_betterFor, 5, (some (.object "EveningClasses$Course")), 1, 21)
theorem pnX3_betterFor : plainName kX3_betterFor.1.cls = true := by decide
def kX3_comeInto : q_MI := (yX3_comeInto, cX3_comeInto, 3, none, 1, 21)
theorem pnX3_comeInto : plainName kX3_comeInto.1.cls = true := by decide
def kX3_goOut : q_MI := (yX3_goOut, cX3_goOut, 3, none, 1, 23)
theorem pnX3_goOut : plainName kX3_goOut.1.cls = true := by decide
def kX3_smallestTooSmall : q_MI := (yX3_smallestTooSmall, cX3_smallestTooSmall, 6, (some (.object "EveningClasses$Course")), 1, 20)
theorem pnX3_smallestTooSmall : plainName kX3_smallestTooSmall.1.cls = true := by decide
def kX3_mergingOf : q_MI := (yX3_mergingOf, cX3_mergingOf, 7, (some (.object "EveningClasses$Course")), 2, 44)
theorem pnX3_mergingOf : plainName kX3_mergingOf.1.cls = true := by decide
def kX3_isBetterMerging : q_MI := (yX3_isBetterMerging, cX3_isBetterMerging, 4, (some .boolean), 1, 21)
theorem pnX3_isBetterMerging : plainName kX3_isBetterMerging.1.cls = true := by decide
def kX3_merge : q_MI := (yX3_merge, cX3_merge, 6, none, 1, 21)
theorem pnX3_merge : plainName kX3_merge.1.cls = true := by decide
def kX3_cancel : q_MI := (yX3_cancel, cX3_cancel, 7, none, 2, 45)
theorem pnX3_cancel : plainName kX3_cancel.1.cls = true := by decide
def kX3_findsRoom : q_MI := (yX3_findsRoom, cX3_findsRoom, 3, (some .boolean), 2, 50)
theorem pnX3_findsRoom : plainName kX3_findsRoom.1.cls = true := by decide
def kX3_greatestOpen : q_MI := (yX3_greatestOpen, cX3_greatestOpen, 6, (some (.object "EveningClasses$Course")), 0, 0)
theorem pnX3_greatestOpen : plainName kX3_greatestOpen.1.cls = true := by decide
def kX3_roomFor : q_MI := (yX3_roomFor, cX3_roomFor, 5, (some .int), 1, 26)
theorem pnX3_roomFor : plainName kX3_roomFor.1.cls = true := by decide
def kX3_isGiven : q_MI := (yX3_isGiven, cX3_isGiven, 7, (some .boolean), 0, 0)
theorem pnX3_isGiven : plainName kX3_isGiven.1.cls = true := by decide
def kX3_coursesIn : q_MI := (yX3_coursesIn, cX3_coursesIn, 7, (some .int), 0, 0)
theorem pnX3_coursesIn : plainName kX3_coursesIn.1.cls = true := by decide
def kX3_chairsLeft : q_MI := (yX3_chairsLeft, cX3_chairsLeft, 8, (some .int), 1, 21)
theorem pnX3_chairsLeft : plainName kX3_chairsLeft.1.cls = true := by decide
def kX3_coursesThatAre : q_MI := (yX3_coursesThatAre, cX3_coursesThatAre, 7, (some .int), 0, 0)
theorem pnX3_coursesThatAre : plainName kX3_coursesThatAre.1.cls = true := by decide
def kX3_coursesWithPlace : q_MI := (yX3_coursesWithPlace, cX3_coursesWithPlace, 6, (some .int), 1, 20)
theorem pnX3_coursesWithPlace : plainName kX3_coursesWithPlace.1.cls = true := by decide
def kX3_howManyWait : q_MI := (yX3_howManyWait, cX3_howManyWait, 7, (some .int), 3, 63)
theorem pnX3_howManyWait : plainName kX3_howManyWait.1.cls = true := by decide
def kX3_waiterAt : q_MI := (yX3_waiterAt, cX3_waiterAt, 8, (some .int), 3, 63)
theorem pnX3_waiterAt : plainName kX3_waiterAt.1.cls = true := by decide
def kX3_peopleHere : q_MI := (yX3_peopleHere, cX3_peopleHere, 6, (some .int), 0, 0)
theorem pnX3_peopleHere : plainName kX3_peopleHere.1.cls = true := by decide
def kX3_peopleInClasses : q_MI := (yX3_peopleInClasses, cX3_peopleInClasses, 6, (some .int), 0, 0)
theorem pnX3_peopleInClasses : plainName kX3_peopleInClasses.1.cls = true := by decide
def kX3_ranksTogether : q_MI := (yX3_ranksTogether, cX3_ranksTogether, 6, (some .int), 2, 41)
theorem pnX3_ranksTogether : plainName kX3_ranksTogether.1.cls = true := by decide
def kX3_paidForClasses : q_MI := (yX3_paidForClasses, cX3_paidForClasses, 6, (some .int), 0, 0)
theorem pnX3_paidForClasses : plainName kX3_paidForClasses.1.cls = true := by decide
def kX4_init : q_MI := (yX4_init, cX4_init, 1, none, 1, 20)
theorem pnX4_init : plainName kX4_init.1.cls = true := by decide
def kX6_init : q_MI := (yX6_init, cX6_init, 1, none, 4, 83)
theorem pnX6_init : plainName kX6_init.1.cls = true := by decide
def kX6_course : q_MI := (yX6_course, cX6_course, 5, (some .int), 4, 85)
theorem pnX6_course : plainName kX6_course.1.cls = true := by decide
def kX6_room : q_MI := (yX6_room, cX6_room, 2, (some .int), 4, 85)
theorem pnX6_room : plainName kX6_room.1.cls = true := by decide
def kX6_join : q_MI := (yX6_join, cX6_join, 4, (some .int), 4, 93)
theorem pnX6_join : plainName kX6_join.1.cls = true := by decide
def kX6_wish : q_MI := (yX6_wish, cX6_wish, 5, (some .int), 4, 94)
theorem pnX6_wish : plainName kX6_wish.1.cls = true := by decide
def kX6_leave : q_MI := (yX6_leave, cX6_leave, 2, (some .int), 4, 92)
theorem pnX6_leave : plainName kX6_leave.1.cls = true := by decide
def kX6_close : q_MI := (yX6_close, cX6_close, 1, (some .int), 4, 95)
theorem pnX6_close : plainName kX6_close.1.cls = true := by decide
def kX6_term : q_MI := (yX6_term, cX6_term, 1, (some .int), 4, 85)
theorem pnX6_term : plainName kX6_term.1.cls = true := by decide
def kX6_courseOf : q_MI := (yX6_courseOf, cX6_courseOf, 4, (some .int), 4, 89)
theorem pnX6_courseOf : plainName kX6_courseOf.1.cls = true := by decide
def kX6_member : q_MI := (yX6_member, cX6_member, 4, (some .int), 1, 21)
theorem pnX6_member : plainName kX6_member.1.cls = true := by decide
def kX6_waits : q_MI := (yX6_waits, cX6_waits, 3, (some .int), 4, 90)
theorem pnX6_waits : plainName kX6_waits.1.cls = true := by decide
def kX6_personOf : q_MI := (yX6_personOf, cX6_personOf, 4, (some .int), 2, 41)
theorem pnX6_personOf : plainName kX6_personOf.1.cls = true := by decide
def kX6_roomOf : q_MI := (yX6_roomOf, cX6_roomOf, 3, (some .int), 2, 48)
theorem pnX6_roomOf : plainName kX6_roomOf.1.cls = true := by decide
def kX6_ifClose : q_MI := (yX6_ifClose, cX6_ifClose, 2, (some .int), 4, 95)
theorem pnX6_ifClose : plainName kX6_ifClose.1.cls = true := by decide
def kX6_beside : q_MI := (yX6_beside, cX6_beside, 4, (some .int), 3, 70)
theorem pnX6_beside : plainName kX6_beside.1.cls = true := by decide
def kX6_ifJoin : q_MI := (yX6_ifJoin, cX6_ifJoin, 3, (some .int), 1, 21)
theorem pnX6_ifJoin : plainName kX6_ifJoin.1.cls = true := by decide
def kX6_mean : q_MI := (yX6_mean, cX6_mean, 2, (some .int), 3, 66)
theorem pnX6_mean : plainName kX6_mean.1.cls = true := by decide
def kX6_count : q_MI := (yX6_count, cX6_count, 2, (some .int), 2, 45)
theorem pnX6_count : plainName kX6_count.1.cls = true := by decide
def kX6_undo : q_MI := (yX6_undo, cX6_undo, 1, (some .int), 4, 85)
theorem pnX6_undo : plainName kX6_undo.1.cls = true := by decide
def kX6_isOutside : q_MI := (yX6_isOutside, cX6_isOutside, 3, (some .boolean), 0, 0)
theorem pnX6_isOutside : plainName kX6_isOutside.1.cls = true := by decide
def kX6_foundOrNot : q_MI := (yX6_foundOrNot, cX6_foundOrNot, 1, (some .int), 0, 0)
theorem pnX6_foundOrNot : plainName kX6_foundOrNot.1.cls = true := by decide
def kX6_bitsOf : q_MI := (yX6_bitsOf, cX6_bitsOf, 4, (some .int), 0, 0)
theorem pnX6_bitsOf : plainName kX6_bitsOf.1.cls = true := by decide
def kJ6_bitCount_0f7a4 : q_MI := (yJ6_bitCount_0f7a4, cJ6_bitCount_0f7a4, 1, (some .int), 0, 0)
theorem pnJ6_bitCount_0f7a4 : plainName kJ6_bitCount_0f7a4.1.cls = true := by decide
def kL_cell : q_MI := (yL_cell, cL_cell, 2, (some .int), 0, 0)
theorem pnL_cell : plainName kL_cell.1.cls = true := by decide
def kL_low : q_MI := (yL_low, cL_low, 2, (some .int), 0, 0)
theorem pnL_low : plainName kL_low.1.cls = true := by decide
def kL_mild : q_MI := (yL_mild, cL_mild, 1, (some .int), 0, 0)
theorem pnL_mild : plainName kL_mild.1.cls = true := by decide
def kL_second : q_MI := (yL_second, cL_second, 4, (some .int), 1, 21)
theorem pnL_second : plainName kL_second.1.cls = true := by decide
def kL_third : q_MI := (yL_third, cL_third, 5, (some .int), 1, 21)
theorem pnL_third : plainName kL_third.1.cls = true := by decide
def kL_does : q_MI := (yL_does, cL_does, 8, (some .int), 5, 118)
theorem pnL_does : plainName kL_does.1.cls = true := by decide
def kL_bits : q_MI := (yL_bits, cL_bits, 3, (some .int), 0, 0)
theorem pnL_bits : plainName kL_bits.1.cls = true := by decide
def kL_arePeopleSo : q_MI := (yL_arePeopleSo, cL_arePeopleSo, 10, (some .boolean), 5, 112)
theorem pnL_arePeopleSo : plainName kL_arePeopleSo.1.cls = true := by decide
def kL_areCoursesSo : q_MI := (yL_areCoursesSo, cL_areCoursesSo, 14, (some .boolean), 5, 112)
theorem pnL_areCoursesSo : plainName kL_areCoursesSo.1.cls = true := by decide
def kL_isCloseSo : q_MI := (yL_isCloseSo, cL_isCloseSo, 12, (some .boolean), 6, 145)
theorem pnL_isCloseSo : plainName kL_isCloseSo.1.cls = true := by decide
def kL_areIfsSo : q_MI := (yL_areIfsSo, cL_areIfsSo, 11, (some .boolean), 5, 116)
theorem pnL_areIfsSo : plainName kL_areIfsSo.1.cls = true := by decide
def kL_law : q_MI := (yL_law, cL_law, 8, (some .boolean), 7, 176)
theorem pnL_law : plainName kL_law.1.cls = true := by decide
