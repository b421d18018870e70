/-! method infos: name, code, locals, what is returned, frames and words below it -/
def kX0_init : q_MI := (yX0_init, cX0_init, 2, none, 1, 20)
theorem pnX0_init : plainName kX0_init.1.cls = true := by decide
def kX0_copyFrom : q_MI := (yX0_copyFrom, cX0_copyFrom, 2, none, 1, 21)
theorem pnX0_copyFrom : plainName kX0_copyFrom.1.cls = true := by decide
def kX0_begin : q_MI := (yX0_begin, cX0_begin, 5, none, 1, 20)
theorem pnX0_begin : plainName kX0_begin.1.cls = true := by decide
def kX0_reopen : q_MI := (yX0_reopen, cX0_reopen, 1, none, 0, 0)
theorem pnX0_reopen : plainName kX0_reopen.1.cls = true := by decide
def kX0_hasFreePlace : q_MI := (yX0_hasFreePlace, cX0_hasFreePlace, 1, (some .boolean), 0, 0)
theorem pnX0_hasFreePlace : plainName kX0_hasFreePlace.1.cls = true := by decide
def kX0_isTooSmall : q_MI := (yX0_isTooSmall, cX0_isTooSmall, 1, (some .boolean), 0, 0)
theorem pnX0_isTooSmall : plainName kX0_isTooSmall.1.cls = true := by decide
def kX0_canTake : q_MI := (yX0_canTake, cX0_canTake, 2, (some .boolean), 1, 21)
theorem pnX0_canTake : plainName kX0_canTake.1.cls = true := by decide
def kX0_levelsFrom : q_MI := (yX0_levelsFrom, cX0_levelsFrom, 2, (some .int), 0, 0)
theorem pnX0_levelsFrom : plainName kX0_levelsFrom.1.cls = true := by decide
def kX0_memberAt : q_MI := (yX0_memberAt, cX0_memberAt, 2, (some .int), 0, 0)
theorem pnX0_memberAt : plainName kX0_memberAt.1.cls = true := by decide
def kX0_add : q_MI := (yX0_add, cX0_add, 2, none, 0, 0)
theorem pnX0_add : plainName kX0_add.1.cls = true := by decide
def kX0_remove : q_MI := (yX0_remove, cX0_remove, 4, none, 0, 0)
theorem pnX0_remove : plainName kX0_remove.1.cls = true := by decide
def kX1_init : q_MI := (yX1_init, cX1_init, 2, none, 3, 62)
theorem pnX1_init : plainName kX1_init.1.cls = true := by decide
def kX1_note : q_MI := (yX1_note, cX1_note, 2, none, 3, 64)
theorem pnX1_note : plainName kX1_note.1.cls = true := by decide
def kX1_keep : q_MI := (yX1_keep, cX1_keep, 2, (some .int), 1, 21)
theorem pnX1_keep : plainName kX1_keep.1.cls = true := by decide
def kX1_restoreInto : q_MI := (yX1_restoreInto, cX1_restoreInto, 2, (some .int), 3, 64)
theorem pnX1_restoreInto : plainName kX1_restoreInto.1.cls = true := by decide
def kX2_init : q_MI := (yX2_init, cX2_init, 2, none, 1, 20)
theorem pnX2_init : plainName kX2_init.1.cls = true := by decide
def kX2_copyFrom : q_MI := (yX2_copyFrom, cX2_copyFrom, 2, none, 0, 0)
theorem pnX2_copyFrom : plainName kX2_copyFrom.1.cls = true := by decide
def kX2_forget : q_MI := (yX2_forget, cX2_forget, 1, none, 1, 23)
theorem pnX2_forget : plainName kX2_forget.1.cls = true := by decide
def kX2_setWishes : q_MI := (yX2_setWishes, cX2_setWishes, 4, none, 0, 0)
theorem pnX2_setWishes : plainName kX2_setWishes.1.cls = true := by decide
def kX2_wishAt : q_MI := (yX2_wishAt, cX2_wishAt, 2, (some .int), 0, 0)
theorem pnX2_wishAt : plainName kX2_wishAt.1.cls = true := by decide
def kX2_rankOf : q_MI := (yX2_rankOf, cX2_rankOf, 2, (some .int), 0, 0)
theorem pnX2_rankOf : plainName kX2_rankOf.1.cls = true := by decide
def kX2_rankHeld : q_MI := (yX2_rankHeld, cX2_rankHeld, 1, (some .int), 1, 21)
theorem pnX2_rankHeld : plainName kX2_rankHeld.1.cls = true := by decide
def kX2_waitsFor : q_MI := (yX2_waitsFor, cX2_waitsFor, 3, (some .boolean), 2, 41)
theorem pnX2_waitsFor : plainName kX2_waitsFor.1.cls = true := by decide
def kX3_init : q_MI := (yX3_init, cX3_init, 2, none, 2, 41)
theorem pnX3_init : plainName kX3_init.1.cls = true := by decide
def kX3_copyFrom : q_MI := (yX3_copyFrom, cX3_copyFrom, 3, none, 2, 42)
theorem pnX3_copyFrom : plainName kX3_copyFrom.1.cls = true := by decide
def kX3_courseAt : q_MI := (yX3_courseAt, cX3_courseAt, 2, (some (.object "EveningClasses$Course")), 0, 0)
theorem pnX3_courseAt : plainName kX3_courseAt.1.cls = true := by decide
def kX3_personAt : q_MI := (yX3_personAt, cX3_personAt, 2, (some (.object "EveningClasses$Person")), 0, 0)
theorem pnX3_personAt : plainName kX3_personAt.1.cls = true := by decide
def kX3_isRoom : q_MI := (yX3_isRoom, cX3_isRoom, 2, (some .boolean), 0, 0)
theorem pnX3_isRoom : plainName kX3_isRoom.1.cls = true := by decide
def kX3_chairsOf : q_MI := (yX3_chairsOf, cX3_chairsOf, 2, (some .int), 0, 0)
theorem pnX3_chairsOf : plainName kX3_chairsOf.1.cls = true := by decide
def kX3_addCourse : q_MI := (yX3_addCourse, cX3_addCourse, 6, (some .int), 2, 44)
theorem pnX3_addCourse : plainName kX3_addCourse.1.cls = true := by decide
def kX3_addRoom : q_MI := (yX3_addRoom, cX3_addRoom, 2, (some .int), 1, 22)
theorem pnX3_addRoom : plainName kX3_addRoom.1.cls = true := by decide
def kX3_addPerson : q_MI := (yX3_addPerson, cX3_addPerson, 5, (some .int), 3, 69)
theorem pnX3_addPerson : plainName kX3_addPerson.1.cls = true := by decide
def kX3_changeWishes : q_MI := (yX3_changeWishes, cX3_changeWishes, 6, (some .int), 3, 69)
theorem pnX3_changeWishes : plainName kX3_changeWishes.1.cls = true := by decide
def kX3_sendAway : q_MI := (yX3_sendAway, cX3_sendAway, 4, (some .int), 3, 69)
theorem pnX3_sendAway : plainName kX3_sendAway.1.cls = true := by decide
def kX3_areWishes : q_MI := (yX3_areWishes, cX3_areWishes, 4, (some .boolean), 1, 21)
theorem pnX3_areWishes : plainName kX3_areWishes.1.cls = true := by decide
def kX3_closeTerm : q_MI := (yX3_closeTerm, cX3_closeTerm, 4, (some .int), 3, 72)
theorem pnX3_closeTerm : plainName kX3_closeTerm.1.cls = true := by decide
def kX3_beginNextTerm : q_MI := (yX3_beginNextTerm, cX3_beginNextTerm, 5, (some .int), 2, 43)
theorem pnX3_beginNextTerm : plainName kX3_beginNextTerm.1.cls = true := by decide
def kX3_settle : q_MI := (yX3_settle, cX3_settle, 5, none, 2, 45)
theorem pnX3_settle : plainName kX3_settle.1.cls = true := by decide
def kX3_betterFor : q_MI := (yX3_betterFor, cX3_betterFor, 5, (some (.object "EveningClasses$Course")), 1, 21)
theorem pnX3_betterFor : plainName kX3_betterFor.1.cls = true := by decide
def kX3_comeInto : q_MI := (yX3_comeInto, cX3_comeInto, 3, none, 1, 21)
theorem pnX3_comeInto : plainName kX3_comeInto.1.cls = true := by decide
def kX3_goOut : q_MI := (yX3_goOut, cX3_goOut, 3, none, 1, 23)
theorem pnX3_goOut : plainName kX3_goOut.1.cls = true := by decide
def kX3_smallestTooSmall : q_MI := (yX3_smallestTooSmall, cX3_smallestTooSmall, 6, (some (.object "EveningClasses$Course")), 1, 20)
theorem pnX3_smallestTooSmall : plainName kX3_smallestTooSmall.1.cls = true := by decide
def kX3_mergingOf : q_MI := (yX3_mergingOf, cX3_mergingOf, 7, (some (.object "EveningClasses$Course")), 2, 44)
theorem pnX3_mergingOf : plainName kX3_mergingOf.1.cls = true := by decide
def kX3_isBetterMerging : q_MI := (yX3_isBetterMerging, cX3_isBetterMerging, 4, (some .boolean), 1, 21)
theorem pnX3_isBetterMerging : plainName kX3_isBetterMerging.1.cls = true := by decide
def kX3_merge : q_MI := (yX3_merge, cX3_merge, 6, none, 1, 21)
theorem pnX3_merge : plainName kX3_merge.1.cls = true := by decide
def kX3_cancel : q_MI := (yX3_cancel, cX3_cancel, 7, none, 2, 45)
theorem pnX3_cancel : plainName kX3_cancel.1.cls = true := by decide
def kX3_findsRoom : q_MI := (yX3_findsRoom, cX3_findsRoom, 3, (some .boolean), 2, 50)
theorem pnX3_findsRoom : plainName kX3_findsRoom.1.cls = true := by decide
def kX3_greatestOpen : q_MI := (yX3_greatestOpen, cX3_greatestOpen, 6, (some (.object "EveningClasses$Course")), 0, 0)
theorem pnX3_greatestOpen : plainName kX3_greatestOpen.1.cls = true := by decide
def kX3_roomFor : q_MI := (yX3_roomFor, cX3_roomFor, 5, (some .int), 1, 26)
theorem pnX3_roomFor : plainName kX3_roomFor.1.cls = true := by decide
def kX3_isGiven : q_MI := (yX3_isGiven, cX3_isGiven, 7, (some .boolean), 0, 0)
theorem pnX3_isGiven : plainName kX3_isGiven.1.cls = true := by decide
def kX3_coursesIn : q_MI := (yX3_coursesIn, cX3_coursesIn, 7, (some .int), 0, 0)
theorem pnX3_coursesIn : plainName kX3_coursesIn.1.cls = true := by decide
def kX3_chairsLeft : q_MI := (yX3_chairsLeft, cX3_chairsLeft, 8, (some .int), 1, 21)
theorem pnX3_chairsLeft : plainName kX3_chairsLeft.1.cls = true := by decide
def kX3_coursesThatAre : q_MI := (yX3_coursesThatAre, cX3_coursesThatAre, 7, (some .int), 0, 0)
theorem pnX3_coursesThatAre : plainName kX3_coursesThatAre.1.cls = true := by decide
def kX3_coursesWithPlace : q_MI := (yX3_coursesWithPlace, cX3_coursesWithPlace, 6, (some .int), 1, 20)
theorem pnX3_coursesWithPlace : plainName kX3_coursesWithPlace.1.cls = true := by decide
def kX3_howManyWait : q_MI := (yX3_howManyWait, cX3_howManyWait, 7, (some .int), 3, 63)
theorem pnX3_howManyWait : plainName kX3_howManyWait.1.cls = true := by decide
def kX3_waiterAt : q_MI := (yX3_waiterAt, cX3_waiterAt, 8, (some .int), 3, 63)
theorem pnX3_waiterAt : plainName kX3_waiterAt.1.cls = true := by decide
def kX3_peopleHere : q_MI := (yX3_peopleHere, cX3_peopleHere, 6, (some .int), 0, 0)
theorem pnX3_peopleHere : plainName kX3_peopleHere.1.cls = true := by decide
def kX3_peopleInClasses : q_MI := (yX3_peopleInClasses, cX3_peopleInClasses, 6, (some .int), 0, 0)
theorem pnX3_peopleInClasses : plainName kX3_peopleInClasses.1.cls = true := by decide
def kX3_ranksTogether : q_MI := (yX3_ranksTogether, cX3_ranksTogether, 6, (some .int), 2, 41)
theorem pnX3_ranksTogether : plainName kX3_ranksTogether.1.cls = true := by decide
def kX3_paidForClasses : q_MI := (yX3_paidForClasses, cX3_paidForClasses, 6, (some .int), 0, 0)
theorem pnX3_paidForClasses : plainName kX3_paidForClasses.1.cls = true := by decide
def kX4_init : q_MI := (yX4_init, cX4_init, 1, none, 1, 20)
theorem pnX4_init : plainName kX4_init.1.cls = true := by decide
def kX4_append : q_MI := (yX4_append, cX4_append, 2, (some .int), 1, 22)
theorem pnX4_append : plainName kX4_append.1.cls = true := by decide
def kX4_playOn : q_MI := (yX4_playOn, cX4_playOn, 7, none, 7, 156)
theorem pnX4_playOn : plainName kX4_playOn.1.cls = true := by decide
def kX4_answerTo : q_MI := (yX4_answerTo, cX4_answerTo, 3, (some .int), 4, 95)
theorem pnX4_answerTo : plainName kX4_answerTo.1.cls = true := by decide
def kX4_wordAt : q_MI := (yX4_wordAt, cX4_wordAt, 7, (some (.object "EveningClasses$Word")), 6, 130)
theorem pnX4_wordAt : plainName kX4_wordAt.1.cls = true := by decide
def kX4_isBetween : q_MI := (yX4_isBetween, cX4_isBetween, 5, (some .boolean), 5, 106)
theorem pnX4_isBetween : plainName kX4_isBetween.1.cls = true := by decide
def kX4_readOrder : q_MI := (yX4_readOrder, cX4_readOrder, 5, (some .int), 3, 68)
theorem pnX4_readOrder : plainName kX4_readOrder.1.cls = true := by decide
def kX4_readNumbers : q_MI := (yX4_readNumbers, cX4_readNumbers, 7, (some .int), 2, 42)
theorem pnX4_readNumbers : plainName kX4_readNumbers.1.cls = true := by decide
def kX4_notFitting : q_MI := (yX4_notFitting, cX4_notFitting, 3, (some .int), 0, 0)
theorem pnX4_notFitting : plainName kX4_notFitting.1.cls = true := by decide
def kX4_characterAt : q_MI := (yX4_characterAt, cX4_characterAt, 2, (some .char), 0, 0)
theorem pnX4_characterAt : plainName kX4_characterAt.1.cls = true := by decide
def kX4_isLetter : q_MI := (yX4_isLetter, cX4_isLetter, 2, (some .boolean), 1, 21)
theorem pnX4_isLetter : plainName kX4_isLetter.1.cls = true := by decide
def kX4_isDigit : q_MI := (yX4_isDigit, cX4_isDigit, 2, (some .boolean), 1, 21)
theorem pnX4_isDigit : plainName kX4_isDigit.1.cls = true := by decide
def kX4_numberAt : q_MI := (yX4_numberAt, cX4_numberAt, 2, (some .int), 0, 0)
theorem pnX4_numberAt : plainName kX4_numberAt.1.cls = true := by decide
def kX6_init : q_MI := (yX6_init, cX6_init, 1, none, 4, 83)
theorem pnX6_init : plainName kX6_init.1.cls = true := by decide
def kX6_course : q_MI := (yX6_course, cX6_course, 5, (some .int), 4, 85)
theorem pnX6_course : plainName kX6_course.1.cls = true := by decide
def kX6_room : q_MI := (yX6_room, cX6_room, 2, (some .int), 4, 85)
theorem pnX6_room : plainName kX6_room.1.cls = true := by decide
def kX6_join : q_MI := (yX6_join, cX6_join, 4, (some .int), 4, 93)
theorem pnX6_join : plainName kX6_join.1.cls = true := by decide
def kX6_wish : q_MI := (yX6_wish, cX6_wish, 5, (some .int), 4, 94)
theorem pnX6_wish : plainName kX6_wish.1.cls = true := by decide
def kX6_leave : q_MI := (yX6_leave, cX6_leave, 2, (some .int), 4, 92)
theorem pnX6_leave : plainName kX6_leave.1.cls = true := by decide
def kX6_close : q_MI := (yX6_close, cX6_close, 1, (some .int), 4, 95)
theorem pnX6_close : plainName kX6_close.1.cls = true := by decide
def kX6_term : q_MI := (yX6_term, cX6_term, 1, (some .int), 4, 85)
theorem pnX6_term : plainName kX6_term.1.cls = true := by decide
def kX6_courseOf : q_MI := (yX6_courseOf, cX6_courseOf, 4, (some .int), 4, 89)
theorem pnX6_courseOf : plainName kX6_courseOf.1.cls = true := by decide
def kX6_member : q_MI := (yX6_member, cX6_member, 4, (some .int), 1, 21)
theorem pnX6_member : plainName kX6_member.1.cls = true := by decide
def kX6_waits : q_MI := (yX6_waits, cX6_waits, 3, (some .int), 4, 90)
theorem pnX6_waits : plainName kX6_waits.1.cls = true := by decide
def kX6_personOf : q_MI := (yX6_personOf, cX6_personOf, 4, (some .int), 2, 41)
theorem pnX6_personOf : plainName kX6_personOf.1.cls = true := by decide
def kX6_roomOf : q_MI := (yX6_roomOf, cX6_roomOf, 3, (some .int), 2, 48)
theorem pnX6_roomOf : plainName kX6_roomOf.1.cls = true := by decide
def kX6_ifClose : q_MI := (yX6_ifClose, cX6_ifClose, 2, (some .int), 4, 95)
theorem pnX6_ifClose : plainName kX6_ifClose.1.cls = true := by decide
def kX6_beside : q_MI := (yX6_beside, cX6_beside, 4, (some .int), 3, 70)
theorem pnX6_beside : plainName kX6_beside.1.cls = true := by decide
def kX6_ifJoin : q_MI := (yX6_ifJoin, cX6_ifJoin, 3, (some .int), 1, 21)
theorem pnX6_ifJoin : plainName kX6_ifJoin.1.cls = true := by decide
def kX6_mean : q_MI := (yX6_mean, cX6_mean, 2, (some .int), 3, 66)
theorem pnX6_mean : plainName kX6_mean.1.cls = true := by decide
def kX6_count : q_MI := (yX6_count, cX6_count, 2, (some .int), 2, 45)
theorem pnX6_count : plainName kX6_count.1.cls = true := by decide
def kX6_undo : q_MI := (yX6_undo, cX6_undo, 1, (some .int), 4, 85)
theorem pnX6_undo : plainName kX6_undo.1.cls = true := by decide
def kX6_type : q_MI := (yX6_type, cX6_type, 2, (some .int), 2, 43)
theorem pnX6_type : plainName kX6_type.1.cls = true := by decide
def kX6_clearText : q_MI := (yX6_clearText, cX6_clearText, 2, (some .int), 0, 0)
theorem pnX6_clearText : plainName kX6_clearText.1.cls = true := by decide
def kX6_fault : q_MI := (yX6_fault, cX6_fault, 2, (some .int), 8, 182)
theorem pnX6_fault : plainName kX6_fault.1.cls = true := by decide
def kX6_play : q_MI := (yX6_play, cX6_play, 1, (some .int), 8, 182)
theorem pnX6_play : plainName kX6_play.1.cls = true := by decide
def kX6_isOutside : q_MI := (yX6_isOutside, cX6_isOutside, 3, (some .boolean), 0, 0)
theorem pnX6_isOutside : plainName kX6_isOutside.1.cls = true := by decide
def kX6_foundOrNot : q_MI := (yX6_foundOrNot, cX6_foundOrNot, 1, (some .int), 0, 0)
theorem pnX6_foundOrNot : plainName kX6_foundOrNot.1.cls = true := by decide
def kX6_bitsOf : q_MI := (yX6_bitsOf, cX6_bitsOf, 4, (some .int), 0, 0)
theorem pnX6_bitsOf : plainName kX6_bitsOf.1.cls = true := by decide
def kX7_init : q_MI := (yX7_init, cX7_init, 1, none, 1, 20)
theorem pnX7_init : plainName kX7_init.1.cls = true := by decide
def kX7_in : q_MI := (yX7_in, cX7_in, 3, (some .boolean), 0, 0)
theorem pnX7_in : plainName kX7_in.1.cls = true := by decide
def kX7_putAside : q_MI := (yX7_putAside, cX7_putAside, 2, none, 0, 0)
theorem pnX7_putAside : plainName kX7_putAside.1.cls = true := by decide
def kX7_putBack : q_MI := (yX7_putBack, cX7_putBack, 2, none, 0, 0)
theorem pnX7_putBack : plainName kX7_putBack.1.cls = true := by decide
def kX7_change : q_MI := (yX7_change, cX7_change, 3, (some .int), 1, 21)
theorem pnX7_change : plainName kX7_change.1.cls = true := by decide
def kX7_at : q_MI := (yX7_at, cX7_at, 2, (some .int), 0, 0)
theorem pnX7_at : plainName kX7_at.1.cls = true := by decide
def kX7_of : q_MI := (yX7_of, cX7_of, 2, (some .int), 0, 0)
theorem pnX7_of : plainName kX7_of.1.cls = true := by decide
def kX7_isCourse : q_MI := (yX7_isCourse, cX7_isCourse, 2, (some .boolean), 1, 22)
theorem pnX7_isCourse : plainName kX7_isCourse.1.cls = true := by decide
def kX7_isPerson : q_MI := (yX7_isPerson, cX7_isPerson, 2, (some .boolean), 1, 22)
theorem pnX7_isPerson : plainName kX7_isPerson.1.cls = true := by decide
def kX7_isRoom : q_MI := (yX7_isRoom, cX7_isRoom, 2, (some .boolean), 1, 22)
theorem pnX7_isRoom : plainName kX7_isRoom.1.cls = true := by decide
def kX7_isHere : q_MI := (yX7_isHere, cX7_isHere, 2, (some .boolean), 1, 21)
theorem pnX7_isHere : plainName kX7_isHere.1.cls = true := by decide
def kX7_isOpen : q_MI := (yX7_isOpen, cX7_isOpen, 2, (some .boolean), 1, 21)
theorem pnX7_isOpen : plainName kX7_isOpen.1.cls = true := by decide
def kX7_people : q_MI := (yX7_people, cX7_people, 2, (some .int), 1, 21)
theorem pnX7_people : plainName kX7_people.1.cls = true := by decide
def kX7_hasFree : q_MI := (yX7_hasFree, cX7_hasFree, 2, (some .boolean), 2, 42)
theorem pnX7_hasFree : plainName kX7_hasFree.1.cls = true := by decide
def kX7_rankOf : q_MI := (yX7_rankOf, cX7_rankOf, 4, (some .int), 1, 21)
theorem pnX7_rankOf : plainName kX7_rankOf.1.cls = true := by decide
def kX7_rank : q_MI := (yX7_rank, cX7_rank, 3, (some .int), 2, 44)
theorem pnX7_rank : plainName kX7_rank.1.cls = true := by decide
def kX7_goesOut : q_MI := (yX7_goesOut, cX7_goesOut, 6, none, 2, 42)
theorem pnX7_goesOut : plainName kX7_goesOut.1.cls = true := by decide
def kX7_joins : q_MI := (yX7_joins, cX7_joins, 3, none, 2, 42)
theorem pnX7_joins : plainName kX7_joins.1.cls = true := by decide
def kX7_better : q_MI := (yX7_better, cX7_better, 5, (some .int), 3, 66)
theorem pnX7_better : plainName kX7_better.1.cls = true := by decide
def kX7_settle : q_MI := (yX7_settle, cX7_settle, 3, none, 4, 90)
theorem pnX7_settle : plainName kX7_settle.1.cls = true := by decide
def kX7_cancels : q_MI := (yX7_cancels, cX7_cancels, 3, none, 3, 67)
theorem pnX7_cancels : plainName kX7_cancels.1.cls = true := by decide
def kX7_levelsApart : q_MI := (yX7_levelsApart, cX7_levelsApart, 4, (some .int), 1, 21)
theorem pnX7_levelsApart : plainName kX7_levelsApart.1.cls = true := by decide
def kX7_fitting : q_MI := (yX7_fitting, cX7_fitting, 7, (some .int), 2, 44)
theorem pnX7_fitting : plainName kX7_fitting.1.cls = true := by decide
def kX7_merges : q_MI := (yX7_merges, cX7_merges, 7, none, 3, 64)
theorem pnX7_merges : plainName kX7_merges.1.cls = true := by decide
def kX7_smallest : q_MI := (yX7_smallest, cX7_smallest, 4, (some .int), 2, 42)
theorem pnX7_smallest : plainName kX7_smallest.1.cls = true := by decide
def kX7_greatest : q_MI := (yX7_greatest, cX7_greatest, 3, (some .int), 2, 42)
theorem pnX7_greatest : plainName kX7_greatest.1.cls = true := by decide
def kX7_isTaken : q_MI := (yX7_isTaken, cX7_isTaken, 5, (some .boolean), 1, 21)
theorem pnX7_isTaken : plainName kX7_isTaken.1.cls = true := by decide
def kX7_roomFor : q_MI := (yX7_roomFor, cX7_roomFor, 5, (some .int), 2, 45)
theorem pnX7_roomFor : plainName kX7_roomFor.1.cls = true := by decide
def kX7_closes : q_MI := (yX7_closes, cX7_closes, 3, none, 5, 112)
theorem pnX7_closes : plainName kX7_closes.1.cls = true := by decide
def kX7_inState : q_MI := (yX7_inState, cX7_inState, 4, (some .int), 1, 21)
theorem pnX7_inState : plainName kX7_inState.1.cls = true := by decide
def kX7_size : q_MI := (yX7_size, cX7_size, 3, (some .int), 0, 0)
theorem pnX7_size : plainName kX7_size.1.cls = true := by decide
def kX7_areWishes : q_MI := (yX7_areWishes, cX7_areWishes, 5, (some .boolean), 2, 43)
theorem pnX7_areWishes : plainName kX7_areWishes.1.cls = true := by decide
def kX7_wishes : q_MI := (yX7_wishes, cX7_wishes, 5, none, 1, 21)
theorem pnX7_wishes : plainName kX7_wishes.1.cls = true := by decide
def kX7_comes : q_MI := (yX7_comes, cX7_comes, 5, (some .int), 5, 112)
theorem pnX7_comes : plainName kX7_comes.1.cls = true := by decide
def kX7_changesWishes : q_MI := (yX7_changesWishes, cX7_changesWishes, 5, (some .int), 5, 112)
theorem pnX7_changesWishes : plainName kX7_changesWishes.1.cls = true := by decide
def kX7_leaves : q_MI := (yX7_leaves, cX7_leaves, 3, (some .int), 5, 112)
theorem pnX7_leaves : plainName kX7_leaves.1.cls = true := by decide
def kX7_closesTerm : q_MI := (yX7_closesTerm, cX7_closesTerm, 1, (some .int), 6, 134)
theorem pnX7_closesTerm : plainName kX7_closesTerm.1.cls = true := by decide
def kX7_paidNow : q_MI := (yX7_paidNow, cX7_paidNow, 3, (some .int), 1, 21)
theorem pnX7_paidNow : plainName kX7_paidNow.1.cls = true := by decide
def kX7_beginsTerm : q_MI := (yX7_beginsTerm, cX7_beginsTerm, 2, (some .int), 2, 43)
theorem pnX7_beginsTerm : plainName kX7_beginsTerm.1.cls = true := by decide
def kX7_course : q_MI := (yX7_course, cX7_course, 6, (some .int), 2, 43)
theorem pnX7_course : plainName kX7_course.1.cls = true := by decide
def kX7_room : q_MI := (yX7_room, cX7_room, 2, (some .int), 2, 43)
theorem pnX7_room : plainName kX7_room.1.cls = true := by decide
def kX7_join : q_MI := (yX7_join, cX7_join, 4, (some .int), 6, 136)
theorem pnX7_join : plainName kX7_join.1.cls = true := by decide
def kX7_wish : q_MI := (yX7_wish, cX7_wish, 5, (some .int), 6, 136)
theorem pnX7_wish : plainName kX7_wish.1.cls = true := by decide
def kX7_leave : q_MI := (yX7_leave, cX7_leave, 2, (some .int), 6, 134)
theorem pnX7_leave : plainName kX7_leave.1.cls = true := by decide
def kX7_close : q_MI := (yX7_close, cX7_close, 1, (some .int), 7, 154)
theorem pnX7_close : plainName kX7_close.1.cls = true := by decide
def kX7_term : q_MI := (yX7_term, cX7_term, 1, (some .int), 3, 64)
theorem pnX7_term : plainName kX7_term.1.cls = true := by decide
def kX7_waitsFor : q_MI := (yX7_waitsFor, cX7_waitsFor, 3, (some .boolean), 3, 66)
theorem pnX7_waitsFor : plainName kX7_waitsFor.1.cls = true := by decide
def kX7_waiting : q_MI := (yX7_waiting, cX7_waiting, 4, (some .int), 4, 88)
theorem pnX7_waiting : plainName kX7_waiting.1.cls = true := by decide
def kX7_told : q_MI := (yX7_told, cX7_told, 1, (some .int), 0, 0)
theorem pnX7_told : plainName kX7_told.1.cls = true := by decide
def kX7_courseOf : q_MI := (yX7_courseOf, cX7_courseOf, 4, (some .int), 5, 111)
theorem pnX7_courseOf : plainName kX7_courseOf.1.cls = true := by decide
def kX7_member : q_MI := (yX7_member, cX7_member, 3, (some .int), 2, 43)
theorem pnX7_member : plainName kX7_member.1.cls = true := by decide
def kX7_waits : q_MI := (yX7_waits, cX7_waits, 5, (some .int), 4, 88)
theorem pnX7_waits : plainName kX7_waits.1.cls = true := by decide
def kX7_personOf : q_MI := (yX7_personOf, cX7_personOf, 3, (some .int), 3, 66)
theorem pnX7_personOf : plainName kX7_personOf.1.cls = true := by decide
def kX7_roomOf : q_MI := (yX7_roomOf, cX7_roomOf, 6, (some .int), 2, 43)
theorem pnX7_roomOf : plainName kX7_roomOf.1.cls = true := by decide
def kX7_peopleInClasses : q_MI := (yX7_peopleInClasses, cX7_peopleInClasses, 3, (some .int), 2, 42)
theorem pnX7_peopleInClasses : plainName kX7_peopleInClasses.1.cls = true := by decide
def kX7_ifClose : q_MI := (yX7_ifClose, cX7_ifClose, 3, (some .int), 6, 134)
theorem pnX7_ifClose : plainName kX7_ifClose.1.cls = true := by decide
def kX7_beside : q_MI := (yX7_beside, cX7_beside, 2, (some .int), 3, 70)
theorem pnX7_beside : plainName kX7_beside.1.cls = true := by decide
def kX7_ifJoin : q_MI := (yX7_ifJoin, cX7_ifJoin, 2, (some .int), 3, 63)
theorem pnX7_ifJoin : plainName kX7_ifJoin.1.cls = true := by decide
def kX7_bitsOf : q_MI := (yX7_bitsOf, cX7_bitsOf, 3, (some .int), 0, 0)
theorem pnX7_bitsOf : plainName kX7_bitsOf.1.cls = true := by decide
def kX7_here : q_MI := (yX7_here, cX7_here, 3, (some .int), 1, 21)
theorem pnX7_here : plainName kX7_here.1.cls = true := by decide
def kX7_mean : q_MI := (yX7_mean, cX7_mean, 3, (some .int), 3, 66)
theorem pnX7_mean : plainName kX7_mean.1.cls = true := by decide
def kX7_withFree : q_MI := (yX7_withFree, cX7_withFree, 3, (some .int), 3, 63)
theorem pnX7_withFree : plainName kX7_withFree.1.cls = true := by decide
def kX7_count : q_MI := (yX7_count, cX7_count, 2, (some .int), 4, 85)
theorem pnX7_count : plainName kX7_count.1.cls = true := by decide
def kX7_undo : q_MI := (yX7_undo, cX7_undo, 2, (some .int), 0, 0)
theorem pnX7_undo : plainName kX7_undo.1.cls = true := by decide
def kX7_type : q_MI := (yX7_type, cX7_type, 2, (some .int), 1, 22)
theorem pnX7_type : plainName kX7_type.1.cls = true := by decide
def kX7_clearText : q_MI := (yX7_clearText, cX7_clearText, 2, (some .int), 0, 0)
theorem pnX7_clearText : plainName kX7_clearText.1.cls = true := by decide
def kX7_misfits : q_MI := (yX7_misfits, cX7_misfits, 2, none, 0, 0)
theorem pnX7_misfits : plainName kX7_misfits.1.cls = true := by decide
def kX7_isNext : q_MI := (yX7_isNext, cX7_isNext, 3, (some .boolean), 1, 22)
theorem pnX7_isNext : plainName kX7_isNext.1.cls = true := by decide
def kX7_spells : q_MI := (yX7_spells, cX7_spells, 6, (some .boolean), 0, 0)
theorem pnX7_spells : plainName kX7_spells.1.cls = true := by decide
def kX7_wordOf : q_MI := (yX7_wordOf, cX7_wordOf, 3, (some .int), 1, 25)
theorem pnX7_wordOf : plainName kX7_wordOf.1.cls = true := by decide
def kX7_readNumber : q_MI := (yX7_readNumber, cX7_readNumber, 2, none, 2, 44)
theorem pnX7_readNumber : plainName kX7_readNumber.1.cls = true := by decide
def kX7_readOrder : q_MI := (yX7_readOrder, cX7_readOrder, 4, none, 3, 65)
theorem pnX7_readOrder : plainName kX7_readOrder.1.cls = true := by decide
def kX7_doOrder : q_MI := (yX7_doOrder, cX7_doOrder, 4, (some .int), 7, 154)
theorem pnX7_doOrder : plainName kX7_doOrder.1.cls = true := by decide
def kX7_go : q_MI := (yX7_go, cX7_go, 3, (some .int), 8, 177)
theorem pnX7_go : plainName kX7_go.1.cls = true := by decide
def kX7_fault : q_MI := (yX7_fault, cX7_fault, 3, (some .int), 9, 199)
theorem pnX7_fault : plainName kX7_fault.1.cls = true := by decide
def kX7_play : q_MI := (yX7_play, cX7_play, 2, (some .int), 9, 199)
theorem pnX7_play : plainName kX7_play.1.cls = true := by decide
def kJ6_bitCount_0f7a4 : q_MI := (yJ6_bitCount_0f7a4, cJ6_bitCount_0f7a4, 1, (some .int), 0, 0)
theorem pnJ6_bitCount_0f7a4 : plainName kJ6_bitCount_0f7a4.1.cls = true := by decide
def kJ0_length_8abf5 : q_MI := (yJ0_length_8abf5, cJ0_length_8abf5, 1, (some .int), 1, 20)
theorem pnJ0_length_8abf5 : plainName kJ0_length_8abf5.1.cls = true := by decide
def kJ0_charAt_5068e : q_MI := (yJ0_charAt_5068e, cJ0_charAt_5068e, 2, (some .char), 4, 85)
theorem pnJ0_charAt_5068e : plainName kJ0_charAt_5068e.1.cls = true := by decide
def kJ0_coder_7d493 : q_MI := (yJ0_coder_7d493, cJ0_coder_7d493, 1, (some .byte), 0, 0)
theorem pnJ0_coder_7d493 : plainName kJ0_coder_7d493.1.cls = true := by decide
def kJ0_isLatin1_aae02 : q_MI := (yJ0_isLatin1_aae02, cJ0_isLatin1_aae02, 1, (some .boolean), 0, 0)
theorem pnJ0_isLatin1_aae02 : plainName kJ0_isLatin1_aae02.1.cls = true := by decide
def kJ0_checkIndex_df160 : q_MI := (yJ0_checkIndex_df160, cJ0_checkIndex_df160, 2, none, 1, 22)
theorem pnJ0_checkIndex_df160 : plainName kJ0_checkIndex_df160.1.cls = true := by decide
def kJ1_charAt_3b067 : q_MI := (yJ1_charAt_3b067, cJ1_charAt_3b067, 2, (some .char), 2, 43)
theorem pnJ1_charAt_3b067 : plainName kJ1_charAt_3b067.1.cls = true := by decide
def kJ3_checkIndex_8e157 : q_MI := (yJ3_checkIndex_8e157, cJ3_checkIndex_8e157, 3, (some .int), 0, 0)
theorem pnJ3_checkIndex_8e157 : plainName kJ3_checkIndex_8e157.1.cls = true := by decide
def kL_law : q_MI := (yL_law, cL_law, 4, (some .boolean), 10, 221)
theorem pnL_law : plainName kL_law.1.cls = true := by decide
