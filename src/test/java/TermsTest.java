/** Promises 7 and 8: close (merging, cancelling, rooms) and term. */
public final class TermsTest {
    private static final int INVALID = EveningClasses.INVALID_ARGUMENT;
    private static final int IMPOSSIBLE = EveningClasses.NOT_POSSIBLE;
    private static final int MISSING = EveningClasses.NOT_FOUND;

    private final Due due = new Due();

    public static void main(String[] args) {
        TermsTest test = new TermsTest();
        test.emptyTerm();
        test.eightClasses();
        test.mergeIntoNearestLevel();
        test.mergeNeedsPlaces();
        test.fewestPeopleAreTakenFirst();
        test.mergeOfMerged();
        test.feesOfMerged();
        test.mergedMoveOn();
        test.cancelledGetLaterWish();
        test.closedClassesTakeNobody();
        test.roomsToGreatestFirst();
        test.roomsByEvening();
        test.withoutRoomNothingIsSettled();
        test.promise8();
        test.due.end();
    }

    private static int kind(int subject, int level, int evening) {
        return subject + 4 * level + 16 * evening;
    }

    private static void come(EveningClasses x, int course, int people) {
        for (int person = 0; person < people; person++) {
            x.join(course, -1, -1);
        }
    }

    private void states(String name, EveningClasses x, int... states) {
        for (int course = 0; course < states.length; course++) {
            due.is(name + ": state of " + course, x.courseOf(course, 6), states[course]);
        }
    }

    private void emptyTerm() {
        EveningClasses x = new EveningClasses();
        due.is("close without classes", x.close(), 0);
        due.is("close again", x.close(), IMPOSSIBLE);
        due.is("closed", x.count(8), 1);
        due.is("closing is a change", x.count(16), 1);
        due.is("term", x.term(), 1);
        due.is("not closed", x.count(8), 0);
        due.is("term again", x.term(), IMPOSSIBLE);
        x.course(0, 1, 1, 1);
        due.is("close with an empty class", x.close(), 0);
        states("empty class", x, 2);
        due.is("empty class is too small", x.courseOf(0, 12), 2);
        due.is("cancelled", x.count(15), 1);
        due.is("open ones", x.count(5), 0);
        due.is("with a free place", x.count(6), 0);
        due.is("second term", x.term(), 2);
    }

    private void eightClasses() {
        EveningClasses x = new EveningClasses();
        x.room(1);
        x.room(1);
        for (int course = 0; course < 8; course++) {
            x.course(kind(course % 4, 3 * (course / 4), course / 2), 1, 1, 5);
        }
        due.is("close of eight empty ones", x.close(), 0);
        states("eight empty ones", x, 2, 2, 2, 2, 2, 2, 2, 2);
        due.is("cancelled", x.count(15), 8);
        x.term();
        for (int course = 0; course < 8; course++) {
            come(x, course, 1);
        }
        due.is("close of eight full ones", x.close(), 8);
        states("eight full ones", x, 1, 1, 1, 1, 1, 1, 1, 1);
        due.is("every second one", x.roomOf(0, 1), 1 + 4 + 16 + 64);
        due.is("the others", x.roomOf(1, 1), 2 + 8 + 32 + 128);
    }

    private void mergeIntoNearestLevel() {
        EveningClasses x = new EveningClasses();
        x.room(20);
        x.room(20);
        x.room(20);
        x.room(20);
        x.course(kind(1, 1, 0), 3, 9, 10);
        x.course(kind(1, 2, 0), 1, 9, 10);
        x.course(kind(1, 3, 0), 1, 20, 10);
        x.course(kind(2, 1, 0), 1, 20, 10);
        come(x, 0, 2);
        come(x, 1, 3);
        come(x, 2, 6);
        come(x, 3, 6);
        due.is("one level away", x.beside(0), 1);
        x.course(kind(1, 0, 4), 1, 9, 10);
        come(x, 4, 3);
        due.is("as near, as many, a higher number", x.beside(0), 1);
        come(x, 4, 1);
        due.is("as near, more people", x.beside(0), 4);
        x.course(kind(1, 1, 2), 1, 9, 10);
        come(x, 5, 1);
        due.is("nearer, with fewer people", x.beside(0), 5);
        due.is("close", x.close(), 5);
        states("nearest", x, 3, 1, 1, 1, 1, 1);
        due.is("merged into", x.courseOf(0, 10), 5);
        due.is("why", x.courseOf(0, 12), 1);
        due.is("people of the merged one", x.courseOf(0, 7), 0);
        due.is("people of the other", x.courseOf(5, 7), 3);
        int last = x.count(2) - 1;
        due.is("who was there stays ahead", x.member(5, 0), last);
        due.is("then the others in their order", x.member(5, 1), 0);
        due.is("then the others in their order", x.member(5, 2), 1);
        due.is("rank of a class that is no wish", x.personOf(0, 2), 3);
        due.is("comings with a merging", x.personOf(0, 4), 2);
        due.is("merged", x.count(14), 1);
        due.is("settlings without a merging", x.count(13), x.count(2));
        due.is("they wait for the merged one still", x.courseOf(0, 8), 2);
    }

    private void mergeNeedsPlaces() {
        EveningClasses x = new EveningClasses();
        x.course(kind(0, 0, 0), 3, 9, 10);
        x.course(kind(0, 0, 0), 1, 4, 10);
        x.course(kind(0, 1, 0), 1, 3, 10);
        x.room(9);
        x.room(9);
        come(x, 0, 2);
        come(x, 1, 3);
        come(x, 2, 1);
        due.is("most size is reached, not passed", x.beside(0), 2);
        come(x, 2, 1);
        due.is("no place in either", x.beside(0), MISSING);
        due.is("close", x.close(), 2);
        states("no place", x, 2, 1, 1);
        due.is("too small", x.courseOf(0, 12), 2);
        due.is("merged into none", x.courseOf(0, 10), MISSING);
        due.is("paid back", x.count(10), 20);
    }

    private void fewestPeopleAreTakenFirst() {
        EveningClasses x = new EveningClasses();
        x.course(kind(0, 0, 0), 5, 9, 10);
        x.course(kind(0, 0, 0), 5, 9, 20);
        x.course(kind(0, 0, 0), 5, 9, 30);
        x.room(9);
        come(x, 0, 3);
        come(x, 1, 2);
        come(x, 2, 2);
        due.is("close", x.close(), 1);
        states("fewest", x, 1, 3, 3);
        due.is("lowest of the smallest into the greatest", x.courseOf(1, 10), 0);
        due.is("the next one too", x.courseOf(2, 10), 0);
        due.is("in the order of taking", x.member(0, 3), 3);
        due.is("in the order of taking", x.member(0, 6), 6);
        due.is("paid back", x.count(10), 2 * 10 + 2 * 20);
    }

    private void mergeOfMerged() {
        EveningClasses x = new EveningClasses();
        x.course(kind(3, 0, 0), 2, 9, 9);
        x.course(kind(3, 1, 1), 5, 9, 8);
        x.course(kind(3, 2, 2), 5, 9, 7);
        x.room(6);
        come(x, 0, 1);
        come(x, 1, 1);
        come(x, 2, 4);
        due.is("close", x.close(), 1);
        states("chain", x, 3, 3, 1);
        due.is("first into second", x.courseOf(0, 10), 1);
        due.is("second into third", x.courseOf(1, 10), 2);
        due.is("comings", x.personOf(0, 4), 3);
        due.is("paid", x.personOf(0, 3), 7);
        due.is("second comes ahead of first", x.member(2, 4), 1);
        due.is("second comes ahead of first", x.member(2, 5), 0);
        due.is("merged", x.count(14), 2);
        due.is("chairs left", x.roomOf(0, 2), 0);
    }

    private void feesOfMerged() {
        EveningClasses x = new EveningClasses();
        x.course(kind(0, 0, 0), 3, 5, 50);
        x.course(kind(0, 0, 0), 3, 5, 6);
        x.course(kind(1, 0, 1), 3, 5, 6);
        x.course(kind(1, 0, 1), 3, 5, 50);
        x.room(9);
        come(x, 0, 1);
        come(x, 1, 2);
        come(x, 2, 1);
        come(x, 3, 2);
        due.is("paid back", x.ifClose(4), 44);
        due.is("paid", x.ifClose(5), 0);
        due.is("close", x.close(), 2);
        due.is("not more than the fee stays paid", x.personOf(0, 3), 6);
        due.is("less than the fee stays as it is", x.personOf(3, 3), 6);
        due.is("coins back", x.count(10), 44);
        due.is("coins for classes", x.count(11), 3 * 6 + 6 + 2 * 50);
    }

    /** Behind a merging all is settled: the merged one takes a later wish rather than a class of rank 3. */
    private void mergedMoveOn() {
        EveningClasses x = new EveningClasses();
        x.course(kind(0, 0, 0), 2, 5, 10);
        x.course(kind(0, 0, 1), 1, 5, 20);
        x.course(kind(1, 0, 2), 1, 5, 40);
        x.room(9);
        x.join(0, 2, -1);
        x.join(1, -1, -1);
        x.join(2, -1, -1);
        due.is("paid back", x.ifClose(4), 10);
        due.is("paid", x.ifClose(5), 40);
        due.is("close", x.close(), 2);
        states("moved on", x, 3, 1, 1);
        due.is("class", x.personOf(0, 1), 2);
        due.is("rank", x.personOf(0, 2), 1);
        due.is("paid for it", x.personOf(0, 3), 40);
        due.is("comings", x.personOf(0, 4), 3);
        due.is("settlings", x.count(13), 4);
    }

    private void cancelledGetLaterWish() {
        EveningClasses x = new EveningClasses();
        x.course(kind(0, 0, 0), 3, 5, 10);
        x.course(kind(1, 0, 0), 3, 5, 20);
        x.course(kind(2, 0, 1), 2, 3, 30);
        x.room(9);
        x.join(0, 1, 2);
        x.join(1, 2, -1);
        x.join(1, 2, -1);
        x.join(2, -1, -1);
        due.is("close", x.close(), 1);
        states("later wish", x, 2, 1, 2);
        due.is("too small", x.courseOf(0, 12), 2);
        due.is("its person helps the next one", x.courseOf(1, 7), 3);
        due.is("came last", x.member(1, 2), 0);
        due.is("rank", x.personOf(0, 2), 1);
        due.is("paid", x.personOf(0, 3), 20);
        due.is("back and paid", x.count(10), 10 + 30);
        due.is("nobody waits for a class that they have", x.courseOf(1, 8), 0);
        due.is("they wait for a cancelled class", x.courseOf(0, 8), 1);
        due.is("who waits for it", x.waits(2, 0), 3);
    }

    /** Class 0 is cancelled while class 1 is open; its people may not come into a class that was merged before. */
    private void closedClassesTakeNobody() {
        EveningClasses x = new EveningClasses();
        x.course(kind(0, 0, 0), 4, 5, 10);
        x.course(kind(1, 0, 0), 3, 5, 20);
        x.course(kind(1, 1, 0), 1, 9, 5);
        x.room(9);
        x.join(1, -1, -1);
        x.join(0, 1, -1);
        x.join(0, 1, -1);
        x.join(2, -1, -1);
        due.is("would run", x.ifClose(0), 4);
        due.is("would be cancelled", x.ifClose(1), 1);
        due.is("would be merged", x.ifClose(2), 2);
        due.is("people in a class", x.ifClose(3), 2);
        due.is("close", x.close(), 1);
        states("merged before", x, 2, 3, 1);
        due.is("no class", x.personOf(1, 1), MISSING);
        due.is("paid back", x.count(10), 2 * 10 + 15);
    }

    private void roomsToGreatestFirst() {
        EveningClasses x = new EveningClasses();
        x.room(5);
        x.room(3);
        x.room(3);
        for (int course = 0; course < 5; course++) {
            x.course(kind(course % 4, 0, 1), 1, 9, 1);
        }
        come(x, 0, 2);
        come(x, 1, 3);
        come(x, 2, 3);
        come(x, 3, 6);
        come(x, 4, 1);
        due.is("close", x.close(), 3);
        states("greatest first", x, 1, 1, 1, 2, 2);
        due.is("least room, lowest one", x.courseOf(1, 9), 1);
        due.is("the same for the next", x.courseOf(2, 9), 2);
        due.is("what is left for the smaller", x.courseOf(0, 9), 0);
        due.is("too great", x.courseOf(3, 12), 3);
        due.is("no room is left", x.courseOf(4, 12), 3);
        due.is("no room", x.courseOf(4, 9), MISSING);
        due.is("chairs left", x.roomOf(0, 2), 3);
        due.is("cancelled", x.count(15), 2);
        due.is("paid back", x.count(10), 7);
    }

    private void roomsByEvening() {
        EveningClasses x = new EveningClasses();
        x.room(4);
        x.course(kind(0, 0, 0), 1, 9, 1);
        x.course(kind(1, 0, 4), 1, 9, 1);
        x.course(kind(2, 0, 4), 1, 9, 1);
        come(x, 0, 2);
        come(x, 1, 3);
        come(x, 2, 3);
        due.is("close", x.close(), 2);
        states("evenings", x, 1, 1, 2);
        due.is("classes in the room", x.roomOf(0, 1), 3);
        due.is("chairs left, the least", x.roomOf(0, 2), 1);
    }

    /** Class 1 is still open and has places when class 0 is cancelled for want of a room. */
    private void withoutRoomNothingIsSettled() {
        EveningClasses x = new EveningClasses();
        x.room(2);
        x.course(kind(0, 0, 0), 1, 9, 10);
        x.course(kind(1, 0, 1), 1, 9, 20);
        x.join(0, 1, -1);
        x.join(0, 1, -1);
        x.join(0, 1, -1);
        x.join(1, -1, -1);
        due.is("close", x.close(), 1);
        states("no room", x, 2, 1);
        due.is("no class", x.personOf(0, 1), MISSING);
        due.is("rank", x.personOf(0, 2), 4);
        due.is("people", x.count(4), 1);
        due.is("waiting", x.courseOf(1, 8), 3);
        due.is("paid back", x.count(10), 30);
    }

    private void promise8() {
        EveningClasses x = new EveningClasses();
        due.is("term that is not closed", x.term(), IMPOSSIBLE);
        x.course(kind(0, 0, 0), 1, 2, 10);
        x.course(kind(0, 1, 0), 2, 9, 5);
        x.course(kind(1, 0, 0), 2, 9, 7);
        x.room(2);
        x.join(0, -1, -1);
        x.join(1, -1, -1);
        x.join(2, -1, -1);
        x.close();
        states("first term", x, 1, 3, 2);
        due.is("nothing stayed paid yet", x.count(12), 0);
        due.is("paid for classes", x.count(11), 15);
        due.is("term", x.term(), 1);
        states("next term", x, 0, 0, 0);
        for (int course = 0; course < 3; course++) {
            due.is("people", x.courseOf(course, 7), 0);
            due.is("room", x.courseOf(course, 9), MISSING);
            due.is("merged into", x.courseOf(course, 10), MISSING);
            due.is("why", x.courseOf(course, 12), 0);
            due.is("waiting", x.courseOf(course, 8), 0);
        }
        due.is("fee stays", x.courseOf(0, 5), 10);
        due.is("room is given to none", x.roomOf(0, 1), 0);
        due.is("chairs left of none", x.roomOf(0, 2), MISSING);
        due.is("no people", x.personOf(0, 0), INVALID);
        due.is("people came", x.count(2), 0);
        due.is("stayed paid", x.count(12), 15);
        due.is("paid for classes", x.count(11), 0);
        due.is("paid", x.count(9), 22);
        due.is("paid back", x.count(10), 7);
        due.is("settlings stay", x.count(13), 3);
        due.is("mergings stay", x.count(14), 1);
        due.is("cancellings stay", x.count(15), 1);
        due.is("number", x.count(7), 1);
        due.is("first person", x.join(1, 0, -1), 0);
        due.is("comings begin again", x.personOf(0, 4), 1);
        due.is("second wish", x.personOf(0, 6), 0);
        due.is("no third wish", x.personOf(0, 7), MISSING);
        x.close();
        due.is("next term", x.term(), 2);
        due.is("undo of it", x.undo(), 3);
        due.is("number again", x.count(7), 1);
        due.is("closed again", x.count(8), 1);
    }
}
