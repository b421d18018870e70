/** Promises 9 to 13: courseOf, member, waits, personOf, roomOf. */
public final class WhatThereIsTest {
    private static final int INVALID = EveningClasses.INVALID_ARGUMENT;
    private static final int MISSING = EveningClasses.NOT_FOUND;
    private static final int[] FAR = {-1, Integer.MIN_VALUE, Integer.MAX_VALUE};

    private final Due due = new Due();

    public static void main(String[] args) {
        WhatThereIsTest test = new WhatThereIsTest();
        test.promise9();
        test.promise10();
        test.promise11();
        test.promise12();
        test.promise13();
        test.due.end();
    }

    /**
     * 0: full with persons 0 and 1; 1: person 2, who waits for 0, and 3, whose wishes are others; 2: empty;
     * person 4 has left, person 5 waits for 0.
     */
    private static EveningClasses some() {
        EveningClasses x = new EveningClasses();
        x.course(3 + 4 * 2 + 16, 2, 2, 10);
        x.course(1 + 16 * 4, 3, 5, 20);
        x.course(1 + 4 + 16 * 4, 1, 1, 30);
        x.room(4);
        x.room(2);
        x.join(0, -1, -1);
        x.join(0, 1, -1);
        x.join(0, 1, 2);
        x.join(1, -1, -1);
        x.join(0, -1, -1);
        x.leave(4);
        x.join(0, -1, -1);
        x.join(2, -1, -1);
        x.wish(3, 2, 0, -1);
        x.leave(6);
        x.wish(3, 0, -1, -1);
        x.wish(3, 1, -1, -1);
        return x;
    }

    private void courses(String name, EveningClasses x, int course, int... want) {
        for (int what = 0; what < want.length; what++) {
            due.is(name + ": courseOf " + course + "," + what, x.courseOf(course, what), want[what]);
        }
    }

    private void promise9() {
        EveningClasses x = some();
        courses("open", x, 0, 3, 2, 1, 2, 2, 10, 0, 2, 2, MISSING, MISSING, 0, 0);
        courses("open", x, 1, 1, 0, 4, 3, 5, 20, 0, 2, 0, MISSING, MISSING, 1, 0);
        courses("open", x, 2, 1, 1, 4, 1, 1, 30, 0, 0, 0, MISSING, MISSING, 1, 0);
        for (int far : FAR) {
            due.is("class " + far, x.courseOf(far, 0), INVALID);
            due.is("what " + far, x.courseOf(0, far), INVALID);
        }
        due.is("class 3", x.courseOf(3, 0), INVALID);
        due.is("class 8", x.courseOf(8, 0), INVALID);
        due.is("what 13", x.courseOf(0, 13), INVALID);
        due.is("what 13 of no class", x.courseOf(3, 13), INVALID);
        x.close();
        courses("closed", x, 0, 3, 2, 1, 2, 2, 10, 1, 2, 2, 1, MISSING, 0, 0);
        courses("closed", x, 1, 1, 0, 4, 3, 5, 20, 2, 0, 2, MISSING, MISSING, 3, 2);
        courses("closed", x, 2, 1, 1, 4, 1, 1, 30, 2, 0, 1, MISSING, MISSING, 1, 2);
    }

    private void promise10() {
        EveningClasses x = some();
        due.is("first of 0", x.member(0, 0), 0);
        due.is("second of 0", x.member(0, 1), 1);
        due.is("third of 0", x.member(0, 2), MISSING);
        due.is("first of 1", x.member(1, 0), 2);
        due.is("second of 1", x.member(1, 1), 3);
        due.is("first of an empty one", x.member(2, 0), MISSING);
        due.is("the highest rank", x.member(0, Integer.MAX_VALUE), MISSING);
        due.is("rank 20", x.member(0, 20), MISSING);
        due.is("rank -1", x.member(0, -1), INVALID);
        due.is("the lowest rank", x.member(0, Integer.MIN_VALUE), INVALID);
        for (int far : FAR) {
            due.is("class " + far, x.member(far, 0), INVALID);
        }
        due.is("class 3", x.member(3, 0), INVALID);
        x.wish(0, 1, -1, -1);
        due.is("0 went, 1 is first", x.member(0, 0), 1);
        due.is("2 moved up", x.member(0, 1), 2);
        due.is("3 is first", x.member(1, 0), 3);
        due.is("0 came behind 3", x.member(1, 1), 0);
        due.is("2 went", x.member(1, 2), MISSING);
        x.wish(3, 2, -1, -1);
        due.is("the next one moves to the front", x.member(1, 0), 0);
        x.wish(3, 1, -1, -1);
        due.is("who comes again is last", x.member(1, 1), 3);
    }

    private void promise11() {
        EveningClasses x = some();
        due.is("first", x.waits(0, 0), 2);
        due.is("second", x.waits(0, 1), 5);
        due.is("third", x.waits(0, 2), MISSING);
        due.is("nobody", x.waits(1, 0), MISSING);
        due.is("the highest rank", x.waits(0, Integer.MAX_VALUE), MISSING);
        due.is("rank -1", x.waits(0, -1), INVALID);
        due.is("the lowest rank", x.waits(0, Integer.MIN_VALUE), INVALID);
        for (int far : FAR) {
            due.is("class " + far, x.waits(far, 0), INVALID);
        }
        due.is("class 3", x.waits(3, 0), INVALID);
        x.leave(2);
        due.is("who left does not wait", x.waits(0, 0), 5);
        x.wish(0, 1, 0, -1);
        due.is("behind a move", x.waits(0, 0), MISSING);
    }

    private void people(String name, EveningClasses x, int person, int... want) {
        for (int what = 0; what < want.length; what++) {
            due.is(name + ": personOf " + person + "," + what, x.personOf(person, what), want[what]);
        }
    }

    private void promise12() {
        EveningClasses x = some();
        people("in the first wish", x, 0, 1, 0, 0, 10, 1, 0, MISSING, MISSING);
        people("in the second wish", x, 2, 1, 1, 1, 20, 1, 0, 1, 2);
        people("in the first wish again", x, 3, 1, 1, 0, 20, 3, 1, MISSING, MISSING);
        people("has left", x, 4, 0, MISSING, 4, 0, 0, 0, MISSING, MISSING);
        people("without a class", x, 5, 1, MISSING, 4, 0, 0, 0, MISSING, MISSING);
        x.wish(2, 0, -1, -1);
        people("in a class that is no wish", x, 2, 1, 1, 3, 20, 1, 0, MISSING, MISSING);
        for (int far : FAR) {
            due.is("person " + far, x.personOf(far, 0), INVALID);
            due.is("what " + far, x.personOf(0, far), INVALID);
        }
        due.is("person 7", x.personOf(7, 0), INVALID);
        due.is("person 30", x.personOf(30, 0), INVALID);
        due.is("what 8", x.personOf(0, 8), INVALID);
        due.is("what 8 of nobody", x.personOf(7, 8), INVALID);
    }

    private void promise13() {
        EveningClasses x = some();
        due.is("chairs", x.roomOf(0, 0), 4);
        due.is("chairs", x.roomOf(1, 0), 2);
        due.is("given to none", x.roomOf(0, 1), 0);
        due.is("left of none", x.roomOf(0, 2), MISSING);
        for (int far : FAR) {
            due.is("room " + far, x.roomOf(far, 0), INVALID);
            due.is("what " + far, x.roomOf(0, far), INVALID);
        }
        due.is("room 2", x.roomOf(2, 0), INVALID);
        due.is("room 5", x.roomOf(5, 0), INVALID);
        due.is("what 3", x.roomOf(0, 3), INVALID);
        x.join(1, -1, -1);
        x.join(2, -1, -1);
        x.close();
        due.is("the great one", x.roomOf(0, 1), 2);
        due.is("left of it", x.roomOf(0, 2), 1);
        due.is("the small one, on two evenings", x.roomOf(1, 1), 5);
        due.is("left of it, the least", x.roomOf(1, 2), 0);
    }
}
