/** Promises 14 to 19: ifClose, beside, ifJoin, mean, count, undo. */
public final class WhatWouldBeTest {
    private static final int INVALID = EveningClasses.INVALID_ARGUMENT;
    private static final int IMPOSSIBLE = EveningClasses.NOT_POSSIBLE;
    private static final int LIMIT = EveningClasses.LIMIT_REACHED;
    private static final int MISSING = EveningClasses.NOT_FOUND;
    private static final int[] FAR = {-1, Integer.MIN_VALUE, Integer.MAX_VALUE};

    private final Due due = new Due();

    public static void main(String[] args) {
        WhatWouldBeTest test = new WhatWouldBeTest();
        test.promise14();
        test.promise15();
        test.promise16();
        test.promise17();
        test.promise17Small();
        test.promise18();
        test.promise19();
        test.promise19History();
        test.promise19Ring();
        test.promise19Closed();
        test.due.end();
    }

    private static int kind(int subject, int level, int evening) {
        return subject + 4 * level + 16 * evening;
    }

    private void promise14() {
        EveningClasses x = new EveningClasses();
        for (int what = 0; what <= 5; what++) {
            due.is("ifClose of nothing " + what, x.ifClose(what), 0);
        }
        x.course(kind(0, 0, 0), 2, 4, 10);
        x.course(kind(0, 1, 0), 1, 4, 4);
        x.course(kind(1, 0, 0), 2, 4, 20);
        x.course(kind(2, 0, 0), 1, 4, 30);
        x.room(3);
        x.join(0, -1, -1);
        x.join(1, -1, -1);
        x.join(2, 3, -1);
        x.join(3, -1, -1);
        int[] want = {2, 4 + 8, 1, 2, 6 + 20 + 2 * 30, 30};
        for (int what = 0; what <= 5; what++) {
            due.is("ifClose " + what, x.ifClose(what), want[what]);
        }
        due.is("it changes nothing", x.count(5), 15);
        due.is("it changes nothing", x.count(10), 0);
        due.is("it is no change", x.count(16), 4);
        due.is("ifClose 6", x.ifClose(6), INVALID);
        for (int far : FAR) {
            due.is("ifClose " + far, x.ifClose(far), INVALID);
        }
        due.is("close brings it", x.close(), 1);
        due.is("open, merged, cancelled", x.count(14) * 10 + x.count(15), 12);
        due.is("paid back", x.count(10), want[4]);
        due.is("paid", x.count(9), 64 + want[5]);
        due.is("ifClose in a closed term", x.ifClose(0), IMPOSSIBLE);
        due.is("a wrong one in a closed term", x.ifClose(6), INVALID);
    }

    private void promise15() {
        EveningClasses x = new EveningClasses();
        x.course(kind(0, 1, 0), 1, 4, 10);
        due.is("without people", x.beside(0), MISSING);
        x.join(0, -1, -1);
        due.is("alone", x.beside(0), MISSING);
        x.course(kind(1, 1, 0), 1, 4, 10);
        x.course(kind(0, 3, 0), 1, 4, 10);
        due.is("other subject, two levels away", x.beside(0), MISSING);
        x.course(kind(0, 2, 3), 1, 4, 10);
        due.is("one level above, another evening", x.beside(0), 3);
        due.is("without people itself", x.beside(3), MISSING);
        x.course(kind(0, 0, 0), 1, 4, 10);
        due.is("of both neighbours the lowest", x.beside(0), 3);
        x.join(4, -1, -1);
        due.is("of both the one with more people", x.beside(0), 4);
        due.is("it need not be too small", x.beside(4), 0);
        x.join(4, -1, -1);
        x.join(4, -1, -1);
        due.is("just reaching the most size", x.beside(0), 4);
        x.join(4, -1, -1);
        due.is("not above the most size", x.beside(0), 3);
        due.is("the great one itself", x.beside(4), MISSING);
        for (int far : FAR) {
            due.is("beside " + far, x.beside(far), INVALID);
        }
        due.is("beside 5", x.beside(5), INVALID);
        x.close();
        due.is("not open", x.beside(0), IMPOSSIBLE);
        due.is("no class in a closed term", x.beside(5), INVALID);
    }

    private void promise16() {
        EveningClasses x = new EveningClasses();
        x.course(0, 1, 1, 10);
        x.course(0, 1, 2, 10);
        x.join(0, -1, -1);
        x.join(0, 1, -1);
        due.is("full", x.ifJoin(0), 4);
        due.is("one place", x.ifJoin(1), 0);
        due.is("nobody came", x.count(2), 2);
        due.is("no change", x.count(16), 4);
        for (int far : FAR) {
            due.is("ifJoin " + far, x.ifJoin(far), INVALID);
        }
        due.is("ifJoin 2", x.ifJoin(2), INVALID);
        while (x.count(2) < 30) {
            x.join(0, -1, -1);
        }
        due.is("30 people", x.ifJoin(1), LIMIT);
        due.is("30 people, no class", x.ifJoin(2), INVALID);
        x.close();
        due.is("closed, with 30 people", x.ifJoin(1), IMPOSSIBLE);
        due.is("closed, no class", x.ifJoin(2), INVALID);
        x.term();
        due.is("next term", x.ifJoin(0), 0);
    }

    private void mean(EveningClasses x, int ranks, int people) {
        due.is("mean " + ranks + "/" + people, x.mean(), Float.floatToIntBits((float) ranks / (float) people));
    }

    private void promise17() {
        EveningClasses x = new EveningClasses();
        due.is("nobody", x.mean(), MISSING);
        x.course(0, 1, 1, 10);
        x.course(1, 1, 1, 10);
        x.course(2, 1, 1, 10);
        x.join(0, -1, -1);
        due.is("rank 0 alone", x.mean(), 0);
        x.join(0, 1, -1);
        mean(x, 1, 2);
        x.join(0, 1, 2);
        due.is("one", x.mean(), 0x3f800000);
        x.wish(0, 2, 1, 0);
        x.wish(1, 2, 0, 1);
        due.is("two", x.mean(), 0x40000000);
        x.wish(0, 0, -1, -1);
        x.wish(1, 0, 1, -1);
        x.join(0, 1, 2);
        mean(x, 7, 4);
        x.join(0, 1, 2);
        mean(x, 11, 5);
        x.join(0, 1, 2);
        mean(x, 15, 6);
        x.join(0, 1, 2);
        mean(x, 19, 7);
        x.wish(0, 2, 1, -1);
        mean(x, 3 + 1 + 2 + 4 * 4, 7);
        x.leave(1);
        mean(x, 0 + 0 + 1 + 3 * 4, 6);
        x.close();
        due.is("without rooms all have none", x.mean(), 0x40800000);
        x.term();
        due.is("nobody in the next term", x.mean(), MISSING);
        x.join(0, -1, -1);
        x.leave(0);
        due.is("all have left", x.mean(), MISSING);
    }

    /** A part of 1 that is smaller than a half, with every number of people. */
    private void promise17Small() {
        EveningClasses x = new EveningClasses();
        x.course(0, 1, 20, 10);
        x.course(1, 1, 1, 10);
        x.course(2, 1, 20, 10);
        x.join(1, -1, -1);
        x.join(1, 2, -1);
        for (int people = 3; people <= 30; people++) {
            x.join(people % 2 == 0 ? 0 : 2, -1, -1);
            mean(x, 1, people);
        }
    }

    private void counts(String name, EveningClasses x, int... want) {
        for (int what = 0; what < want.length; what++) {
            due.is(name + ": count " + what, x.count(what), want[what]);
        }
    }

    private void promise18() {
        EveningClasses x = new EveningClasses();
        x.course(kind(0, 0, 0), 2, 4, 10);
        x.course(kind(0, 1, 0), 1, 2, 4);
        x.course(kind(1, 0, 0), 2, 4, 20);
        x.room(3);
        x.join(1, -1, -1);
        x.join(1, -1, -1);
        x.join(1, 0, -1);
        x.join(2, -1, -1);
        x.join(1, -1, -1);
        x.type('x');
        counts("full", x, 3, 1, 5, 5, 4, 7, 5, 0, 0, 38, 0, 38, 0, 4, 0, 0, 4, 1);
        x.leave(0);
        counts("one left", x, 3, 1, 5, 4, 3, 7, 5, 0, 0, 42, 14, 28, 0, 5, 0, 0, 4, 1);
        x.leave(1);
        counts("two left", x, 3, 1, 5, 3, 3, 7, 5, 0, 0, 46, 18, 28, 0, 6, 0, 0, 4, 1);
        x.close();
        counts("closed", x, 3, 1, 5, 3, 2, 0, 0, 0, 1, 46, 38, 8, 0, 6, 0, 2, 4, 1);
        x.term();
        counts("next term", x, 3, 1, 0, 0, 0, 7, 7, 1, 0, 46, 38, 0, 8, 6, 0, 2, 4, 1);
        x.join(0, -1, -1);
        x.join(1, -1, -1);
        x.join(2, -1, -1);
        x.close();
        counts("closed again", x, 3, 1, 3, 3, 2, 0, 0, 1, 1, 80, 38 + 6 + 20, 8, 8, 9, 1, 3, 4, 1);
        x.undo();
        counts("undone", x, 3, 1, 3, 3, 3, 7, 7, 1, 0, 80, 38, 34, 8, 9, 0, 2, 3, 1);
        due.is("count 18", x.count(18), INVALID);
        for (int far : FAR) {
            due.is("count " + far, x.count(far), INVALID);
        }
    }

    private void promise19() {
        EveningClasses x = new EveningClasses();
        due.is("empty history", x.undo(), IMPOSSIBLE);
        x.course(0, 1, 2, 10);
        x.course(1, 1, 2, 20);
        x.join(0, -1, -1);
        x.join(1, 0, -1);
        x.type('a');
        x.wish(1, 0, -1, -1);
        due.is("moved", x.personOf(1, 1), 0);
        due.is("undo of wish", x.undo(), 3);
        due.is("in the class of before", x.personOf(1, 1), 1);
        due.is("wish of before", x.personOf(1, 5), 1);
        due.is("wish of before", x.personOf(1, 6), 0);
        due.is("paid of before", x.personOf(1, 3), 20);
        due.is("comings of before", x.personOf(1, 4), 1);
        due.is("member of before", x.member(0, 1), MISSING);
        due.is("paid", x.count(9), 30);
        due.is("paid back", x.count(10), 0);
        due.is("settlings", x.count(13), 2);
        due.is("the text stays", x.count(17), 1);
        due.is("undo of join", x.undo(), 2);
        due.is("people", x.count(2), 1);
        due.is("nobody in class 1", x.courseOf(1, 7), 0);
        due.is("another one comes", x.join(0, 1, -1), 1);
        due.is("history", x.count(16), 3);
        due.is("second wish", x.personOf(1, 6), 1);
        due.is("undo of that", x.undo(), 2);
        due.is("undo of join", x.undo(), 1);
        due.is("undo of course", x.undo(), 0);
        due.is("classes", x.count(0), 1);
        due.is("the oldest state was dropped", x.undo(), IMPOSSIBLE);
        due.is("classes", x.count(0), 1);
        due.is("new class", x.course(5, 2, 3, 4), 1);
        due.is("its fee", x.courseOf(1, 5), 4);
        due.is("undo of course", x.undo(), 0);
    }

    private void promise19History() {
        EveningClasses x = new EveningClasses();
        for (int change = 1; change <= 5; change++) {
            x.room(change);
            due.is("history after " + change, x.count(16), Math.min(change, 4));
        }
        x.room(0);
        x.room(9);
        x.leave(0);
        x.term();
        due.is("errors are not recorded", x.count(16), 4);
        for (int left = 3; left >= 0; left--) {
            due.is("undo", x.undo(), left);
            due.is("rooms", x.count(1), left + 1);
        }
        due.is("no more", x.undo(), IMPOSSIBLE);
        due.is("rooms", x.count(1), 1);
        x.course(0, 1, 9, 1);
        x.join(0, -1, -1);
        x.close();
        due.is("undo of close", x.undo(), 2);
        due.is("not closed", x.count(8), 0);
        due.is("open", x.courseOf(0, 6), 0);
        due.is("room is given to none", x.roomOf(0, 1), 0);
        due.is("why", x.courseOf(0, 12), 0);
        x.close();
        x.term();
        due.is("undo of term", x.undo(), 3);
        due.is("closed", x.count(8), 1);
        due.is("person of before", x.personOf(0, 1), 0);
        due.is("person paid", x.personOf(0, 3), 1);
        due.is("runs", x.courseOf(0, 6), 1);
        due.is("room of before", x.courseOf(0, 9), 0);
        due.is("stayed paid", x.count(12), 0);
        due.is("number", x.count(7), 0);
    }

    /** Many more changes than states that are kept, and some undone between them. */
    private void promise19Ring() {
        EveningClasses x = new EveningClasses();
        x.course(0, 1, 20, 1);
        for (int turn = 0; turn < 6; turn++) {
            for (int person = 2 * turn; person < 2 * turn + 6; person++) {
                due.is("join", x.join(0, -1, -1), person);
            }
            for (int left = 3; left >= 0; left--) {
                due.is("undo", x.undo(), left);
                due.is("people", x.count(2), 2 * turn + 2 + left);
                due.is("paid", x.count(9), 2 * turn + 2 + left);
                due.is("last one", x.member(0, 2 * turn + 1 + left), 2 * turn + 1 + left);
                due.is("no more", x.member(0, 2 * turn + 2 + left), MISSING);
            }
            due.is("empty", x.undo(), IMPOSSIBLE);
        }
    }

    /** What a closing has brought to each class stands again when the next term is undone. */
    private void promise19Closed() {
        EveningClasses x = new EveningClasses();
        x.course(kind(0, 0, 0), 2, 4, 10);
        x.course(kind(0, 1, 0), 1, 4, 20);
        x.course(kind(1, 2, 0), 1, 4, 30);
        x.join(0, 1, 2);
        x.join(1, -1, -1);
        x.leave(0);
        due.is("undo of leave", x.undo(), 3);
        due.is("has not left", x.personOf(0, 0), 1);
        due.is("third wish", x.personOf(0, 7), 2);
        x.room(3);
        x.close();
        x.term();
        x.undo();
        due.is("merged", x.courseOf(0, 6), 3);
        due.is("into", x.courseOf(0, 10), 1);
        due.is("why merged", x.courseOf(0, 12), 1);
        due.is("why cancelled", x.courseOf(2, 12), 2);
        due.is("room", x.roomOf(0, 1), 2);
        x.undo();
        due.is("open", x.count(5), 7);
        due.is("into none", x.courseOf(0, 10), MISSING);
        EveningClasses y = new EveningClasses();
        y.course(kind(3, 2, 1), 1, 4, 10);
        y.undo();
        y.course(kind(2, 3, 4), 2, 5, 11);
        y.course(kind(0, 0, 0), 2, 5, 11);
        y.undo();
        int[] want = {2, 3, 4, 2, 5, 11};
        for (int what = 0; what < want.length; what++) {
            due.is("class of before: " + what, y.courseOf(0, what), want[what]);
        }
    }
}
