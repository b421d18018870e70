/** Promises 4 to 6: join, wish, leave, and the settling behind them. */
public final class PeopleTest {
    private static final int INVALID = EveningClasses.INVALID_ARGUMENT;
    private static final int IMPOSSIBLE = EveningClasses.NOT_POSSIBLE;
    private static final int LIMIT = EveningClasses.LIMIT_REACHED;
    private static final int MISSING = EveningClasses.NOT_FOUND;

    private final Due due = new Due();

    public static void main(String[] args) {
        PeopleTest test = new PeopleTest();
        test.promise4();
        test.promise4Errors();
        test.promise4Limit();
        test.promise5();
        test.promise5Errors();
        test.promise6();
        test.movingUp();
        test.lowestNumberFirst();
        test.due.end();
    }

    /** Three classes with one place each and the fees 10, 20 and 30. */
    private static EveningClasses threePlaces() {
        EveningClasses x = new EveningClasses();
        x.course(0, 1, 1, 10);
        x.course(1, 1, 1, 20);
        x.course(2, 1, 1, 30);
        return x;
    }

    private void person(String name, EveningClasses x, int person, int course, int rank, int paid, int comings) {
        due.is(name + ": class of " + person, x.personOf(person, 1), course);
        due.is(name + ": rank of " + person, x.personOf(person, 2), rank);
        due.is(name + ": paid of " + person, x.personOf(person, 3), paid);
        due.is(name + ": comings of " + person, x.personOf(person, 4), comings);
    }

    private void promise4() {
        EveningClasses x = threePlaces();
        due.is("join 0", x.join(0, 1, 2), 0);
        due.is("join 1", x.join(0, 2, 1), 1);
        due.is("join 2", x.join(2, 0, 1), 2);
        due.is("join 3", x.join(0, 1, -1), 3);
        due.is("join 4", x.join(2, -1, -1), 4);
        person("join", x, 0, 0, 0, 10, 1);
        person("join", x, 1, 2, 1, 30, 1);
        person("join", x, 2, 1, 2, 20, 1);
        person("join", x, 3, MISSING, 4, 0, 0);
        person("join", x, 4, MISSING, 4, 0, 0);
        due.is("second wish of 3", x.personOf(3, 6), 1);
        due.is("third wish of 3", x.personOf(3, 7), MISSING);
        due.is("coins paid", x.count(9), 60);
        due.is("settlings", x.count(13), 3);
        due.is("history", x.count(16), 4);
    }

    private void promise4Errors() {
        int[][] wrong = {{-1, -1, -1}, {3, -1, -1}, {-2, 0, 1}, {0, 0, -1}, {0, 3, -1}, {0, -2, -1}, {0, -1, 1},
            {0, -1, 0}, {0, 1, 0}, {0, 1, 1}, {0, 1, 3}, {0, 1, -2}, {0, -1, -2}, {Integer.MAX_VALUE, -1, -1},
            {0, Integer.MIN_VALUE, -1}, {0, 1, Integer.MAX_VALUE}};
        EveningClasses x = threePlaces();
        for (int[] a : wrong) {
            due.is("join " + a[0] + "," + a[1] + "," + a[2], x.join(a[0], a[1], a[2]), INVALID);
        }
        due.is("people after the errors", x.count(2), 0);
        due.is("history after the errors", x.count(16), 3);
        x.close();
        due.is("join in a closed term", x.join(0, -1, -1), IMPOSSIBLE);
        due.is("a wrong join in a closed term", x.join(0, 0, -1), INVALID);
    }

    private void promise4Limit() {
        EveningClasses x = threePlaces();
        for (int person = 0; person < 30; person++) {
            due.is("join " + person, x.join(0, -1, -1), person);
        }
        due.is("person 31", x.join(0, -1, -1), LIMIT);
        due.is("person 31 with a wrong wish", x.join(3, -1, -1), INVALID);
        x.leave(29);
        due.is("those who left keep their number", x.join(0, -1, -1), LIMIT);
        due.is("ifJoin then", x.ifJoin(1), LIMIT);
        due.is("ifJoin with a wrong class", x.ifJoin(3), INVALID);
        due.is("waiting", x.courseOf(0, 8), 28);
        due.is("last waiting one", x.waits(0, 27), 28);
        x.close();
        due.is("person 31 in a closed term", x.join(0, -1, -1), IMPOSSIBLE);
        x.term();
        due.is("the first of the next term", x.join(0, -1, -1), 0);
    }

    private void promise5() {
        EveningClasses x = threePlaces();
        x.join(0, -1, -1);
        x.join(1, -1, -1);
        due.is("a taken wish: stays at rank 3", x.wish(0, 1, -1, -1), 3);
        person("stays", x, 0, 0, 3, 10, 1);
        due.is("the own class as the second wish", x.wish(0, 1, 0, -1), 1);
        due.is("the own class as the third wish, a free one ahead", x.wish(0, 1, 2, 0), 1);
        person("moved", x, 0, 2, 1, 30, 2);
        due.is("paid back by the move", x.count(10), 10);
        due.is("the same again", x.wish(0, 1, 2, 0), 1);
        due.is("two swap only if a place is free", x.wish(1, 2, -1, -1), 3);
        due.is("first wish", x.personOf(1, 5), 2);
        due.is("second wish is gone", x.personOf(0, 6), 2);
        due.is("wishes taken back", x.wish(0, 0, -1, -1), 0);
        person("follows", x, 1, 2, 0, 30, 2);
        due.is("without a place", x.join(0, 1, -1), 2);
        due.is("in the second one", x.personOf(2, 2), 1);
        due.is("join of one more", x.join(1, -1, -1), 3);
        due.is("rank 4", x.wish(3, 2, 0, 1), 4);
        due.is("third wish", x.personOf(3, 7), 1);
    }

    private void promise5Errors() {
        EveningClasses x = threePlaces();
        x.join(0, -1, -1);
        x.join(1, -1, -1);
        x.leave(1);
        int[][] wrong = {{-1, 0, -1, -1}, {2, 0, -1, -1}, {30, 0, -1, -1}, {0, -1, -1, -1}, {0, 3, -1, -1},
            {0, 1, 1, -1}, {0, 1, -1, 2}, {0, 1, 2, 1}, {0, 1, 2, 2}, {0, 1, 2, -2}, {1, 1, 1, -1},
            {Integer.MIN_VALUE, 0, -1, -1}, {Integer.MAX_VALUE, 0, -1, -1}};
        for (int[] a : wrong) {
            due.is("wish " + a[0] + "," + a[1] + "," + a[2] + "," + a[3], x.wish(a[0], a[1], a[2], a[3]), INVALID);
        }
        due.is("wish of one who left", x.wish(1, 0, -1, -1), IMPOSSIBLE);
        due.is("wishes stay", x.personOf(0, 5), 0);
        due.is("wishes of one who left stay", x.personOf(1, 5), 1);
        x.close();
        due.is("wish in a closed term", x.wish(0, 1, -1, -1), IMPOSSIBLE);
        due.is("a wrong one in a closed term", x.wish(2, 1, -1, -1), INVALID);
    }

    private void promise6() {
        EveningClasses x = threePlaces();
        x.join(2, -1, -1);
        x.join(2, -1, -1);
        due.is("leave without a class", x.leave(1), 0);
        due.is("leave with a class", x.leave(0), 30);
        person("left", x, 0, MISSING, 4, 0, 1);
        due.is("has left", x.personOf(0, 0), 0);
        due.is("nobody waits", x.courseOf(2, 8), 0);
        due.is("nobody is in", x.courseOf(2, 7), 0);
        due.is("came", x.count(2), 2);
        due.is("not left", x.count(3), 0);
        due.is("leave again", x.leave(0), IMPOSSIBLE);
        due.is("leave of none", x.leave(2), INVALID);
        due.is("leave of -1", x.leave(-1), INVALID);
        due.is("leave of the highest", x.leave(Integer.MAX_VALUE), INVALID);
        due.is("history", x.count(16), 4);
        x.join(2, -1, -1);
        x.close();
        due.is("leave in a closed term", x.leave(2), IMPOSSIBLE);
        due.is("a wrong one in a closed term", x.leave(3), INVALID);
        x.term();
        due.is("the people of the term before are gone", x.leave(0), INVALID);
    }

    /** A place that is free goes through a chain: 0 leaves, 1 moves up, 2 moves up, 3 gets its first place. */
    private void movingUp() {
        EveningClasses x = threePlaces();
        x.join(0, -1, -1);
        x.join(0, 1, -1);
        x.join(0, 1, 2);
        x.join(2, -1, -1);
        due.is("chain: leave", x.leave(0), 10);
        person("chain", x, 1, 0, 0, 10, 2);
        person("chain", x, 2, 1, 1, 20, 2);
        person("chain", x, 3, 2, 0, 30, 1);
        due.is("chain: paid", x.count(9), 10 + 20 + 30 + 10 + 20 + 30);
        due.is("chain: paid back", x.count(10), 10 + 20 + 30);
        due.is("chain: paid for classes", x.count(11), 60);
        due.is("chain: settlings", x.count(13), 6);
    }

    private void lowestNumberFirst() {
        EveningClasses x = new EveningClasses();
        x.course(0, 1, 2, 10);
        x.course(1, 1, 2, 20);
        x.join(0, -1, -1);
        x.join(0, -1, -1);
        x.join(1, 0, -1);
        x.join(1, 0, -1);
        x.join(0, 1, -1);
        x.wish(2, 0, 1, -1);
        due.is("waiting first", x.waits(0, 0), 2);
        due.is("waiting second", x.waits(0, 1), 4);
        x.leave(0);
        due.is("the lowest number has the place", x.member(0, 1), 2);
        due.is("and leaves one for the other", x.member(1, 1), 4);
        due.is("who stays in the order", x.member(1, 0), 3);
        due.is("who waits still", x.waits(0, 0), 4);
        due.is("no more", x.waits(0, 1), MISSING);
    }
}
