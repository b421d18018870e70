/** Promises 1 to 3: a new object, course, room. */
public final class ClassesRoomsTest {
    private static final int INVALID = EveningClasses.INVALID_ARGUMENT;
    private static final int IMPOSSIBLE = EveningClasses.NOT_POSSIBLE;
    private static final int LIMIT = EveningClasses.LIMIT_REACHED;
    private static final int MISSING = EveningClasses.NOT_FOUND;

    private final Due due = new Due();

    public static void main(String[] args) {
        ClassesRoomsTest test = new ClassesRoomsTest();
        test.promise1();
        test.promise2();
        test.promise2Errors();
        test.promise3();
        test.due.end();
    }

    private void promise1() {
        EveningClasses x = new EveningClasses();
        for (int what = 0; what <= 17; what++) {
            due.is("new: count " + what, x.count(what), 0);
        }
        due.is("new: courseOf", x.courseOf(0, 6), INVALID);
        due.is("new: roomOf", x.roomOf(0, 0), INVALID);
        due.is("new: personOf", x.personOf(0, 0), INVALID);
        due.is("new: undo", x.undo(), IMPOSSIBLE);
        due.is("new: term", x.term(), IMPOSSIBLE);
        due.is("new: mean", x.mean(), MISSING);
        due.is("new: clearText", x.clearText(), 0);
    }

    private void promise2() {
        EveningClasses x = new EveningClasses();
        due.is("first course", x.course(2 + 4 * 3 + 16 * 4, 1, 20, 99), 0);
        due.is("second course", x.course(1 + 4 * 2 + 16 * 3, 20, 20, 0), 1);
        int[] first = {2, 3, 4, 1, 20, 99, 0, 0, 0, MISSING, MISSING, 1, 0};
        int[] second = {1, 2, 3, 20, 20, 0, 0, 0, 0, MISSING, MISSING, 20, 0};
        for (int what = 0; what < first.length; what++) {
            due.is("courseOf 0," + what, x.courseOf(0, what), first[what]);
            due.is("courseOf 1," + what, x.courseOf(1, what), second[what]);
        }
        due.is("highest kind", x.course(79, 1, 1, 1), 2);
        due.is("its evening", x.courseOf(2, 2), 4);
        due.is("classes", x.count(0), 3);
        due.is("open ones", x.count(5), 7);
        due.is("with a free place", x.count(6), 7);
        due.is("each is a change", x.count(16), 3);
        for (int number = 3; number < 8; number++) {
            due.is("course " + number, x.course(0, 1, 1, 1), number);
        }
        due.is("a ninth", x.course(0, 1, 1, 1), LIMIT);
        due.is("a ninth that is wrong", x.course(80, 1, 1, 1), INVALID);
        due.is("classes then", x.count(0), 8);
        x.close();
        due.is("a ninth in a closed term", x.course(0, 1, 1, 1), IMPOSSIBLE);
        due.is("a wrong one in a closed term", x.course(0, 1, 1, 100), INVALID);
    }

    private void promise2Errors() {
        int[][] wrong = {{-1, 1, 1, 1}, {80, 1, 1, 1}, {0, 0, 1, 1}, {0, 21, 21, 1}, {0, 1, 21, 1}, {0, 5, 4, 1},
            {0, 1, 0, 1}, {0, 1, 1, -1}, {0, 1, 1, 100}, {Integer.MIN_VALUE, 1, 1, 1}, {Integer.MAX_VALUE, 1, 1, 1},
            {0, Integer.MIN_VALUE, 1, 1}, {0, 1, Integer.MAX_VALUE, 1}, {0, 1, 1, Integer.MAX_VALUE}};
        EveningClasses x = new EveningClasses();
        for (int[] a : wrong) {
            due.is("course " + a[0] + "," + a[1] + "," + a[2] + "," + a[3], x.course(a[0], a[1], a[2], a[3]), INVALID);
        }
        due.is("classes after the errors", x.count(0), 0);
        due.is("history after the errors", x.count(16), 0);
    }

    private void promise3() {
        EveningClasses x = new EveningClasses();
        int[] chairs = {1, 30, 7, 7, 12};
        for (int wrong : new int[] {0, -1, 31, Integer.MIN_VALUE, Integer.MAX_VALUE}) {
            due.is("room " + wrong, x.room(wrong), INVALID);
        }
        for (int room = 0; room < chairs.length; room++) {
            due.is("room " + chairs[room], x.room(chairs[room]), room);
        }
        for (int room = 0; room < chairs.length; room++) {
            due.is("chairs of " + room, x.roomOf(room, 0), chairs[room]);
        }
        due.is("a sixth room", x.room(3), LIMIT);
        due.is("a sixth room that is wrong", x.room(0), INVALID);
        due.is("rooms", x.count(1), 5);
        due.is("history", x.count(16), 4);
        x.close();
        due.is("a sixth in a closed term", x.room(3), IMPOSSIBLE);
        due.is("a wrong one in a closed term", x.room(31), INVALID);
        x.term();
        due.is("a sixth in the next term", x.room(3), LIMIT);
    }
}
