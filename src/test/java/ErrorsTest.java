/** What is not a change: a call that returns an error, and a call that only asks, leave every answer as it was. */
public final class ErrorsTest {
    private final Due due = new Due();

    public static void main(String[] args) {
        ErrorsTest test = new ErrorsTest();
        test.errorsInAnOpenTerm();
        test.errorsInAClosedTerm();
        test.askingChangesNothing();
        test.due.end();
    }

    private static EveningClasses prepared(boolean closed) {
        EveningClasses x = new EveningClasses();
        x.course(0, 2, 2, 10);
        x.course(4, 2, 5, 7);
        x.course(17, 1, 1, 30);
        x.room(2);
        x.room(4);
        x.join(0, 1, 2);
        x.join(0, 2, -1);
        x.join(0, 2, 1);
        x.join(0, 1, -1);
        x.join(2, -1, -1);
        x.leave(4);
        if (closed) {
            x.close();
        }
        for (char character : "leave 0;join 0;leave 0;".toCharArray()) {
            x.type(character);
        }
        return x;
    }

    private static String answers(EveningClasses x) {
        StringBuilder all = new StringBuilder();
        for (int what = 0; what <= 17; what++) {
            all.append(x.count(what)).append(' ');
        }
        for (int course = 0; course < 3; course++) {
            for (int what = 6; what <= 12; what++) {
                all.append(x.courseOf(course, what)).append(' ');
            }
            for (int rank = 0; rank < 4; rank++) {
                all.append(x.member(course, rank)).append(' ').append(x.waits(course, rank)).append(' ');
            }
            all.append(x.beside(course)).append(' ').append(x.ifJoin(course)).append(' ');
        }
        for (int person = 0; person < 5; person++) {
            for (int what = 0; what <= 7; what++) {
                all.append(x.personOf(person, what)).append(' ');
            }
        }
        for (int what = 0; what <= 5; what++) {
            all.append(x.ifClose(what)).append(' ');
        }
        for (int what = 0; what <= 2; what++) {
            all.append(x.roomOf(0, what)).append(' ').append(x.roomOf(1, what)).append(' ');
            all.append(x.fault(what)).append(' ');
        }
        return all.append(x.mean()).append(" undo ").append(x.undo()).append(' ').append(x.count(11)).toString();
    }

    private void errorsInAnOpenTerm() {
        EveningClasses x = prepared(false);
        int errors = 0;
        int[] answered = {x.course(80, 1, 1, 1), x.course(0, 3, 2, 1), x.room(31), x.join(3, 0, 1), x.join(0, 0, 1),
            x.join(0, -1, 1), x.wish(5, 0, 1, 2), x.wish(0, 2, 2, 1), x.wish(4, 0, 1, 2), x.leave(4), x.leave(5),
            x.term(), x.play(), x.type(31), x.type(127)};
        for (int answer : answered) {
            errors += answer < 0 ? 1 : 0;
        }
        due.is("errors", errors, answered.length);
        due.same("answers after errors", answers(x), answers(prepared(false)));
    }

    private void errorsInAClosedTerm() {
        EveningClasses x = prepared(true);
        int errors = 0;
        int[] answered = {x.course(0, 1, 1, 1), x.room(3), x.join(0, 1, 2), x.wish(0, 2, 1, 0), x.leave(0), x.close(),
            x.play(), x.ifClose(0), x.ifJoin(0), x.beside(0)};
        for (int answer : answered) {
            errors += answer == EveningClasses.NOT_POSSIBLE ? 1 : 0;
        }
        due.is("errors", errors, answered.length);
        due.same("answers after errors", answers(x), answers(prepared(true)));
    }

    private void askingChangesNothing() {
        for (int turn = 0; turn < 2; turn++) {
            EveningClasses x = prepared(turn == 1);
            x.ifClose(0);
            x.ifJoin(1);
            x.beside(0);
            x.fault(0);
            x.mean();
            due.same("answers after asking", answers(x), answers(prepared(turn == 1)));
        }
    }
}
