/** "Changes and errors" and promise 19 (undo): each sentence that names an edge, by a test of its own. */
public final class ChangesEdgesTest {
    private final Due due = new Due();

    public static void main(String[] args) {
        ChangesEdgesTest test = new ChangesEdgesTest();
        test.theChanges();
        test.whatIsNoChange();
        test.errorsAreNoChange();
        test.atMostFourStates();
        test.theOldestIsDropped();
        test.everythingButTheText();
        test.everythingOfAClosedTerm();
        test.everythingOfWhatCameAgain();
        test.undoReturnsWhatIsLeft();
        test.undoOfEach();
        test.undoRefused();
        test.changesBehindAnUndo();
        test.historyGoesRound();
        test.invalidAheadOfNotPossible();
        test.notPossibleAheadOfLimit();
        test.invalidAheadOfLimit();
        test.invalidAheadOfNotFound();
        test.notPossibleAheadOfNotFound();
        test.errorsChangeNothing();
        test.errorsOfAClosedTermChangeNothing();
        test.errorsAtTheLimitsChangeNothing();
        test.noSuchNumber();
        test.constants();
        test.fiveHundredAndTwelveCalls();
        test.due.end();
    }

    /** Two classes, a room, and three people, of whom one waits. */
    private static EveningClasses some() {
        EveningClasses x = Given.apart(1, 2);
        x.room(2);
        x.join(0, 1, -1);
        x.join(0, 1, -1);
        x.join(0, -1, -1);
        return x;
    }

    private static EveningClasses withoutHistory(EveningClasses x) {
        while (x.count(16) > 0) {
            x.undo();
        }
        return x;
    }

    private void theChanges() {
        due.sentence("The changes are the calls of course, room, join, wish, leave, close, term and play that return no error.");
        EveningClasses x = new EveningClasses();
        x.course(0, 1, 1, 1);
        due.is("course", x.count(16), 1);
        x.undo();
        x.room(1);
        due.is("room", x.count(16), 1);
        x.undo();
        x.close();
        due.is("close", x.count(16), 1);
        x.term();
        due.is("term", x.count(16), 2);
        x.undo();
        x.undo();
        x.play();
        due.is("play", x.count(16), 1);
        x.undo();
        x.course(0, 1, 1, 1);
        x.join(0, -1, -1);
        due.is("join", x.count(16), 2);
        x.wish(0, 0, -1, -1);
        due.is("wish, of the same", x.count(16), 3);
        x.leave(0);
        due.is("leave", x.count(16), 4);
    }

    private void whatIsNoChange() {
        due.sentence("what only asks, and type, clearText and undo, are no changes");
        EveningClasses x = some();
        x.undo();
        String before = Given.answers(x);
        due.same("asking", Given.answers(x), before);
        due.is("states", x.count(16), 3);
        x.type(';');
        x.type(200);
        x.clearText();
        x.clearText();
        due.is("texts", x.count(16), 3);
        x.undo();
        due.is("undo", x.count(16), 2);
    }

    private void errorsAreNoChange() {
        due.sentence("that return no error");
        EveningClasses x = Given.apart(1);
        x.undo();
        x.course(0, 1, 1, 1);
        int states = x.count(16);
        x.course(0, 0, 1, 1);
        x.room(31);
        x.join(1, -1, -1);
        x.wish(0, 0, -1, -1);
        x.leave(0);
        x.term();
        x.type('x');
        x.play();
        due.is("states", x.count(16), states);
        x.close();
        x.close();
        due.is("one more", x.count(16), states + 1);
        due.is("undo of close", x.undo(), states);
        due.is("not closed", x.count(8), 0);
        due.is("undo of course", x.undo(), states - 1);
        due.is("no class", x.count(0), 0);
    }

    private void atMostFourStates() {
        due.sentence("A history of at most 4 states is kept");
        EveningClasses x = new EveningClasses();
        for (int change = 1; change <= 4; change++) {
            x.room(change);
            due.is("states", x.count(16), change);
        }
        for (int change = 5; change <= 20; change++) {
            x.play();
            due.is("states", x.count(16), 4);
        }
    }

    private void theOldestIsDropped() {
        due.sentence("and if there are 5 states then, the oldest one is dropped.");
        EveningClasses x = new EveningClasses();
        for (int change = 1; change <= 5; change++) {
            x.room(change);
        }
        for (int left = 3; left >= 0; left--) {
            due.is("undo", x.undo(), left);
            due.is("rooms", x.count(1), left + 1);
        }
        due.is("the state without rooms is dropped", x.undo(), Given.IMPOSSIBLE);
        due.is("the first room stays", x.roomOf(0, 0), 1);
        EveningClasses y = new EveningClasses();
        for (int change = 1; change <= 4; change++) {
            y.room(change);
        }
        withoutHistory(y);
        due.is("of 4 changes none is dropped", y.count(1), 0);
    }

    private void everythingButTheText() {
        due.sentence("each change records everything before it but the text");
        EveningClasses x = some();
        String before = Given.answers(x);
        x.leave(0);
        Given.put(x, "abc");
        x.undo();
        due.is("text", x.count(17), 3);
        due.is("its fault", x.fault(2), 3);
        x.clearText();
        due.same("all else", withoutStates(Given.answers(x)), withoutStates(before));
        Given.put(x, "term;");
        x.room(1);
        x.clearText();
        x.undo();
        due.is("a text that was cleared stays so", x.count(17), 0);
    }

    /** Of the answers of count, the one of the states in the history is the 17th. */
    private static String withoutStates(String answers) {
        String[] all = answers.split(" ");
        all[16] = "";
        return String.join(" ", all);
    }

    private void everythingOfAClosedTerm() {
        due.sentence("each change records everything before it: what a closing has brought");
        EveningClasses x = new EveningClasses();
        x.course(Given.kind(0, 0, 0), 2, 2, 10);
        x.course(Given.kind(0, 1, 0), 1, 2, 4);
        x.course(Given.kind(1, 0, 0), 1, 2, 10);
        x.course(Given.kind(2, 0, 0), 1, 2, 10);
        x.room(2);
        x.join(0, -1, -1);
        x.join(1, -1, -1);
        x.join(3, 2, -1);
        String open = withoutStates(Given.answers(x));
        x.close();
        String closed = withoutStates(Given.answers(x));
        x.term();
        due.is("undo of term", x.undo(), 3);
        due.same("closed", withoutStates(Given.answers(x)), closed);
        due.is("undo of close", x.undo(), 2);
        due.same("open", withoutStates(Given.answers(x)), open);
        due.is("close once more", x.close(), 1);
        due.same("closed once more", withoutStates(Given.answers(x)), closed);
    }

    /** What came in the place of what was undone is gone with its own undoing, down to the last number. */
    private void everythingOfWhatCameAgain() {
        due.sentence("each change records everything before it: what a class, a room and a person have");
        EveningClasses x = new EveningClasses();
        x.course(Given.kind(3, 2, 1), 1, 4, 10);
        x.undo();
        x.course(Given.kind(2, 3, 4), 2, 5, 11);
        x.course(Given.kind(0, 0, 0), 1, 1, 1);
        x.room(7);
        x.join(1, 0, -1);
        String before = withoutStates(Given.answers(x));
        x.undo();
        x.undo();
        x.undo();
        x.undo();
        x.course(Given.kind(1, 1, 1), 3, 3, 33);
        x.undo();
        x.course(Given.kind(2, 3, 4), 2, 5, 11);
        x.course(Given.kind(0, 0, 0), 1, 1, 1);
        x.room(7);
        x.join(1, 0, -1);
        due.same("answers", withoutStates(Given.answers(x)), before);
        x.room(9);
        x.undo();
        due.same("answers, undone", withoutStates(Given.answers(x)), before);
        EveningClasses y = new EveningClasses();
        y.course(Given.kind(3, 2, 1), 1, 4, 10);
        y.room(5);
        y.undo();
        y.undo();
        y.room(6);
        y.course(Given.kind(2, 3, 4), 2, 5, 11);
        y.undo();
        due.is("a room of before", y.roomOf(0, 0), 6);
        y.course(Given.kind(2, 3, 4), 2, 5, 11);
        y.close();
        y.undo();
        int[] want = {2, 3, 4, 2, 5, 11};
        for (int what = 0; what < want.length; what++) {
            due.is("class of before: " + what, y.courseOf(0, what), want[what]);
        }
    }

    private void undoReturnsWhatIsLeft() {
        due.sentence("undo: Returns the number of states that are left in the history");
        EveningClasses x = new EveningClasses();
        x.room(1);
        due.is("one", x.undo(), 0);
        x.room(1);
        x.room(1);
        due.is("two", x.undo(), 1);
        x.room(1);
        x.room(1);
        x.room(1);
        x.room(1);
        for (int left = 3; left >= 0; left--) {
            due.is("of four", x.undo(), left);
            due.is("count", x.count(16), left);
        }
    }

    /** Each kind of change, undone, leaves every answer as it was before it. */
    private void undoOfEach() {
        due.sentence("Restores the latest state of the history, which is removed from it.");
        for (int kind = 0; kind < 8; kind++) {
            EveningClasses x = some();
            if (kind == 6) {
                x.close();
            }
            Given.put(x, kind == 7 ? "join 1;leave 0;close;term;" : "");
            x.undo();
            x.play();
            String before = withoutStates(Given.answers(x));
            int states = x.count(16);
            int answer = change(x, kind);
            due.is("change " + kind + " is no error", answer >= 0 ? 1 : 0, 1);
            due.is("it changes something", withoutStates(Given.answers(x)).equals(before) ? 1 : 0, 0);
            due.is("undo " + kind, x.undo(), Math.min(states, 3));
            due.same("answers behind undo " + kind, withoutStates(Given.answers(x)), before);
        }
    }

    private static int change(EveningClasses x, int kind) {
        switch (kind) {
            case 0: return x.course(5, 1, 2, 3);
            case 1: return x.room(3);
            case 2: return x.join(1, 0, -1);
            case 3: return x.wish(0, 1, -1, -1);
            case 4: return x.leave(0);
            case 5: return x.close();
            case 6: return x.count(8) == 1 ? x.term() : x.close();
            default: return x.count(8) == 1 ? x.term() : x.play();
        }
    }

    private void undoRefused() {
        due.sentence("undo: NOT_POSSIBLE if it is empty.");
        EveningClasses x = new EveningClasses();
        due.is("a new object", x.undo(), Given.IMPOSSIBLE);
        x.room(0);
        due.is("behind an error", x.undo(), Given.IMPOSSIBLE);
        x.room(1);
        due.is("one", x.undo(), 0);
        due.is("no more", x.undo(), Given.IMPOSSIBLE);
        due.is("states", x.count(16), 0);
        x.room(1);
        due.is("one again", x.undo(), 0);
    }

    private void changesBehindAnUndo() {
        due.sentence("a change behind an undo is recorded in the place of what was undone");
        EveningClasses x = new EveningClasses();
        x.room(1);
        x.room(2);
        x.undo();
        x.room(3);
        x.room(4);
        due.is("states", x.count(16), 3);
        x.undo();
        due.is("rooms", x.count(1), 2);
        due.is("the new one", x.roomOf(1, 0), 3);
        x.undo();
        due.is("one room", x.count(1), 1);
        due.is("what was undone is gone", x.roomOf(1, 0), Given.INVALID);
        due.is("the first one", x.undo(), 0);
        due.is("none", x.count(1), 0);
    }

    /** Changes and undos, so many that each place in which a state is kept is used again and again. */
    private void historyGoesRound() {
        due.sentence("the latest state of the history, behind many changes and undos");
        EveningClasses x = Given.apart(20);
        int people = 0;
        for (int turn = 0; turn < 12; turn++) {
            int more = 1 + turn % 7;
            for (int person = people; person < people + more; person++) {
                due.is("join", x.join(0, -1, -1), person);
            }
            people += more;
            int less = Math.min(more - 1, 4);
            for (int undone = 1; undone <= less; undone++) {
                due.is("states", x.undo() >= 0 ? 1 : 0, 1);
                due.is("people", x.count(2), people - undone);
                due.is("last one", x.member(0, people - undone - 1), people - undone - 1);
                due.is("no one more", x.member(0, people - undone), Given.MISSING);
            }
            people -= less;
        }
    }

    private void invalidAheadOfNotPossible() {
        due.sentence("INVALID_ARGUMENT is returned rather than NOT_POSSIBLE");
        EveningClasses x = some();
        x.leave(1);
        x.close();
        due.is("course", x.course(80, 1, 1, 1), Given.INVALID);
        due.is("room", x.room(31), Given.INVALID);
        due.is("join", x.join(2, -1, -1), Given.INVALID);
        due.is("wish of nobody", x.wish(3, 0, -1, -1), Given.INVALID);
        due.is("wish for no class", x.wish(0, 2, -1, -1), Given.INVALID);
        due.is("wish of one who left", x.wish(1, 0, 0, -1), Given.INVALID);
        due.is("leave", x.leave(3), Given.INVALID);
        due.is("ifClose", x.ifClose(6), Given.INVALID);
        due.is("beside", x.beside(2), Given.INVALID);
        due.is("ifJoin", x.ifJoin(2), Given.INVALID);
    }

    private static EveningClasses full() {
        EveningClasses x = Given.apart(1, 1, 1, 1, 1, 1, 1, 1);
        Given.rooms(x, 1, 1, 1, 1, 1);
        Given.come(x, 0, 30);
        return x;
    }

    private void notPossibleAheadOfLimit() {
        due.sentence("NOT_POSSIBLE rather than LIMIT_REACHED");
        EveningClasses x = full();
        due.is("course, open", x.course(0, 1, 1, 1), Given.LIMIT);
        due.is("room, open", x.room(1), Given.LIMIT);
        due.is("join, open", x.join(0, -1, -1), Given.LIMIT);
        due.is("ifJoin, open", x.ifJoin(0), Given.LIMIT);
        x.close();
        due.is("course", x.course(0, 1, 1, 1), Given.IMPOSSIBLE);
        due.is("room", x.room(1), Given.IMPOSSIBLE);
        due.is("join", x.join(0, -1, -1), Given.IMPOSSIBLE);
        due.is("ifJoin", x.ifJoin(0), Given.IMPOSSIBLE);
    }

    private void invalidAheadOfLimit() {
        due.sentence("INVALID_ARGUMENT rather than LIMIT_REACHED");
        EveningClasses x = full();
        due.is("course", x.course(0, 1, 1, -1), Given.INVALID);
        due.is("room", x.room(0), Given.INVALID);
        due.is("join", x.join(8, -1, -1), Given.INVALID);
        due.is("ifJoin", x.ifJoin(8), Given.INVALID);
        while (x.count(17) < 60) {
            x.type('a');
        }
        due.is("type", x.type('a'), Given.LIMIT);
        due.is("type of a wrong one", x.type(127), Given.INVALID);
    }

    private void invalidAheadOfNotFound() {
        due.sentence("INVALID_ARGUMENT rather than NOT_FOUND");
        EveningClasses x = new EveningClasses();
        due.is("courseOf 9", x.courseOf(0, 9), Given.INVALID);
        due.is("courseOf 10", x.courseOf(0, 10), Given.INVALID);
        due.is("member", x.member(0, 0), Given.INVALID);
        due.is("waits", x.waits(0, 0), Given.INVALID);
        due.is("personOf 1", x.personOf(0, 1), Given.INVALID);
        due.is("roomOf 2", x.roomOf(0, 2), Given.INVALID);
        due.is("beside", x.beside(0), Given.INVALID);
        due.is("fault of no text", x.fault(3), Given.INVALID);
        due.is("fault of no text", x.fault(2), Given.MISSING);
    }

    private void notPossibleAheadOfNotFound() {
        due.sentence("NOT_POSSIBLE rather than .. NOT_FOUND");
        EveningClasses x = Given.apart(1);
        due.is("without people", x.beside(0), Given.MISSING);
        x.close();
        due.is("without people, and not open", x.beside(0), Given.IMPOSSIBLE);
    }

    private void unchanged(String call, EveningClasses x, String before, int answer) {
        due.is(call + " is an error", answer < 0 ? 1 : 0, 1);
        due.same(call + " changes nothing", Given.answers(x), before);
    }

    private void errorsChangeNothing() {
        due.sentence("A call that returns an error changes nothing.");
        EveningClasses x = some();
        x.leave(1);
        Given.put(x, "join 1;leave 0;leave 0;");
        String before = Given.answers(x);
        unchanged("course", x, before, x.course(80, 1, 1, 1));
        unchanged("room", x, before, x.room(0));
        unchanged("join", x, before, x.join(0, 1, 0));
        x = some();
        x.leave(1);
        Given.put(x, "join 1;leave 0;leave 0;");
        unchanged("wish", x, before, x.wish(2, 1, 1, -1));
        unchanged("wish of one who left", x, before, x.wish(1, 1, -1, -1));
        unchanged("leave of one who left", x, before, x.leave(1));
        x = some();
        x.leave(1);
        Given.put(x, "join 1;leave 0;leave 0;");
        unchanged("term", x, before, x.term());
        unchanged("play", x, before, x.play());
        unchanged("type", x, before, x.type(31));
        due.is("the history is the one of before", x.undo(), 3);
        due.is("undone", x.personOf(1, 0), 1);
    }

    private void errorsOfAClosedTermChangeNothing() {
        due.sentence("A call that returns an error changes nothing, in a closed term.");
        for (int kind = 0; kind < 8; kind++) {
            EveningClasses x = some();
            x.close();
            Given.put(x, "term;close;close;");
            String before = Given.answers(x);
            int answer = kind == 5 ? x.close() : kind == 6 ? x.wish(0, 1, -1, -1) : kind == 7 ? x.play() : change(x, kind);
            due.is("call " + kind, answer, Given.IMPOSSIBLE);
            due.same("call " + kind + " changes nothing", Given.answers(x), before);
        }
    }

    private void errorsAtTheLimitsChangeNothing() {
        due.sentence("A call that returns an error changes nothing, at the limits.");
        EveningClasses x = full();
        x.course(0, 1, 1, 1);
        x.room(30);
        x.join(1, -1, -1);
        due.is("classes", x.count(0), 8);
        due.is("rooms", x.count(1), 5);
        due.is("people", x.count(2), 30);
        due.is("chairs", x.roomOf(4, 0), 1);
        due.is("last class", x.courseOf(7, 5), 80);
        due.is("last person", x.personOf(29, 5), 0);
        due.is("nobody in class 1", x.courseOf(1, 7), 0);
        EveningClasses y = new EveningClasses();
        for (int length = 0; length < 60; length++) {
            y.type(length < 55 ? 'a' : "term;".charAt(length - 55));
        }
        y.type(';');
        due.is("length", y.count(17), 60);
        due.is("text", y.fault(2), 0);
    }

    private void noSuchNumber() {
        due.sentence("If there is no class, room or person with a certain number, this is INVALID_ARGUMENT.");
        EveningClasses x = some();
        for (int number : new int[] {-1, 3, 5, 8, 29, 30, 31, Given.LOWEST, Given.HIGHEST}) {
            due.is("courseOf " + number, x.courseOf(number, 0), Given.INVALID);
            due.is("member " + number, x.member(number, 0), Given.INVALID);
            due.is("waits " + number, x.waits(number, 0), Given.INVALID);
            due.is("beside " + number, x.beside(number), Given.INVALID);
            due.is("ifJoin " + number, x.ifJoin(number), Given.INVALID);
            due.is("roomOf " + number, x.roomOf(number, 0), Given.INVALID);
            due.is("personOf " + number, x.personOf(number, 0), Given.INVALID);
            due.is("wish " + number, x.wish(number, 0, -1, -1), Given.INVALID);
            due.is("leave " + number, x.leave(number), Given.INVALID);
            due.is("join " + number, x.join(number, -1, -1), Given.INVALID);
        }
        withoutHistory(x);
        due.is("a person who was undone", x.personOf(2, 0), Given.INVALID);
        EveningClasses y = new EveningClasses();
        y.course(0, 1, 1, 1);
        y.room(1);
        withoutHistory(y);
        due.is("a class that was undone", y.courseOf(0, 0), Given.INVALID);
        due.is("a room that was undone", y.roomOf(0, 0), Given.INVALID);
    }

    private void constants() {
        due.sentence("INVALID_ARGUMENT = -1000001, NOT_POSSIBLE = -1000002, LIMIT_REACHED = -1000003, NOT_FOUND = -1000004");
        due.is("INVALID_ARGUMENT", EveningClasses.INVALID_ARGUMENT, -1000001);
        due.is("NOT_POSSIBLE", EveningClasses.NOT_POSSIBLE, -1000002);
        due.is("LIMIT_REACHED", EveningClasses.LIMIT_REACHED, -1000003);
        due.is("NOT_FOUND", EveningClasses.NOT_FOUND, -1000004);
    }

    /** 2 calls, then 102 rounds of 5 calls. */
    private void fiveHundredAndTwelveCalls() {
        due.sentence("An object is used for at most 512 calls");
        EveningClasses x = new EveningClasses();
        due.is("call 1", x.course(0, 1, 20, 99), 0);
        due.is("call 2", x.room(1), 0);
        for (int round = 1; round <= 102; round++) {
            due.is("join", x.join(0, -1, -1), 0);
            due.is("close", x.close(), 1);
            due.is("paid", x.count(9), 99 * round);
            due.is("term", x.term(), round);
            due.is("stayed paid", x.count(12), 99 * round);
        }
    }
}
