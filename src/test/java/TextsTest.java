/** Promises 20 to 23: type, clearText, fault, play. */
public final class TextsTest {
    private static final int INVALID = EveningClasses.INVALID_ARGUMENT;
    private static final int IMPOSSIBLE = EveningClasses.NOT_POSSIBLE;
    private static final int LIMIT = EveningClasses.LIMIT_REACHED;
    private static final int MISSING = EveningClasses.NOT_FOUND;

    private final Due due = new Due();

    public static void main(String[] args) {
        TextsTest test = new TextsTest();
        test.promise20();
        test.promise21();
        test.promise22();
        test.promise22Words();
        test.promise22Numbers();
        test.promise22Ends();
        test.promise22Calls();
        test.promise23();
        test.promise23Settles();
        test.promise23Errors();
        test.due.end();
    }

    private static EveningClasses typed(String text) {
        EveningClasses x = new EveningClasses();
        x.course(0, 1, 1, 10);
        x.course(1, 1, 1, 20);
        x.course(2, 1, 1, 30);
        x.join(0, 1, -1);
        put(x, text);
        return x;
    }

    private static void put(EveningClasses x, String text) {
        for (int place = 0; place < text.length(); place++) {
            x.type(text.charAt(place));
        }
    }

    private void fault(String text, int position, int reason, int cause) {
        EveningClasses x = typed(text);
        due.is("position of '" + text + "'", x.fault(0), position);
        due.is("reason of '" + text + "'", x.fault(1), reason);
        due.is("cause of '" + text + "'", x.fault(2), cause);
        due.is("play of '" + text + "'", x.play(), IMPOSSIBLE);
        due.is("nothing is changed by '" + text + "'", x.count(16) * 100 + x.count(2), 401);
        due.is("the text stays", x.clearText(), text.length());
    }

    private void good(String text, int orders) {
        EveningClasses x = typed(text);
        for (int what = 0; what <= 2; what++) {
            due.is("fault " + what + " of '" + text + "'", x.fault(what), MISSING);
        }
        due.is("play of '" + text + "'", x.play(), orders);
    }

    private void promise20() {
        EveningClasses x = new EveningClasses();
        due.is("type 32", x.type(32), 1);
        due.is("type 126", x.type(126), 2);
        for (int wrong : new int[] {31, 127, 0, -1, ';' + 65536, 256, Integer.MIN_VALUE, Integer.MAX_VALUE}) {
            due.is("type " + wrong, x.type(wrong), INVALID);
        }
        due.is("length", x.count(17), 2);
        for (int length = 3; length <= 60; length++) {
            due.is("type", x.type('a'), length);
        }
        due.is("type of one more", x.type('a'), LIMIT);
        due.is("type of a wrong one", x.type(127), INVALID);
        due.is("length", x.count(17), 60);
        due.is("typing is no change", x.count(16), 0);
        due.is("cause of a full text", x.fault(2), 0);
        x.close();
        x.undo();
        due.is("undo leaves the text", x.count(17), 60);
    }

    private void promise21() {
        EveningClasses x = new EveningClasses();
        due.is("clear of none", x.clearText(), 0);
        put(x, "term;");
        due.is("clear", x.clearText(), 5);
        due.is("length", x.count(17), 0);
        due.is("clear again", x.clearText(), 0);
        due.is("no fault", x.fault(0), MISSING);
        due.is("type", x.type('c'), 1);
        due.is("clearing is no change", x.count(16), 0);
        put(x, "lose;");
        due.is("the new text counts", x.play(), 1);
        x.clearText();
        put(x, "term;");
        x.clearText();
        put(x, "term");
        due.is("what was cleared does not count", x.fault(2), 4);
    }

    private void promise22() {
        EveningClasses x = typed("");
        due.is("no text, no fault", x.fault(0), MISSING);
        for (int wrong : new int[] {-1, 3, Integer.MIN_VALUE, Integer.MAX_VALUE}) {
            due.is("fault " + wrong, x.fault(wrong), INVALID);
            due.is("fault " + wrong + " of a text", typed("x;").fault(wrong), INVALID);
        }
        good("join 1;", 1);
        good("join 1,2;", 1);
        good("join 1,2,0;", 1);
        good("wish 0,1;", 1);
        good("wish 0,1,2;", 1);
        good("wish 0,1,2,0;", 1);
        good("leave 0;", 1);
        good("close;", 1);
        good("close;term;", 2);
        good("join 00,01,02;wish 01,2;leave 01;close;term;join 0;", 6);
        EveningClasses y = typed("join 1;close;");
        y.fault(0);
        due.is("fault does nothing", y.count(2) * 10 + y.count(8), 10);
    }

    private void promise22Words() {
        fault(";", 0, 1, 0);
        fault("joi;", 0, 1, 0);
        fault("joinx 1;", 0, 1, 0);
        fault("Join 1;", 0, 1, 0);
        fault("JOIN 1;", 0, 1, 0);
        fault(" join 1;", 0, 1, 0);
        fault(" ", 0, 1, 0);
        fault("closed;", 0, 1, 0);
        fault("terms;", 0, 1, 0);
        fault("room 1;", 0, 1, 0);
        fault("0;", 0, 1, 0);
        fault("join 1;;", 7, 1, 0);
        fault("join 1; leave 0;", 7, 1, 0);
        fault("close;join;", 6, 1, 4);
        fault("joinX 1;", 0, 1, 4);
        fault("close ;", 0, 1, 5);
        fault("close 1;", 0, 1, 5);
        fault("term,;", 0, 1, 4);
        fault("term1;", 0, 1, 4);
        fault("join;", 0, 1, 4);
        fault("wish;", 0, 1, 4);
        fault("leave;", 0, 1, 5);
        fault("leave0;", 0, 1, 5);
    }

    private void promise22Numbers() {
        fault("join ;", 0, 1, 5);
        fault("join  1;", 0, 1, 5);
        fault("join -1;", 0, 1, 5);
        fault("join a;", 0, 1, 5);
        fault("join 1,;", 0, 1, 7);
        fault("join 1, 2;", 0, 1, 7);
        fault("join 1 ;", 0, 1, 6);
        fault("join 1 2;", 0, 1, 6);
        fault("join 001;", 0, 1, 7);
        fault("join 1,002;", 0, 1, 9);
        fault("join 1,2,0,;", 0, 1, 10);
        fault("join 1,2,0,1;", 0, 1, 10);
        fault("join 01,02,00,1;", 0, 1, 13);
        fault("join 01,02,00,", 0, 1, 13);
        fault("wish 0;", 0, 1, 6);
        fault("wish 00;", 0, 1, 7);
        fault("wish 0,;", 0, 1, 7);
        fault("wish 0,1,2,0,1;", 0, 1, 12);
        fault("leave 0,1;", 0, 1, 7);
        fault("leave 0.", 0, 1, 7);
        fault("leave 000;", 0, 1, 8);
        fault("join /;", 0, 1, 5);
        fault("join :;", 0, 1, 5);
        fault("join 1;wish 0,1;leave 0,0;", 16, 1, 7);
    }

    private void promise22Ends() {
        fault("j", 0, 1, 1);
        fault("zzz", 0, 1, 3);
        fault("join", 0, 1, 4);
        fault("joinx", 0, 1, 5);
        fault("close", 0, 1, 5);
        fault("join ", 0, 1, 5);
        fault("join 1", 0, 1, 6);
        fault("join 12", 0, 1, 7);
        fault("join 1,", 0, 1, 7);
        fault("join 1,2,0", 0, 1, 10);
        fault("wish 0", 0, 1, 6);
        fault("leave 00", 0, 1, 8);
        fault("term", 0, 1, 4);
        fault("close;term", 6, 1, 4);
        fault("close;xyzxyz", 6, 1, 6);
        fault("close;term;leave 1", 11, 1, 7);
        String full = "close;term;close;term;close;term;close;term;close;term;join 0";
        fault(full.substring(0, 60), 55, 1, 5);
        fault(full.substring(0, 59), 55, 1, 4);
    }

    private void promise22Calls() {
        fault("join 3;", 0, 2, INVALID);
        fault("join 99;", 0, 2, INVALID);
        fault("join 1,01;", 0, 2, INVALID);
        fault("wish 1,0;", 0, 2, INVALID);
        fault("wish 0,1,2,1;", 0, 2, INVALID);
        fault("leave 30;", 0, 2, INVALID);
        fault("leave 0;leave 0;", 8, 2, IMPOSSIBLE);
        fault("leave 0;wish 0,1;", 8, 2, IMPOSSIBLE);
        fault("term;", 0, 2, IMPOSSIBLE);
        fault("close;close;", 6, 2, IMPOSSIBLE);
        fault("close;join 0;", 6, 2, IMPOSSIBLE);
        fault("close;join 3;", 6, 2, INVALID);
        fault("close;term;leave 0;", 11, 2, INVALID);
        fault("leave 0;leave 0;join", 8, 2, IMPOSSIBLE);
        fault("join 1;leave 1;leave 2;x", 15, 2, INVALID);
        good("join 1;leave 1;", 2);
        EveningClasses x = typed("join 0;join 0;");
        while (x.count(2) < 29) {
            x.join(0, -1, -1);
        }
        due.is("position of person 31", x.fault(0), 7);
        due.is("reason of person 31", x.fault(1), 2);
        due.is("cause of person 31", x.fault(2), LIMIT);
    }

    private void promise23() {
        EveningClasses x = typed("");
        due.is("play of none", x.play(), 0);
        due.is("it is a change", x.undo(), 3);
        due.is("that was dropped", x.count(2), 1);
        x.undo();
        due.is("history", x.count(16), 2);
        put(x, "join 0,2;join 01;leave 0;wish 1,2;");
        due.is("play", x.play(), 4);
        due.is("one change", x.count(16), 3);
        due.is("came", x.count(2), 2);
        due.is("the text stays", x.count(17), 34);
        due.is("first has left", x.personOf(0, 0), 0);
        due.is("second", x.personOf(1, 1), 2);
        due.is("its wishes", x.personOf(1, 6), MISSING);
        due.is("undo of all", x.undo(), 2);
        due.is("came", x.count(2), 0);
        due.is("the text stays", x.count(17), 34);
        due.is("play again", x.play(), 4);
        due.is("play once more, with others", x.play(), IMPOSSIBLE);
        due.is("its fault", x.fault(0), 17);
        x.close();
        x.clearText();
        due.is("play of none in a closed term", x.play(), 0);
        due.is("it is a change", x.count(16), 4);
        put(x, "term;join 2;close;");
        due.is("play through a term", x.play(), 3);
        due.is("number", x.count(7), 1);
        due.is("closed", x.count(8), 1);
        due.is("cancelled without a room", x.courseOf(2, 12), 3);
        due.is("undo", x.undo(), 3);
        due.is("number", x.count(7), 0);
    }

    /** All is settled behind each order, not only behind the last one. */
    private void promise23Settles() {
        EveningClasses x = typed("join 0,1;join 0,1,2;leave 0;leave 1;");
        due.is("play", x.play(), 4);
        due.is("class", x.personOf(2, 1), 0);
        due.is("comings", x.personOf(2, 4), 3);
        due.is("settlings", x.count(13), 6);
        due.is("paid", x.count(9), 10 + 20 + 30 + 10 + 20 + 10);
        due.is("paid back", x.count(10), 10 + 20 + 30 + 10 + 20);
    }

    private void promise23Errors() {
        EveningClasses x = typed("join 0;leave 0;x;");
        due.is("play with a fault", x.play(), IMPOSSIBLE);
        due.is("nobody came", x.count(2), 1);
        due.is("nobody left", x.personOf(0, 0), 1);
        due.is("nothing paid back", x.count(10), 0);
        due.is("history", x.count(16), 4);
        due.is("text", x.count(17), 17);
        x.clearText();
        due.is("play of none", x.play(), 0);
        put(x, "leave 1;");
        due.is("play with an order that is not possible", x.play(), IMPOSSIBLE);
    }
}
