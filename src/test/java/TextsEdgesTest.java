/** "Texts" and the promises 20 to 23: each sentence that names an edge, by a test of its own. */
public final class TextsEdgesTest {
    private final Due due = new Due();

    public static void main(String[] args) {
        TextsEdgesTest test = new TextsEdgesTest();
        test.atMostSixtyCharacters();
        test.initiallyEmpty();
        test.eachFollowedBySemicolon();
        test.blankBehindTheWord();
        test.commaBetweenTwo();
        test.joinNumbers();
        test.wishNumbers();
        test.leaveNumbers();
        test.closeAndTermWithoutNumbers();
        test.oneOrTwoDigits();
        test.zeroAhead();
        test.allNumbersOfTwoDigits();
        test.firstOrderThatIsNotPossible();
        test.positionOfTheOrder();
        test.reasonOne();
        test.reasonTwo();
        test.whenThoseAheadAreDone();
        test.causeIsTheFirstThatDoesNotFit();
        test.wordIsAllLetters();
        test.causeZeroIfNoWord();
        test.endedTooEarly();
        test.lettersToTheEnd();
        test.doesNotFitAheadOfTheEnd();
        test.causeIsTheErrorCode();
        test.theTextStays();
        test.typeRange();
        test.typeRefused();
        test.clearTextReturnsTheLength();
        test.clearedIsEmpty();
        test.faultRefused();
        test.faultNotFound();
        test.faultDoesNothing();
        test.playDoesAllOrders();
        test.playIsOneChange();
        test.playOfNoOrders();
        test.playReturnsHowMany();
        test.playRefused();
        test.playIsAsTheCalls();
        test.due.end();
    }

    /** Three classes with one place each, and a person in class 0, with the wishes 0 and 1. */
    private static EveningClasses typed(String text) {
        EveningClasses x = Given.apart(1, 1, 1);
        x.join(0, 1, -1);
        Given.put(x, text);
        return x;
    }

    private void fault(String text, int position, int reason, int cause) {
        EveningClasses x = typed(text);
        due.is("position of '" + text + "'", x.fault(0), position);
        due.is("reason of '" + text + "'", x.fault(1), reason);
        due.is("cause of '" + text + "'", x.fault(2), cause);
        due.is("play of '" + text + "'", x.play(), Given.IMPOSSIBLE);
    }

    private void form(String text, int cause) {
        fault(text, 0, 1, cause);
    }

    private void good(String text, int orders) {
        EveningClasses x = typed(text);
        for (int what = 0; what <= 2; what++) {
            due.is("fault " + what + " of '" + text + "'", x.fault(what), Given.MISSING);
        }
        due.is("play of '" + text + "'", x.play(), orders);
    }

    private void atMostSixtyCharacters() {
        due.sentence("There is a text of at most 60 characters");
        EveningClasses x = new EveningClasses();
        for (int length = 1; length <= 60; length++) {
            due.is("type", x.type("close;term;".charAt((length - 1) % 11)), length);
        }
        due.is("one more", x.type(';'), Given.LIMIT);
        due.is("length", x.count(17), 60);
        due.is("the last order is not whole", x.fault(0), 55);
        due.is("its length", x.fault(2), 5);
        x.clearText();
        Given.put(x, "close;term;close;term;close;term;close;term;close;close");
        due.is("55 characters", x.count(17), 55);
        Given.put(x, ";term");
        due.is("the second close of two", x.fault(0), 50);
        EveningClasses y = typed("join 01,02,00;join 01,02,00;join 01,02,00;join 01,02,00;le");
        due.is("58 characters", y.count(17), 58);
        Given.put(y, "ave 0;");
        due.is("60 of 64", y.count(17), 60);
        due.is("ended too early", y.fault(2), 4);
        EveningClasses z = typed("join 01,02,00;join 01,02,00;join 01,02,00;join 1,2,0;join 1;");
        due.is("just 60 characters", z.count(17), 60);
        due.is("played", z.play(), 5);
    }

    private void initiallyEmpty() {
        due.sentence("initially empty");
        EveningClasses x = new EveningClasses();
        due.is("length", x.count(17), 0);
        due.is("fault", x.fault(0), Given.MISSING);
        due.is("cleared", x.clearText(), 0);
        due.is("the first character", x.type('t'), 1);
    }

    private void eachFollowedBySemicolon() {
        due.sentence("orders, each followed by \";\"");
        good("close;term;join 1;", 3);
        fault("close;term;join 1", 11, 1, 6);
        fault("close;term", 6, 1, 4);
        fault("close", 0, 1, 5);
        fault("close,term;", 0, 1, 5);
        fault("close term;", 0, 1, 5);
        fault("close:", 0, 1, 5);
        fault("close;;", 6, 1, 0);
        fault("close; term;", 6, 1, 0);
    }

    private void blankBehindTheWord() {
        due.sentence("a word, and behind it, if it has numbers, a blank");
        good("join 1;", 1);
        form("join1;", 4);
        form("join,1;", 4);
        form("join  1;", 5);
        form("wish0,1;", 4);
        form("leave0;", 5);
        form("leave;", 5);
        form(" join 1;", 0);
    }

    private void commaBetweenTwo() {
        due.sentence("and these, with \",\" between two");
        good("join 1,2;", 1);
        form("join 1 2;", 6);
        form("join 1, 2;", 7);
        form("join 1 ,2;", 6);
        form("join 1,,2;", 7);
        form("join ,1;", 5);
        form("join 1,;", 7);
        form("join 1.2;", 6);
        form("wish 0;1;", 6);
    }

    private void joinNumbers() {
        due.sentence("\"join\" one to three wishes");
        form("join ;", 5);
        good("join 1;", 1);
        good("join 1,2;", 1);
        good("join 1,2,0;", 1);
        form("join 1,2,0,1;", 10);
        EveningClasses x = typed("join 2,1;");
        x.play();
        int[] want = {2, 1, Given.MISSING};
        for (int rank = 0; rank < 3; rank++) {
            due.is("wish " + rank, x.personOf(1, 5 + rank), want[rank]);
        }
    }

    private void wishNumbers() {
        due.sentence("\"wish\" person and one to three wishes");
        form("wish ;", 5);
        form("wish 0;", 6);
        good("wish 0,1;", 1);
        good("wish 0,1,2;", 1);
        good("wish 0,1,2,0;", 1);
        form("wish 0,1,2,0,1;", 12);
        EveningClasses x = typed("join 2;wish 1,1,2,0;");
        x.play();
        int[] want = {1, 2, 0};
        for (int rank = 0; rank < 3; rank++) {
            due.is("wish " + rank, x.personOf(1, 5 + rank), want[rank]);
        }
        due.is("the other one's", x.personOf(0, 5), 0);
    }

    private void leaveNumbers() {
        due.sentence("\"leave\" person");
        form("leave ;", 6);
        good("leave 0;", 1);
        form("leave 0,1;", 7);
        EveningClasses x = typed("join 1;leave 0;");
        x.play();
        due.is("left", x.personOf(0, 0), 0);
        due.is("not left", x.personOf(1, 0), 1);
    }

    private void closeAndTermWithoutNumbers() {
        due.sentence("\"close\" or \"term\"");
        good("close;", 1);
        good("close;term;", 2);
        form("close ;", 5);
        form("close 0;", 5);
        form("close0;", 5);
        fault("close;term ;", 6, 1, 4);
        fault("close;term 1;", 6, 1, 4);
    }

    private void oneOrTwoDigits() {
        due.sentence("numbers of 1 or 2 digits");
        good("join 1;", 1);
        good("join 01;", 1);
        form("join 001;", 7);
        form("join 123;", 7);
        form("join 1,123;", 9);
        form("join 12,12,123;", 13);
        form("leave 000;", 8);
        form("wish 000,1;", 7);
        form("join -1;", 5);
        form("join +1;", 5);
        form("join x;", 5);
        form("join /;", 5);
        form("join :;", 5);
        form("join 1/;", 6);
        form("join 1:;", 6);
        fault("join 9;", 0, 2, Given.INVALID);
        fault("join 10;", 0, 2, Given.INVALID);
        fault("join 99;", 0, 2, Given.INVALID);
    }

    private void zeroAhead() {
        due.sentence("0 ahead allowed");
        good("join 0;", 1);
        good("join 00;", 1);
        good("join 00,01,02;wish 00,01;leave 00;", 3);
        fault("join 1,01;", 0, 2, Given.INVALID);
        EveningClasses x = typed("join 02,00;");
        x.play();
        due.is("first", x.personOf(1, 5), 2);
        due.is("second", x.personOf(1, 6), 0);
    }

    /** Each person by a number of one or two digits: who leaves is the one with that number. */
    private void allNumbersOfTwoDigits() {
        due.sentence("numbers of 1 or 2 digits: 10 times the first and the second");
        EveningClasses x = Given.apart(1);
        Given.come(x, 0, 30);
        for (int person = 0; person < 30; person += 3) {
            x.clearText();
            Given.put(x, "leave " + person + ";");
            due.is("play", x.play(), 1);
            due.is("left", x.personOf(person, 0), 0);
            due.is("all that left", x.count(3), 30 - person / 3 - 1);
        }
        x.clearText();
        Given.put(x, "leave 30;");
        due.is("nobody", x.fault(2), Given.INVALID);
    }

    private void firstOrderThatIsNotPossible() {
        due.sentence("of the first order that is not possible");
        fault("leave 5;x;", 0, 2, Given.INVALID);
        fault("x;leave 5;", 0, 1, 0);
        fault("join 1;leave 5;x;", 7, 2, Given.INVALID);
        fault("join 1;x;leave 5;", 7, 1, 0);
        fault("term;term;", 0, 2, Given.IMPOSSIBLE);
        fault("close;close;close;", 6, 2, Given.IMPOSSIBLE);
        fault("leave 1;join 1;", 0, 2, Given.INVALID);
    }

    private void positionOfTheOrder() {
        due.sentence("The fault of the text is the position, from 0, of the first character");
        fault("!", 0, 1, 0);
        fault("join 1;!", 7, 1, 0);
        fault("join 1;join 01;!", 15, 1, 0);
        fault("close;term;close;term;close;term;close;term;close;term;!", 55, 1, 0);
        fault("join 1;join 2;leave 9;", 14, 2, Given.INVALID);
        fault("close;term;close;term;close;term;close;term;close;term;term;", 55, 2, Given.IMPOSSIBLE);
    }

    private void reasonOne() {
        due.sentence("its reason is 1 if it is not of this form, its \";\" included");
        fault("leave 9", 0, 1, 7);
        fault("leave 9;", 0, 2, Given.INVALID);
        fault("term", 0, 1, 4);
        fault("term;", 0, 2, Given.IMPOSSIBLE);
        fault("join 9,9,", 0, 1, 9);
        fault("join 9,9,9,", 0, 1, 10);
    }

    private void reasonTwo() {
        due.sentence("and otherwise 2");
        fault("join 3;", 0, 2, Given.INVALID);
        fault("join 0,0;", 0, 2, Given.INVALID);
        fault("join 0,1,0;", 0, 2, Given.INVALID);
        fault("wish 1,0;", 0, 2, Given.INVALID);
        fault("wish 0,3;", 0, 2, Given.INVALID);
        fault("leave 1;", 0, 2, Given.INVALID);
        fault("term;", 0, 2, Given.IMPOSSIBLE);
        fault("close;close;", 6, 2, Given.IMPOSSIBLE);
    }

    private void whenThoseAheadAreDone() {
        due.sentence("when those ahead of it are done");
        fault("leave 0;leave 0;", 8, 2, Given.IMPOSSIBLE);
        good("join 1;leave 1;", 2);
        fault("leave 1;", 0, 2, Given.INVALID);
        good("close;term;join 0;leave 0;", 4);
        fault("close;term;leave 0;", 11, 2, Given.INVALID);
        fault("close;join 1;", 6, 2, Given.IMPOSSIBLE);
        fault("join 1;leave 1;leave 1;", 15, 2, Given.IMPOSSIBLE);
    }

    private void causeIsTheFirstThatDoesNotFit() {
        due.sentence("its cause is with the reason 1 the position in the order, from 0, of the first character that is not "
                + "fitting");
        form("join!", 4);
        form("join !", 5);
        form("join 1!", 6);
        form("join 12!", 7);
        form("join 12,!", 8);
        form("join 12,1!", 9);
        form("join 12,12!", 10);
        form("join 12,12,!", 11);
        form("join 12,12,12!", 13);
        form("wish 12!", 7);
        form("wish 12;", 7);
        form("wish 12,12,12,12!", 16);
        form("wish 12,12,12,12,", 16);
        form("leave 12!", 8);
        form("leave 12,", 8);
        form("term!", 4);
        form("close!!", 5);
        fault("join 1;join 1;leave 0;join 1,!", 22, 1, 7);
    }

    private void wordIsAllLetters() {
        due.sentence("(the word is all letters from a to z that the order begins with");
        form("joina 1;", 0);
        form("joinz 1;", 0);
        form("join` 1;", 4);
        form("join{ 1;", 4);
        form("joinA 1;", 4);
        form("joinZ 1;", 4);
        form("join0 1;", 4);
        form("termclose;", 0);
        form("closeterm;", 0);
    }

    private void causeZeroIfNoWord() {
        due.sentence("0, if that is none of these words");
        form(";", 0);
        form(" ", 0);
        form("1", 0);
        form("~", 0);
        form("`", 0);
        form("{", 0);
        form("a;", 0);
        form("z;", 0);
        form("joi;", 0);
        form("joi n", 0);
        form("jo1n 1;", 0);
        form("oin 1;", 0);
        form("xjoin 1;", 0);
        form("boin 1;", 0);
        form("fish 0,1;", 0);
        form("heave 0;", 0);
        form("germ;", 0);
        form("joim 1;", 0);
        form("Join 1;", 0);
        form("TERM;", 0);
        form("wis 0,1;", 0);
        form("wishe 0,1;", 0);
        form("leav 0;", 0);
        form("leaves 0;", 0);
        form("clos;", 0);
        form("closed;", 0);
        form("ter;", 0);
        form("terms;", 0);
        form("course 0;", 0);
        form("undo;", 0);
        form("play;", 0);
    }

    private void endedTooEarly() {
        due.sentence("but of an order that the text ends too early .. it is its length");
        form("join ", 5);
        form("join 1", 6);
        form("join 12", 7);
        form("join 1,", 7);
        form("join 1,2", 8);
        form("join 1,2,", 9);
        form("join 1,2,0", 10);
        form("join 01,02,00", 13);
        form("wish 0", 6);
        form("wish 00,01,02,00", 16);
        form("leave ", 6);
        form("leave 00", 8);
        fault("join 1;join 1;leave ", 14, 1, 6);
        fault("close;wish 00,", 6, 1, 8);
    }

    private void lettersToTheEnd() {
        due.sentence("and of one whose letters go on to the end of the text, it is its length)");
        form("j", 1);
        form("a", 1);
        form("z", 1);
        form("join", 4);
        form("joinjoin", 8);
        form("wish", 4);
        form("leave", 5);
        form("close", 5);
        form("term", 4);
        form("terms", 5);
        form("nothing", 7);
        fault("close;te", 6, 1, 2);
        fault("close;nothing", 6, 1, 7);
        String letters = "abcdefghijklmnopqrstuvwxyz";
        form(letters, 26);
        form(letters + letters + letters.substring(0, 8), 60);
    }

    private void doesNotFitAheadOfTheEnd() {
        due.sentence("of the first character that is not fitting: also if the text ends without a \";\"");
        form("joi 1", 0);
        form("join 1,2,0,", 10);
        form("join 1 ", 6);
        form("join 123", 7);
        form("leave 0,", 7);
        form("close ", 5);
        form("term1", 4);
    }

    private void causeIsTheErrorCode() {
        due.sentence("and with the reason 2 the error code that the call returns for it.");
        fault("join 0,3;", 0, 2, Given.INVALID);
        fault("leave 0;wish 0,1;", 8, 2, Given.IMPOSSIBLE);
        fault("close;join 3;", 6, 2, Given.INVALID);
        fault("close;leave 0;", 6, 2, Given.IMPOSSIBLE);
        fault("close;leave 1;", 6, 2, Given.INVALID);
        EveningClasses x = typed("join 0;join 0;join 0;");
        while (x.count(2) < 28) {
            x.join(0, -1, -1);
        }
        due.is("position of person 31", x.fault(0), 14);
        due.is("reason of person 31", x.fault(1), 2);
        due.is("cause of person 31", x.fault(2), Given.LIMIT);
        x.join(0, -1, -1);
        x.join(0, -1, -1);
        due.is("position with 30 people", x.fault(0), 0);
        due.is("cause with 30 people", x.fault(2), Given.LIMIT);
    }

    private void theTextStays() {
        due.sentence("The text stays, whether it has a fault or not.");
        EveningClasses x = typed("join 1;leave 0;");
        x.fault(0);
        due.is("behind fault", x.count(17), 15);
        due.is("play", x.play(), 2);
        due.is("behind play", x.count(17), 15);
        due.is("it has a fault now", x.fault(0), 7);
        due.is("play", x.play(), Given.IMPOSSIBLE);
        due.is("behind a play that is refused", x.count(17), 15);
        x.undo();
        due.is("behind undo", x.count(17), 15);
        due.is("no fault again", x.fault(0), Given.MISSING);
        due.is("play again", x.play(), 2);
        x.close();
        x.term();
        due.is("in the next term", x.count(17), 15);
        due.is("goes on", x.type('c'), 16);
    }

    private void typeRange() {
        due.sentence("type: character: 32 to 126");
        EveningClasses x = new EveningClasses();
        for (int wrong : new int[] {31, 127, 0, -1, 10, 128, 255, 65536 + ';', Given.LOWEST, Given.HIGHEST}) {
            due.is("type " + wrong, x.type(wrong), Given.INVALID);
        }
        due.is("nothing is typed", x.count(17), 0);
        for (int character = 32; character <= 90; character++) {
            due.is("type " + character, x.type(character), character - 31);
        }
        x.clearText();
        for (int character = 91; character <= 126; character++) {
            due.is("type " + character, x.type(character), character - 90);
        }
    }

    private void typeRefused() {
        due.sentence("type: Returns the length of the text; INVALID_ARGUMENT if character is out of range; LIMIT_REACHED if "
                + "it has 60 characters.");
        EveningClasses x = new EveningClasses();
        for (int length = 1; length <= 60; length++) {
            due.is("length", x.type(' '), length);
        }
        due.is("full", x.type(32), Given.LIMIT);
        due.is("full, and wrong", x.type(31), Given.INVALID);
        due.is("full, and wrong", x.type(127), Given.INVALID);
        due.is("length", x.count(17), 60);
        x.clearText();
        due.is("from the first one", x.type('a'), 1);
        x.close();
        due.is("in a closed term", x.type('b'), 2);
    }

    private void clearTextReturnsTheLength() {
        due.sentence("clearText: Returns the length it had.");
        EveningClasses x = new EveningClasses();
        due.is("empty", x.clearText(), 0);
        for (int length : new int[] {1, 7, 59, 60}) {
            for (int place = 0; place < length; place++) {
                x.type('a');
            }
            due.is("length " + length, x.clearText(), length);
            due.is("empty then", x.clearText(), 0);
        }
    }

    private void clearedIsEmpty() {
        due.sentence("clearText: Empties the text.");
        EveningClasses x = typed("join 1;join 1;nonsense");
        x.clearText();
        due.is("length", x.count(17), 0);
        due.is("no fault", x.fault(0), Given.MISSING);
        due.is("no orders", x.play(), 0);
        Given.put(x, "join 1");
        due.is("what was there does not go on", x.fault(2), 6);
        x.clearText();
        Given.put(x, "leave 0;");
        due.is("the new text is played", x.play(), 1);
    }

    private void faultRefused() {
        due.sentence("fault: INVALID_ARGUMENT if what is out of range");
        EveningClasses x = typed("x");
        for (int wrong : new int[] {-1, 3, Given.LOWEST, Given.HIGHEST}) {
            due.is("fault " + wrong, x.fault(wrong), Given.INVALID);
            due.is("fault " + wrong + " of a good text", typed("close;").fault(wrong), Given.INVALID);
        }
        due.is("position", x.fault(0), 0);
        due.is("reason", x.fault(1), 1);
        due.is("cause", x.fault(2), 1);
    }

    private void faultNotFound() {
        due.sentence("fault: NOT_FOUND if the text has no fault (also if it is empty).");
        good("", 0);
        good("close;", 1);
        EveningClasses x = typed("close;");
        x.close();
        due.is("a fault in a closed term", x.fault(0), 0);
        x.undo();
        for (int what = 0; what <= 2; what++) {
            due.is("undone: fault " + what, x.fault(what), Given.MISSING);
        }
        Given.put(x, "x;");
        due.is("one behind", x.fault(0), 6);
        x.clearText();
        due.is("cleared", x.fault(2), Given.MISSING);
    }

    private void faultDoesNothing() {
        due.sentence("Tells about the fault of the text.");
        EveningClasses x = typed("join 1;leave 0;close;term;x");
        String before = Given.answers(x);
        for (int what = 0; what <= 2; what++) {
            x.fault(what);
        }
        due.same("fault changes nothing", Given.answers(x), before);
        due.is("closed", x.count(8), 0);
        due.is("states", x.count(16), 4);
    }

    private void playDoesAllOrders() {
        due.sentence("Does all orders of the text, which stays.");
        EveningClasses x = typed("wish 0,2;join 0,1;leave 0;join 2,0;close;term;join 1;");
        due.is("play", x.play(), 7);
        due.is("term", x.count(7), 1);
        due.is("people", x.count(2), 1);
        due.is("wish", x.personOf(0, 5), 1);
        due.is("paid: two came into 0, two into 2, one into 1", x.count(9), 10 + 30 + 10 + 30 + 20);
        due.is("back", x.count(10), 80);
        due.is("cancelled", x.count(15), 3);
        due.is("the text stays", x.count(17), 53);
    }

    private void playIsOneChange() {
        due.sentence("They are one change");
        EveningClasses x = typed("join 1;join 1;join 1;join 1;join 1;");
        x.undo();
        due.is("states", x.count(16), 3);
        due.is("play", x.play(), 5);
        due.is("one more", x.count(16), 4);
        due.is("five people", x.count(2), 5);
        due.is("undo", x.undo(), 3);
        due.is("nobody", x.count(2), 0);
        due.is("undo of the class", x.undo(), 2);
        due.is("two classes", x.count(0), 2);
    }

    private void playOfNoOrders() {
        due.sentence("They are one change, also if there are none.");
        EveningClasses x = new EveningClasses();
        due.is("play", x.play(), 0);
        due.is("states", x.count(16), 1);
        x.room(1);
        x.play();
        due.is("states", x.count(16), 3);
        due.is("undo of play", x.undo(), 2);
        due.is("the room is there", x.count(1), 1);
        due.is("undo of room", x.undo(), 1);
        due.is("no room", x.count(1), 0);
        x.close();
        due.is("in a closed term", x.play(), 0);
        due.is("states", x.count(16), 3);
    }

    private void playReturnsHowMany() {
        due.sentence("play: Returns how many there are in it");
        good("", 0);
        good("close;", 1);
        good("close;term;", 2);
        good("close;term;close;term;close;term;close;term;close;term;", 10);
        good("join 1;join 1;join 1;join 1;join 1;join 1;join 1;leave 0;", 8);
    }

    private void playRefused() {
        due.sentence("play: NOT_POSSIBLE if it has a fault.");
        for (String text : new String[] {"x", "join 1;leave 0;x;", "join 1;leave 0;leave 0;", "close;term;close;term"}) {
            EveningClasses x = typed(text);
            String before = Given.answers(x);
            due.is("play of " + text, x.play(), Given.IMPOSSIBLE);
            due.same("it changes nothing", Given.answers(x), before);
        }
        EveningClasses y = typed("close;");
        y.close();
        due.is("close in a closed term", y.play(), Given.IMPOSSIBLE);
        due.is("it is closed still", y.count(8), 1);
    }

    /** The orders one by one, each as a text or as a call, leave the same behind. */
    private void playIsAsTheCalls() {
        due.sentence("Does all orders: each as its call does, all settled behind it");
        EveningClasses x = typed("join 0,1;join 1,2,0;wish 1,0,2,1;leave 0;join 1;close;");
        EveningClasses y = typed("join 0,1;join 1,2,0;wish 1,0,2,1;leave 0;join 1;close;");
        due.is("play", x.play(), 6);
        y.join(0, 1, -1);
        y.join(1, 2, 0);
        y.wish(1, 0, 2, 1);
        y.leave(0);
        y.join(1, -1, -1);
        y.close();
        due.same("answers", Given.answers(x), Given.answers(y));
        EveningClasses z = typed("leave 0;join 0;leave 1;");
        z.play();
        due.is("who came between came", z.personOf(1, 4), 1);
        due.is("paid", z.count(9), 20);
    }
}
