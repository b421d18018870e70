/** The promises 16 to 18 (ifJoin, mean, count): each sentence that names an edge, by a test of its own. */
public final class AsksEdgesTest {
    private static final int[] FAR = {-1, Given.LOWEST, Given.HIGHEST};

    private final Due due = new Due();

    public static void main(String[] args) {
        AsksEdgesTest test = new AsksEdgesTest();
        test.ifJoinRank();
        test.ifJoinTellsWhatJoinBrings();
        test.ifJoinRefused();
        test.meanOfRanks();
        test.meanOfAll();
        test.meanOfNone();
        test.classesAndRooms();
        test.peopleOfThisTerm();
        test.peopleInAClass();
        test.openClasses();
        test.classesWithAPlace();
        test.numberOfTheTerm();
        test.closedOrNot();
        test.coinsPaid();
        test.coinsPaidForClasses();
        test.coinsOfTermsThatAreOver();
        test.accountsAddUp();
        test.comingsBySettling();
        test.mergedAndCancelled();
        test.statesAndLength();
        test.countRefused();
        test.due.end();
    }

    private void ifJoinRank() {
        due.sentence("Tells what rank a person would have, who came now with one wish alone. Returns 0 or 4");
        EveningClasses x = Given.apart(1, 20);
        due.is("an empty class", x.ifJoin(0), 0);
        Given.come(x, 0, 1);
        due.is("a full class", x.ifJoin(0), 4);
        Given.come(x, 1, 19);
        due.is("one place", x.ifJoin(1), 0);
        Given.come(x, 1, 1);
        due.is("none", x.ifJoin(1), 4);
        Given.come(x, 1, 1);
        due.is("none, and one waits", x.ifJoin(1), 4);
        x.leave(0);
        due.is("free again", x.ifJoin(0), 0);
    }

    private void ifJoinTellsWhatJoinBrings() {
        due.sentence("a person .. who came now");
        EveningClasses x = Given.apart(2, 3);
        for (int person = 0; person < 8; person++) {
            int course = person % 2;
            int would = x.ifJoin(course);
            due.is("nobody has come", x.count(2), person);
            x.join(course, -1, -1);
            due.is("rank of " + person, x.personOf(person, 2), would);
        }
        String before = Given.answers(x);
        x.ifJoin(0);
        due.same("it changes nothing", Given.answers(x), before);
    }

    private void ifJoinRefused() {
        due.sentence("ifJoin: INVALID_ARGUMENT; NOT_POSSIBLE if the term is closed; LIMIT_REACHED if there are 30 people.");
        EveningClasses x = new EveningClasses();
        due.is("no classes", x.ifJoin(0), Given.INVALID);
        x.course(0, 1, 20, 1);
        for (int far : FAR) {
            due.is("class " + far, x.ifJoin(far), Given.INVALID);
        }
        due.is("class 1 of 1", x.ifJoin(1), Given.INVALID);
        Given.come(x, 0, 29);
        due.is("29 people", x.ifJoin(0), 4);
        Given.come(x, 0, 1);
        due.is("30 people", x.ifJoin(0), Given.LIMIT);
        due.is("30 people, no class", x.ifJoin(1), Given.INVALID);
        x.leave(0);
        due.is("those who left count", x.ifJoin(0), Given.LIMIT);
        x.close();
        due.is("30 people, closed", x.ifJoin(0), Given.IMPOSSIBLE);
        due.is("all of it", x.ifJoin(1), Given.INVALID);
        x.term();
        x.close();
        due.is("closed, without people", x.ifJoin(0), Given.IMPOSSIBLE);
        due.is("closed, no class", x.ifJoin(-1), Given.INVALID);
    }

    private void mean(EveningClasses x, int ranks, int people) {
        due.is("mean " + ranks + "/" + people, x.mean(), Float.floatToIntBits((float) ranks / (float) people));
    }

    /** Each rank alone, and all parts that one place of rank 0 and the others of rank 4 can give. */
    private void meanOfRanks() {
        due.sentence("the ranks together, as a float, divided by how many people, as a float. Returns the bits of the float");
        EveningClasses x = Given.apart(1, 1, 1);
        x.join(0, 1, 2);
        due.is("rank 0", x.mean(), 0);
        x.join(0, 1, 2);
        due.is("ranks 0 and 1", x.mean(), 0x3f000000);
        x.join(0, 1, 2);
        due.is("ranks 0, 1 and 2", x.mean(), 0x3f800000);
        for (int people = 4; people <= 30; people++) {
            x.join(0, 1, 2);
            mean(x, 3 + 4 * (people - 3), people);
        }
        EveningClasses y = Given.apart(20, 20, 1);
        y.join(2, -1, -1);
        y.join(2, 0, -1);
        for (int people = 3; people <= 30; people++) {
            y.join(people % 2, -1, -1);
            mean(y, 1, people);
        }
    }

    private void meanOfAll() {
        due.sentence("the mean rank of what people have who have not left");
        EveningClasses x = Given.apart(1, 1);
        x.join(0, -1, -1);
        x.join(1, -1, -1);
        x.join(0, -1, -1);
        mean(x, 4, 3);
        x.wish(0, 1, -1, -1);
        mean(x, 3 + 0 + 4, 3);
        x.leave(1);
        mean(x, 0, 2);
        x.wish(0, 0, -1, -1);
        mean(x, 3 + 0, 2);
        x.leave(2);
        due.is("moved", x.mean(), 0);
        x.close();
        due.is("in a closed term", x.mean(), 0x40800000);
    }

    private void meanOfNone() {
        due.sentence("mean: NOT_FOUND if there are none.");
        EveningClasses x = Given.apart(1);
        due.is("nobody came", x.mean(), Given.MISSING);
        x.join(0, -1, -1);
        due.is("one", x.mean(), 0);
        x.leave(0);
        due.is("all have left", x.mean(), Given.MISSING);
        x.join(0, -1, -1);
        x.close();
        due.is("one without a class", x.mean(), 0x40800000);
        x.term();
        due.is("nobody in the next term", x.mean(), Given.MISSING);
    }

    private void classesAndRooms() {
        due.sentence("count 0: classes; 1: rooms");
        EveningClasses x = new EveningClasses();
        for (int number = 1; number <= 5; number++) {
            x.course(0, 1, 1, 1);
            x.room(1);
            due.is("classes", x.count(0), number);
            due.is("rooms", x.count(1), number);
        }
        x.close();
        x.term();
        due.is("both stay in the next term", x.count(0) * 10 + x.count(1), 55);
    }

    private void peopleOfThisTerm() {
        due.sentence("count 2: people who came in this term; 3: people who have not left");
        EveningClasses x = Given.apart(1);
        Given.come(x, 0, 3);
        due.is("came", x.count(2), 3);
        due.is("not left", x.count(3), 3);
        x.leave(1);
        due.is("came, one left", x.count(2), 3);
        due.is("not left, one left", x.count(3), 2);
        x.close();
        due.is("came, closed", x.count(2), 3);
        due.is("not left, closed", x.count(3), 2);
        x.term();
        due.is("came, next term", x.count(2), 0);
        due.is("not left, next term", x.count(3), 0);
    }

    private void peopleInAClass() {
        due.sentence("count 4: people in a class");
        EveningClasses x = Given.apart(1, 2);
        Given.come(x, 0, 2);
        Given.come(x, 1, 2);
        due.is("3 of 4", x.count(4), 3);
        x.leave(0);
        due.is("one moved up", x.count(4), 3);
        x.leave(1);
        due.is("2 of 2", x.count(4), 2);
        x.room(1);
        x.close();
        due.is("without a room", x.count(4), 0);
    }

    private void openClasses() {
        due.sentence("count 5: classes that are open, as a set");
        EveningClasses x = new EveningClasses();
        for (int course = 0; course < 8; course++) {
            due.is("before class " + course, x.count(5), (1 << course) - 1);
            x.course(course, 1, 1, 1);
        }
        Given.come(x, 3, 1);
        due.is("a full one is open", x.count(5), 255);
        x.room(1);
        x.close();
        due.is("one runs, the others are cancelled", x.count(5), 0);
    }

    private void classesWithAPlace() {
        due.sentence("count 6: classes with a free place, as a set");
        EveningClasses x = Given.apart(1, 2, 1, 1, 1, 1, 1, 1);
        due.is("all", x.count(6), 255);
        Given.come(x, 1, 1);
        due.is("one of two", x.count(6), 255);
        Given.come(x, 1, 1);
        due.is("two of two", x.count(6), 253);
        Given.come(x, 7, 1);
        due.is("the last one", x.count(6), 125);
        x.close();
        due.is("closed", x.count(6), 0);
    }

    private void numberOfTheTerm() {
        due.sentence("count 7: the number of the term");
        EveningClasses x = new EveningClasses();
        due.is("first", x.count(7), 0);
        x.close();
        due.is("closed", x.count(7), 0);
        x.term();
        due.is("second", x.count(7), 1);
        x.undo();
        due.is("undone", x.count(7), 0);
    }

    private void closedOrNot() {
        due.sentence("count 8: 1 if it is closed, otherwise 0");
        EveningClasses x = new EveningClasses();
        due.is("not closed", x.count(8), 0);
        x.close();
        due.is("closed", x.count(8), 1);
        x.term();
        due.is("next term", x.count(8), 0);
        x.undo();
        due.is("closed again", x.count(8), 1);
    }

    private void coinsPaid() {
        due.sentence("count 9: coins paid so far; 10: coins paid back so far");
        EveningClasses x = Given.apart(1, 1);
        x.join(0, 1, -1);
        due.is("one paid", x.count(9), 10);
        x.join(0, 1, -1);
        due.is("both paid", x.count(9), 30);
        x.join(0, 1, -1);
        due.is("who waits pays nothing", x.count(9), 30);
        due.is("nothing back", x.count(10), 0);
        x.leave(0);
        due.is("two moved", x.count(9), 60);
        due.is("back of two", x.count(10), 30);
        x.close();
        due.is("both cancelled", x.count(10), 60);
        x.term();
        due.is("paid, next term", x.count(9), 60);
        due.is("back, next term", x.count(10), 60);
        x.join(1, -1, -1);
        due.is("goes on", x.count(9), 80);
    }

    private void coinsPaidForClasses() {
        due.sentence("count 11: coins that are paid for classes in which people are now");
        EveningClasses x = Given.apart(1, 1);
        due.is("none", x.count(11), 0);
        Given.come(x, 0, 2);
        Given.come(x, 1, 1);
        due.is("two", x.count(11), 30);
        x.wish(2, 0, -1, -1);
        due.is("rank 3", x.count(11), 30);
        x.leave(0);
        due.is("who waited pays", x.count(11), 30);
        x.room(1);
        x.close();
        due.is("one runs, one has no room", x.count(11), 10);
        x.term();
        due.is("next term", x.count(11), 0);
    }

    private void coinsOfTermsThatAreOver() {
        due.sentence("count 12: coins that stayed paid of terms that are over");
        EveningClasses x = Given.apart(1);
        x.room(1);
        for (int term = 0; term < 3; term++) {
            due.is("before", x.count(12), 10 * term);
            x.join(0, -1, -1);
            x.close();
            due.is("closed, but not over", x.count(12), 10 * term);
            x.term();
            due.is("over", x.count(12), 10 * term + 10);
        }
        x.undo();
        due.is("undone", x.count(12), 20);
    }

    /** Coins paid are those paid back, those for classes and those of terms that are over. */
    private void accountsAddUp() {
        due.sentence("accounts of fees that add up");
        EveningClasses x = new EveningClasses();
        x.course(Given.kind(0, 0, 0), 3, 4, 31);
        x.course(Given.kind(0, 1, 1), 2, 5, 17);
        x.course(Given.kind(1, 0, 0), 1, 2, 99);
        Given.rooms(x, 4, 2);
        for (int turn = 0; turn < 40; turn++) {
            x.join(turn % 3, (turn + 1) % 3, -1);
            if (turn % 4 == 3) {
                x.leave(turn % 5);
            }
            if (turn % 10 == 9) {
                x.close();
                due.is("closed " + turn, x.count(9), x.count(10) + x.count(11) + x.count(12));
                x.term();
            }
            due.is("turn " + turn, x.count(9), x.count(10) + x.count(11) + x.count(12));
        }
    }

    private void comingsBySettling() {
        due.sentence("count 13: how often people came into classes so far, by settling");
        EveningClasses x = new EveningClasses();
        x.course(Given.kind(0, 0, 0), 2, 2, 10);
        x.course(Given.kind(0, 0, 0), 1, 2, 10);
        x.room(9);
        Given.come(x, 0, 1);
        Given.come(x, 1, 1);
        due.is("two", x.count(13), 2);
        x.close();
        due.is("a merging is none", x.count(13), 2);
        x.term();
        due.is("next term", x.count(13), 2);
        Given.come(x, 0, 3);
        due.is("two more, and one waits", x.count(13), 4);
        x.leave(0);
        due.is("who moves up", x.count(13), 5);
        x.leave(1);
        due.is("leaving is none", x.count(13), 5);
    }

    private void mergedAndCancelled() {
        due.sentence("count 14: classes merged so far; 15: classes cancelled so far");
        EveningClasses x = new EveningClasses();
        x.course(Given.kind(0, 0, 0), 2, 2, 10);
        x.course(Given.kind(0, 0, 0), 1, 2, 10);
        x.course(Given.kind(1, 0, 0), 1, 2, 10);
        x.course(Given.kind(2, 0, 0), 1, 2, 10);
        x.room(2);
        for (int term = 0; term < 3; term++) {
            due.is("merged before", x.count(14), term);
            due.is("cancelled before", x.count(15), 2 * term);
            Given.come(x, 0, 1);
            Given.come(x, 1, 1);
            Given.come(x, 3, 1);
            x.close();
            due.is("merged", x.count(14), term + 1);
            due.is("cancelled as too small, and without a room", x.count(15), 2 * term + 2);
            x.term();
        }
    }

    private void statesAndLength() {
        due.sentence("count 16: states in the history; 17: the length of the text");
        EveningClasses x = new EveningClasses();
        for (int number = 1; number <= 6; number++) {
            x.room(1);
            x.type('a');
            due.is("states", x.count(16), Math.min(4, number));
            due.is("length", x.count(17), number);
        }
        x.undo();
        due.is("states, one undone", x.count(16), 3);
        due.is("length stays", x.count(17), 6);
        x.clearText();
        due.is("states stay", x.count(16), 3);
        due.is("length, cleared", x.count(17), 0);
    }

    private void countRefused() {
        due.sentence("count: INVALID_ARGUMENT if what is out of range.");
        EveningClasses x = new EveningClasses();
        for (int far : FAR) {
            due.is("what " + far, x.count(far), Given.INVALID);
        }
        due.is("what 18", x.count(18), Given.INVALID);
        due.is("what 17", x.count(17), 0);
        x.close();
        due.is("what 18, closed", x.count(18), Given.INVALID);
    }
}
