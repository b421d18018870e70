/** "Classes, rooms" and the promises 1 to 3, 9, 10 and 13: each sentence that names an edge, by a test of its own. */
public final class ClassesEdgesTest {
    private static final int[] FAR = {-1, Given.LOWEST, Given.HIGHEST};

    private final Due due = new Due();

    public static void main(String[] args) {
        ClassesEdgesTest test = new ClassesEdgesTest();
        test.newObject();
        test.eightClasses();
        test.whatAClassHas();
        test.stateAtFirst();
        test.peopleInTheirOrder();
        test.freePlace();
        test.fiveRooms();
        test.kinds();
        test.leastSizes();
        test.mostSizes();
        test.fees();
        test.courseRefused();
        test.chairs();
        test.roomRefused();
        test.states();
        test.howManyPeople();
        test.howManyWait();
        test.roomOfACourse();
        test.mergedInto();
        test.howManyAreNeeded();
        test.whyItDoesNotRun();
        test.courseOfRefused();
        test.memberByRank();
        test.memberRefused();
        test.classesOfARoom();
        test.chairsLeft();
        test.roomOfRefused();
        test.due.end();
    }

    private void newObject() {
        due.sentence("Begins with a term that is not closed, without classes, rooms and people.");
        EveningClasses x = new EveningClasses();
        due.is("closed", x.count(8), 0);
        due.is("number of the term", x.count(7), 0);
        due.is("classes", x.count(0), 0);
        due.is("rooms", x.count(1), 0);
        due.is("people", x.count(2), 0);
        due.is("open ones", x.count(5), 0);
        due.is("history", x.count(16), 0);
        due.is("text", x.count(17), 0);
        due.is("class 0", x.courseOf(0, 0), Given.INVALID);
        due.is("room 0", x.roomOf(0, 0), Given.INVALID);
        due.is("person 0", x.personOf(0, 0), Given.INVALID);
        due.is("a room can come", x.room(1), 0);
        EveningClasses other = new EveningClasses();
        due.is("another object has none of it", other.count(1), 0);
    }

    private void eightClasses() {
        due.sentence("There are at most 8 classes, numbered from 0 in the order in which they came");
        EveningClasses x = new EveningClasses();
        for (int course = 0; course < 8; course++) {
            due.is("not there yet", x.courseOf(course, 5), Given.INVALID);
            due.is("course", x.course(course, 1, 1, 10 + course), course);
        }
        due.is("a ninth", x.course(0, 1, 1, 1), Given.LIMIT);
        due.is("classes", x.count(0), 8);
        for (int course = 0; course < 8; course++) {
            due.is("fee", x.courseOf(course, 5), 10 + course);
        }
        due.is("class 8", x.courseOf(8, 5), Given.INVALID);
        due.is("the last one can be wished", x.join(7, -1, -1), 0);
        due.is("the ninth cannot", x.join(8, -1, -1), Given.INVALID);
    }

    private void whatAClassHas() {
        due.sentence("each with a subject (0 to 3), a level (0 to 3), an evening (0 to 4), a least and a most size, and a fee");
        for (int first = 0; first < 80; first += 8) {
            EveningClasses x = new EveningClasses();
            for (int kind = first; kind < first + 8; kind++) {
                int course = x.course(kind, 1 + kind % 20, 20, kind % 7);
                due.is("subject of " + kind, x.courseOf(course, 0), kind % 4);
                due.is("level of " + kind, x.courseOf(course, 1), kind / 4 % 4);
                due.is("evening of " + kind, x.courseOf(course, 2), kind / 16);
                due.is("least size of " + kind, x.courseOf(course, 3), 1 + kind % 20);
                due.is("most size of " + kind, x.courseOf(course, 4), 20);
                due.is("fee of " + kind, x.courseOf(course, 5), kind % 7);
            }
        }
    }

    private void stateAtFirst() {
        due.sentence("A class is open (0; at first), runs (1), is cancelled (2), or was merged into another one (3).");
        EveningClasses x = new EveningClasses();
        x.course(Given.kind(0, 0, 0), 1, 9, 1);
        x.course(Given.kind(0, 0, 0), 2, 9, 1);
        x.course(Given.kind(1, 0, 0), 1, 9, 1);
        x.room(9);
        Given.come(x, 0, 1);
        Given.come(x, 1, 1);
        for (int course = 0; course < 3; course++) {
            due.is("open at first", x.courseOf(course, 6), Given.OPEN);
        }
        x.close();
        due.is("runs", x.courseOf(0, 6), Given.RUNS);
        due.is("merged", x.courseOf(1, 6), Given.MERGED);
        due.is("cancelled", x.courseOf(2, 6), Given.CANCELLED);
    }

    private void peopleInTheirOrder() {
        due.sentence("It has people, in the order in which they came into it.");
        EveningClasses x = Given.apart(3, 1);
        x.join(1, 0, -1);
        x.join(1, 0, -1);
        x.join(0, -1, -1);
        x.leave(0);
        x.join(0, -1, -1);
        x.wish(1, 0, -1, -1);
        int[] want = {2, 3, 1};
        for (int rank = 0; rank < want.length; rank++) {
            due.is("member " + rank, x.member(0, rank), want[rank]);
        }
        due.is("no one more", x.member(0, 3), Given.MISSING);
    }

    private void freePlace() {
        due.sentence("A class has a free place, if it is open, and has fewer people than its most size.");
        EveningClasses x = Given.apart(1, 20);
        due.is("both are empty", x.count(6), 3);
        Given.come(x, 1, 19);
        due.is("one place in each", x.count(6), 3);
        Given.come(x, 1, 1);
        due.is("20 of 20", x.count(6), 1);
        Given.come(x, 1, 1);
        due.is("one waits", x.courseOf(1, 7), 20);
        Given.come(x, 0, 1);
        due.is("1 of 1", x.count(6), 0);
        x.leave(21);
        due.is("0 of 1", x.count(6), 1);
        x.room(30);
        x.close();
        due.is("20 of 20 runs, 0 of 1 is cancelled", x.courseOf(1, 6) * 10 + x.courseOf(0, 6), 12);
        due.is("none is open", x.count(6), 0);
        EveningClasses y = Given.apart(5);
        y.room(5);
        Given.come(y, 0, 1);
        y.close();
        due.is("1 of 5, but it runs", y.count(6), 0);
    }

    private void fiveRooms() {
        due.sentence("There are at most 5 rooms, numbered from 0 in the order in which they came, each with chairs.");
        EveningClasses x = new EveningClasses();
        for (int room = 0; room < 5; room++) {
            due.is("not there yet", x.roomOf(room, 0), Given.INVALID);
            due.is("room", x.room(30 - room), room);
        }
        due.is("a sixth", x.room(1), Given.LIMIT);
        due.is("rooms", x.count(1), 5);
        for (int room = 0; room < 5; room++) {
            due.is("chairs", x.roomOf(room, 0), 30 - room);
        }
        due.is("room 5", x.roomOf(5, 0), Given.INVALID);
    }

    private void kinds() {
        due.sentence("kind: 0 to 79: its subject and 4 times its level and 16 times its evening, together");
        EveningClasses x = new EveningClasses();
        for (int kind : new int[] {-1, 80, 128, Given.LOWEST, Given.HIGHEST}) {
            due.is("kind " + kind, x.course(kind, 1, 1, 1), Given.INVALID);
        }
        due.is("kind 0", x.course(0, 1, 1, 1), 0);
        due.is("kind 79", x.course(79, 1, 1, 1), 1);
        int[] last = {3, 3, 4};
        for (int what = 0; what < last.length; what++) {
            due.is("of kind 0", x.courseOf(0, what), 0);
            due.is("of kind 79", x.courseOf(1, what), last[what]);
        }
        due.is("subject 3 alone", x.courseOf(x.course(3, 1, 1, 1), 0), 3);
        due.is("level 1 alone", x.courseOf(x.course(4, 1, 1, 1), 1), 1);
        due.is("evening 1 alone", x.courseOf(x.course(16, 1, 1, 1), 2), 1);
    }

    private void leastSizes() {
        due.sentence("least: 1 to 20: its least size");
        EveningClasses x = new EveningClasses();
        for (int least : new int[] {0, -1, 21, Given.LOWEST, Given.HIGHEST}) {
            due.is("least " + least, x.course(0, least, 20, 1), Given.INVALID);
            due.is("least and most " + least, x.course(0, least, least, 1), Given.INVALID);
        }
        due.is("least 1", x.course(0, 1, 20, 1), 0);
        due.is("least 20", x.course(0, 20, 20, 1), 1);
        due.is("least 1 is kept", x.courseOf(0, 3), 1);
        due.is("least 20 is kept", x.courseOf(1, 3), 20);
    }

    private void mostSizes() {
        due.sentence("most: least to 20: its most size");
        EveningClasses x = new EveningClasses();
        int[][] wrong = {{1, 0}, {2, 1}, {20, 19}, {1, 21}, {20, 21}, {1, -1}, {1, Given.LOWEST}, {1, Given.HIGHEST}};
        for (int[] sizes : wrong) {
            due.is("sizes " + sizes[0] + "," + sizes[1], x.course(0, sizes[0], sizes[1], 1), Given.INVALID);
        }
        due.is("1 to 1", x.course(0, 1, 1, 1), 0);
        due.is("7 to 7", x.course(0, 7, 7, 1), 1);
        due.is("7 to 20", x.course(0, 7, 20, 1), 2);
        due.is("most 1 is kept", x.courseOf(0, 4), 1);
        due.is("most 7 is kept", x.courseOf(1, 4), 7);
        due.is("most 20 is kept", x.courseOf(2, 4), 20);
    }

    private void fees() {
        due.sentence("fee: 0 to 99");
        EveningClasses x = new EveningClasses();
        for (int fee : new int[] {-1, 100, Given.LOWEST, Given.HIGHEST}) {
            due.is("fee " + fee, x.course(0, 1, 1, fee), Given.INVALID);
        }
        due.is("fee 0", x.course(0, 1, 1, 0), 0);
        due.is("fee 99", x.course(0, 1, 1, 99), 1);
        due.is("fee 0 is kept", x.courseOf(0, 5), 0);
        due.is("fee 99 is kept", x.courseOf(1, 5), 99);
    }

    private void courseRefused() {
        due.sentence("course: INVALID_ARGUMENT if an argument is out of range; NOT_POSSIBLE if the term is closed; "
                + "LIMIT_REACHED if there are 8.");
        EveningClasses x = new EveningClasses();
        x.close();
        due.is("closed, without classes", x.course(0, 1, 1, 1), Given.IMPOSSIBLE);
        due.is("closed and wrong", x.course(80, 1, 1, 1), Given.INVALID);
        x.term();
        for (int course = 0; course < 8; course++) {
            due.is("in the next term", x.course(0, 1, 1, 1), course);
        }
        due.is("there are 8", x.course(0, 1, 1, 1), Given.LIMIT);
        due.is("there are 8, and wrong", x.course(0, 1, 1, 100), Given.INVALID);
        x.close();
        due.is("there are 8, and closed", x.course(0, 1, 1, 1), Given.IMPOSSIBLE);
        due.is("all of it", x.course(0, 0, 1, 1), Given.INVALID);
        x.term();
        due.is("classes stay in the next term", x.course(0, 1, 1, 1), Given.LIMIT);
    }

    private void chairs() {
        due.sentence("chairs: 1 to 30");
        EveningClasses x = new EveningClasses();
        for (int chairs : new int[] {0, -1, 31, Given.LOWEST, Given.HIGHEST}) {
            due.is("chairs " + chairs, x.room(chairs), Given.INVALID);
        }
        due.is("1 chair", x.room(1), 0);
        due.is("30 chairs", x.room(30), 1);
        due.is("1 chair is kept", x.roomOf(0, 0), 1);
        due.is("30 chairs are kept", x.roomOf(1, 0), 30);
    }

    private void roomRefused() {
        due.sentence("room: INVALID_ARGUMENT if chairs is out of range; NOT_POSSIBLE if the term is closed; "
                + "LIMIT_REACHED if there are 5.");
        EveningClasses x = new EveningClasses();
        x.close();
        due.is("closed, without rooms", x.room(1), Given.IMPOSSIBLE);
        due.is("closed and wrong", x.room(0), Given.INVALID);
        x.term();
        Given.rooms(x, 1, 1, 1, 1, 1);
        due.is("there are 5", x.room(1), Given.LIMIT);
        due.is("there are 5, and wrong", x.room(31), Given.INVALID);
        x.close();
        due.is("there are 5, and closed", x.room(1), Given.IMPOSSIBLE);
        due.is("all of it", x.room(31), Given.INVALID);
        x.term();
        due.is("rooms stay in the next term", x.room(1), Given.LIMIT);
    }

    private void states() {
        due.sentence("courseOf 6: its state, 0 to 3");
        EveningClasses x = Given.apart(2, 2);
        x.room(2);
        Given.come(x, 0, 2);
        due.is("full, but open", x.courseOf(0, 6), Given.OPEN);
        due.is("empty, but open", x.courseOf(1, 6), Given.OPEN);
        x.close();
        due.is("runs", x.courseOf(0, 6), Given.RUNS);
        due.is("cancelled", x.courseOf(1, 6), Given.CANCELLED);
        x.undo();
        due.is("open again", x.courseOf(1, 6), Given.OPEN);
    }

    private void howManyPeople() {
        due.sentence("courseOf 7: its people, how many");
        EveningClasses x = Given.apart(20, 1);
        due.is("empty", x.courseOf(0, 7), 0);
        for (int people = 1; people <= 20; people++) {
            x.join(0, 1, -1);
            due.is("people", x.courseOf(0, 7), people);
        }
        x.join(0, 1, -1);
        due.is("full", x.courseOf(0, 7), 20);
        due.is("the 21st is in the other", x.courseOf(1, 7), 1);
        x.leave(20);
        due.is("full still", x.courseOf(0, 7), 20);
        x.leave(19);
        due.is("one left", x.courseOf(0, 7), 19);
        x.close();
        due.is("cancelled without a room", x.courseOf(0, 7), 0);
    }

    private void howManyWait() {
        due.sentence("courseOf 8: people who wait for it: it is a wish of theirs, of a lesser rank than what they have");
        EveningClasses x = Given.apart(1, 1, 1);
        x.join(0, -1, -1);
        due.is("who has it does not wait", x.courseOf(0, 8), 0);
        x.join(0, 1, 2);
        due.is("first wish, has the second", x.courseOf(0, 8), 1);
        due.is("has it as the second", x.courseOf(1, 8), 0);
        due.is("third wish, has the second", x.courseOf(2, 8), 0);
        x.join(1, 0, 2);
        due.is("second wish, has the third", x.courseOf(0, 8), 2);
        due.is("first wish, has the third", x.courseOf(1, 8), 1);
        x.join(2, 1, 0);
        due.is("third wish, has none", x.courseOf(0, 8), 3);
        due.is("second wish, has none", x.courseOf(1, 8), 2);
        due.is("first wish, has none", x.courseOf(2, 8), 1);
        x.wish(2, 0, -1, -1);
        due.is("has one that is no wish", x.courseOf(0, 8), 3);
        due.is("it is no wish now", x.courseOf(1, 8), 1);
        x.leave(3);
        due.is("who has left does not wait", x.courseOf(0, 8), 2);
        due.is("nobody waits", x.courseOf(2, 8), 0);
    }

    private void roomOfACourse() {
        due.sentence("courseOf 9: its room; NOT_FOUND for 9 if there is none.");
        EveningClasses x = Given.apart(2, 2, 2);
        Given.rooms(x, 1, 2);
        Given.come(x, 0, 1);
        Given.come(x, 1, 2);
        Given.come(x, 2, 1);
        due.is("an open class", x.courseOf(0, 9), Given.MISSING);
        x.close();
        due.is("room 0", x.courseOf(0, 9), 0);
        due.is("room 1", x.courseOf(1, 9), 1);
        due.is("a class without a room", x.courseOf(2, 9), Given.MISSING);
        x.term();
        due.is("the next term", x.courseOf(1, 9), Given.MISSING);
    }

    private void mergedInto() {
        due.sentence("courseOf 10: the class into which it was merged; NOT_FOUND for 10 if there is none.");
        EveningClasses x = new EveningClasses();
        x.course(Given.kind(0, 0, 0), 1, 9, 1);
        x.course(Given.kind(0, 1, 0), 2, 9, 1);
        x.course(Given.kind(1, 0, 0), 2, 9, 1);
        x.room(9);
        Given.come(x, 0, 1);
        Given.come(x, 1, 1);
        due.is("an open class", x.courseOf(1, 10), Given.MISSING);
        x.close();
        due.is("into class 0", x.courseOf(1, 10), 0);
        due.is("a class that runs", x.courseOf(0, 10), Given.MISSING);
        due.is("a class that is cancelled", x.courseOf(2, 10), Given.MISSING);
        x.term();
        due.is("the next term", x.courseOf(1, 10), Given.MISSING);
    }

    private void howManyAreNeeded() {
        due.sentence("courseOf 11: how many people it needs to have its least size, 0 if it has");
        EveningClasses x = new EveningClasses();
        x.course(0, 3, 5, 1);
        x.course(1, 20, 20, 1);
        due.is("of 20", x.courseOf(1, 11), 20);
        int[] want = {3, 2, 1, 0, 0, 0};
        for (int people = 0; people < want.length; people++) {
            due.is("with " + people, x.courseOf(0, 11), want[people]);
            x.join(0, -1, -1);
        }
        x.room(5);
        x.close();
        due.is("it runs", x.courseOf(0, 11), 0);
        due.is("cancelled", x.courseOf(1, 11), 20);
    }

    private void whyItDoesNotRun() {
        due.sentence("courseOf 12: why it does not run: 0 it is open, or runs; 1 it was merged; 2 it was cancelled as "
                + "it was too small; 3 as there was no room");
        EveningClasses x = new EveningClasses();
        x.course(Given.kind(0, 0, 0), 1, 9, 1);
        x.course(Given.kind(0, 1, 0), 2, 9, 1);
        x.course(Given.kind(1, 0, 0), 2, 9, 1);
        x.course(Given.kind(2, 0, 0), 1, 9, 1);
        x.room(2);
        for (int course = 0; course < 4; course++) {
            Given.come(x, course, 1);
            due.is("open", x.courseOf(course, 12), 0);
        }
        x.close();
        for (int course = 0; course < 4; course++) {
            due.is("class " + course, x.courseOf(course, 12), course);
        }
        x.term();
        for (int course = 0; course < 4; course++) {
            due.is("open in the next term", x.courseOf(course, 12), 0);
        }
    }

    private void courseOfRefused() {
        due.sentence("courseOf: INVALID_ARGUMENT if an argument is out of range");
        EveningClasses x = Given.apart(2, 2);
        for (int far : FAR) {
            due.is("class " + far, x.courseOf(far, 0), Given.INVALID);
            due.is("what " + far, x.courseOf(0, far), Given.INVALID);
        }
        due.is("class 2 of 2", x.courseOf(2, 0), Given.INVALID);
        due.is("what 13", x.courseOf(1, 13), Given.INVALID);
        due.is("what 12", x.courseOf(1, 12), 0);
        due.is("no class, and what could be missing", x.courseOf(2, 9), Given.INVALID);
    }

    private void memberByRank() {
        due.sentence("member: rank: 0 for the one who came into it first, and so on; NOT_FOUND if there are not so many.");
        EveningClasses x = Given.apart(20);
        due.is("an empty class", x.member(0, 0), Given.MISSING);
        Given.come(x, 0, 21);
        for (int rank = 0; rank < 20; rank++) {
            due.is("rank " + rank, x.member(0, rank), rank);
        }
        due.is("rank 20 of a full class", x.member(0, 20), Given.MISSING);
        due.is("the highest rank", x.member(0, Given.HIGHEST), Given.MISSING);
        x.leave(0);
        due.is("the first one went", x.member(0, 0), 1);
        due.is("who came in last", x.member(0, 19), 20);
        x.leave(20);
        due.is("the last one went", x.member(0, 19), Given.MISSING);
        due.is("who is last then", x.member(0, 18), 19);
    }

    private void memberRefused() {
        due.sentence("member: INVALID_ARGUMENT if there is no such class, or rank is below 0");
        EveningClasses x = Given.apart(2);
        Given.come(x, 0, 1);
        for (int far : FAR) {
            due.is("class " + far, x.member(far, 0), Given.INVALID);
        }
        due.is("class 1 of 1", x.member(1, 0), Given.INVALID);
        due.is("no class, a rank that there is not", x.member(1, 5), Given.INVALID);
        due.is("rank -1", x.member(0, -1), Given.INVALID);
        due.is("the lowest rank", x.member(0, Given.LOWEST), Given.INVALID);
    }

    private void classesOfARoom() {
        due.sentence("roomOf 1: the classes to which it is given, as a set");
        EveningClasses x = new EveningClasses();
        Given.rooms(x, 1, 30);
        for (int course = 0; course < 8; course++) {
            x.course(Given.kind(course % 4, course / 4 * 2, course % 5), 1, 1, 1);
            Given.come(x, course, 1);
        }
        due.is("of an open term", x.roomOf(0, 1), 0);
        x.close();
        due.is("one on each evening", x.roomOf(0, 1), 1 + 2 + 4 + 8 + 16);
        due.is("the second one on three", x.roomOf(1, 1), 32 + 64 + 128);
        x.term();
        due.is("the next term", x.roomOf(0, 1), 0);
    }

    private void chairsLeft() {
        due.sentence("roomOf 2: chairs that are left of it, the least on an evening on which it is given; "
                + "NOT_FOUND for 2 if it is given to none.");
        EveningClasses x = new EveningClasses();
        for (int course = 0; course < 3; course++) {
            x.course(Given.kind(course, 0, course), 1, 9, 1);
        }
        Given.rooms(x, 5, 5);
        due.is("of an open term", x.roomOf(0, 2), Given.MISSING);
        Given.come(x, 0, 4);
        Given.come(x, 1, 3);
        Given.come(x, 2, 4);
        x.close();
        due.is("the least", x.roomOf(0, 2), 1);
        due.is("given to none", x.roomOf(1, 2), Given.MISSING);
        x.term();
        due.is("the next term", x.roomOf(0, 2), Given.MISSING);
        Given.come(x, 0, 4);
        Given.come(x, 1, 5);
        x.close();
        due.is("none is left", x.roomOf(0, 2), 0);
    }

    private void roomOfRefused() {
        due.sentence("roomOf: INVALID_ARGUMENT if an argument is out of range");
        EveningClasses x = new EveningClasses();
        Given.rooms(x, 3, 4);
        for (int far : FAR) {
            due.is("room " + far, x.roomOf(far, 0), Given.INVALID);
            due.is("what " + far, x.roomOf(0, far), Given.INVALID);
        }
        due.is("room 2 of 2", x.roomOf(2, 0), Given.INVALID);
        due.is("no room, and what could be missing", x.roomOf(2, 2), Given.INVALID);
        due.is("what 3", x.roomOf(1, 3), Given.INVALID);
        due.is("what 2", x.roomOf(1, 2), Given.MISSING);
    }
}
