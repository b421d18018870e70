/** "Closing" and the promises 7, 8, 14 and 15: each sentence that names an edge, by a test of its own. */
public final class ClosingEdgesTest {
    private static final int[] FAR = {-1, Given.LOWEST, Given.HIGHEST};

    private final Due due = new Due();

    public static void main(String[] args) {
        ClosingEdgesTest test = new ClosingEdgesTest();
        test.fewerThanTheLeastSize();
        test.fewestPeopleFirst();
        test.fewestPeopleNotMostLacking();
        test.ofSeveralTheLowest();
        test.ifItHasPeople();
        test.anotherClass();
        test.openClass();
        test.sameSubject();
        test.levelAtMostOneAway();
        test.anyEvening();
        test.notMoreThanItsMostSize();
        test.nearerLevel();
        test.withMorePeople();
        test.lowestOfThese();
        test.inTheirOrder();
        test.paidNotMoreThanTheFee();
        test.paidThroughTwoMergings();
        test.otherwiseCancelled();
        test.settledBehindACancelling();
        test.settledBehindAMerging();
        test.lookedForOnceMore();
        test.enoughByAMerging();
        test.enoughByACancelling();
        test.allEight();
        test.mostPeopleFirst();
        test.lowestOfAsMany();
        test.fewestChairs();
        test.lowestOfAsManyChairs();
        test.aChairForEach();
        test.notOnTheSameEvening();
        test.mergedAndCancelledTakeNoRoom();
        test.withoutARoom();
        test.nothingIsSettled();
        test.thenTheTermIsClosed();
        test.howManyRun();
        test.closeRefused();
        test.termOpensAll();
        test.whatWasPaidStays();
        test.numberOfTheTerm();
        test.termRefused();
        test.ifCloseSets();
        test.ifClosePeopleAndCoins();
        test.ifCloseTellsWhatCloseBrings();
        test.ifCloseRefused();
        test.besideIfTaken();
        test.besideRefused();
        test.due.end();
    }

    private void states(EveningClasses x, int... states) {
        for (int course = 0; course < states.length; course++) {
            due.is("state of " + course, x.courseOf(course, 6), states[course]);
        }
    }

    /** A class with the fee 10, and people who wish it alone. */
    private static void course(EveningClasses x, int kind, int least, int most, int people) {
        int course = x.course(kind, least, most, 10);
        Given.come(x, course, people);
    }

    private void fewerThanTheLeastSize() {
        due.sentence("as long as there is an open class with fewer people than its least size");
        EveningClasses x = new EveningClasses();
        Given.rooms(x, 20, 20, 20, 20);
        course(x, Given.kind(0, 0, 0), 1, 20, 1);
        course(x, Given.kind(1, 0, 0), 4, 20, 4);
        course(x, Given.kind(2, 0, 0), 4, 20, 3);
        course(x, Given.kind(3, 0, 0), 1, 20, 0);
        due.is("close", x.close(), 2);
        states(x, Given.RUNS, Given.RUNS, Given.CANCELLED, Given.CANCELLED);
        due.is("one fewer", x.courseOf(2, 12), 2);
        due.is("none of one", x.courseOf(3, 12), 2);
        EveningClasses y = new EveningClasses();
        y.room(20);
        course(y, 0, 20, 20, 20);
        due.is("20 of 20", y.close(), 1);
        EveningClasses z = new EveningClasses();
        z.room(20);
        course(z, 0, 20, 20, 19);
        due.is("19 of 20", z.close(), 0);
    }

    private void fewestPeopleFirst() {
        due.sentence("the one with the fewest people of them");
        EveningClasses x = new EveningClasses();
        x.room(20);
        course(x, Given.kind(0, 0, 0), 4, 20, 3);
        course(x, Given.kind(0, 0, 0), 4, 20, 2);
        due.is("close", x.close(), 1);
        states(x, Given.RUNS, Given.MERGED);
    }

    private void fewestPeopleNotMostLacking() {
        due.sentence("the one with the fewest people of them, not the one that lacks most");
        EveningClasses x = new EveningClasses();
        x.room(20);
        course(x, Given.kind(0, 0, 0), 20, 20, 2);
        course(x, Given.kind(0, 0, 0), 2, 20, 1);
        due.is("close", x.close(), 0);
        states(x, Given.CANCELLED, Given.MERGED);
    }

    private void ofSeveralTheLowest() {
        due.sentence("of several the lowest one, is taken");
        EveningClasses x = new EveningClasses();
        x.room(20);
        course(x, Given.kind(1, 0, 0), 1, 20, 1);
        course(x, Given.kind(0, 0, 0), 4, 20, 2);
        course(x, Given.kind(0, 0, 0), 4, 20, 2);
        due.is("close", x.close(), 1);
        states(x, Given.CANCELLED, Given.MERGED, Given.RUNS);
    }

    private void ifItHasPeople() {
        due.sentence("If it has people");
        EveningClasses x = new EveningClasses();
        x.room(20);
        course(x, Given.kind(0, 0, 0), 1, 20, 0);
        course(x, Given.kind(0, 0, 0), 1, 20, 1);
        due.is("beside an empty one", x.beside(0), Given.MISSING);
        due.is("an empty one beside", x.beside(1), 0);
        due.is("close", x.close(), 1);
        states(x, Given.CANCELLED, Given.RUNS);
        due.is("into none", x.courseOf(0, 10), Given.MISSING);
        due.is("mergings", x.count(14), 0);
    }

    private void anotherClass() {
        due.sentence("and there is another .. class of the same subject");
        EveningClasses x = new EveningClasses();
        x.room(20);
        course(x, Given.kind(0, 0, 0), 2, 20, 1);
        due.is("not itself", x.beside(0), Given.MISSING);
        due.is("close", x.close(), 0);
        states(x, Given.CANCELLED);
        due.is("why", x.courseOf(0, 12), 2);
    }

    /** Class 0 is cancelled, and class 1 merged into 2, before 3 is taken, for which only 0 and 1 had places. */
    private void openClass() {
        due.sentence("another open class");
        EveningClasses x = new EveningClasses();
        Given.rooms(x, 20, 20);
        course(x, Given.kind(0, 3, 0), 1, 20, 0);
        course(x, Given.kind(0, 1, 0), 2, 20, 1);
        course(x, Given.kind(0, 0, 0), 1, 3, 2);
        course(x, Given.kind(0, 2, 0), 3, 20, 2);
        due.is("beside it before", x.beside(3), 1);
        due.is("close", x.close(), 1);
        states(x, Given.CANCELLED, Given.MERGED, Given.RUNS, Given.CANCELLED);
        due.is("into", x.courseOf(1, 10), 2);
        due.is("why", x.courseOf(3, 12), 2);
    }

    private void sameSubject() {
        due.sentence("of the same subject");
        EveningClasses x = new EveningClasses();
        x.room(20);
        course(x, Given.kind(1, 2, 3), 2, 20, 1);
        course(x, Given.kind(0, 2, 3), 1, 20, 1);
        course(x, Given.kind(2, 2, 3), 1, 20, 1);
        course(x, Given.kind(3, 2, 3), 1, 20, 1);
        due.is("three other subjects", x.beside(0), Given.MISSING);
        course(x, Given.kind(1, 3, 0), 1, 20, 0);
        due.is("the same subject", x.beside(0), 4);
    }

    private void levelAtMostOneAway() {
        due.sentence("whose level is at most 1 away");
        for (int own = 0; own < 4; own++) {
            for (int level = 0; level < 4; level++) {
                EveningClasses x = new EveningClasses();
                Given.rooms(x, 20, 20);
                course(x, Given.kind(2, own, 0), 2, 20, 1);
                course(x, Given.kind(2, level, 0), 1, 20, 2);
                boolean near = own - level <= 1 && level - own <= 1;
                due.is("beside " + own + "," + level, x.beside(0), near ? 1 : Given.MISSING);
                x.close();
                due.is("state " + own + "," + level, x.courseOf(0, 6), near ? Given.MERGED : Given.CANCELLED);
            }
        }
    }

    private void anyEvening() {
        due.sentence("a merging asks for no evening");
        EveningClasses x = new EveningClasses();
        x.room(20);
        course(x, Given.kind(0, 0, 0), 2, 20, 1);
        course(x, Given.kind(0, 0, 4), 1, 20, 1);
        due.is("beside", x.beside(0), 1);
        due.is("close", x.close(), 1);
        states(x, Given.MERGED, Given.RUNS);
    }

    private void notMoreThanItsMostSize() {
        due.sentence("and which would not have more people than its most size with them");
        for (int people = 1; people <= 3; people++) {
            EveningClasses x = new EveningClasses();
            Given.rooms(x, 20, 20);
            course(x, Given.kind(0, 0, 0), 4, 4, people);
            course(x, Given.kind(0, 0, 0), 1, 7, 5);
            due.is("beside with " + people, x.beside(0), people <= 2 ? 1 : Given.MISSING);
            x.close();
            due.is("state with " + people, x.courseOf(0, 6), people <= 2 ? Given.MERGED : Given.CANCELLED);
            due.is("people with " + people, x.courseOf(1, 7), people <= 2 ? 5 + people : 5);
        }
        EveningClasses y = new EveningClasses();
        y.room(20);
        course(y, Given.kind(0, 0, 0), 11, 20, 10);
        course(y, Given.kind(0, 0, 0), 10, 20, 10);
        due.is("20 together", y.close(), 1);
        due.is("all of them", y.courseOf(1, 7), 20);
        due.is("the last one", y.member(1, 19), 9);
    }

    private void nearerLevel() {
        due.sentence("of several into the one whose level is nearer");
        EveningClasses x = new EveningClasses();
        course(x, Given.kind(0, 1, 0), 3, 20, 2);
        course(x, Given.kind(0, 0, 0), 1, 20, 9);
        course(x, Given.kind(0, 2, 0), 1, 20, 9);
        course(x, Given.kind(0, 1, 0), 1, 20, 1);
        due.is("fewer people, a higher number, but nearer", x.beside(0), 3);
        x.close();
        due.is("into", x.courseOf(0, 10), 3);
    }

    private void withMorePeople() {
        due.sentence("of these the one with more people");
        EveningClasses x = new EveningClasses();
        course(x, Given.kind(0, 1, 0), 3, 20, 2);
        course(x, Given.kind(0, 0, 0), 1, 20, 3);
        course(x, Given.kind(0, 2, 0), 1, 20, 4);
        due.is("one level above", x.beside(0), 2);
        Given.come(x, 1, 2);
        due.is("one level below", x.beside(0), 1);
        course(x, Given.kind(0, 0, 0), 1, 9, 8);
        due.is("with the most people, but without places", x.beside(0), 1);
        x.close();
        due.is("into", x.courseOf(0, 10), 1);
    }

    private void lowestOfThese() {
        due.sentence("of these the lowest one");
        EveningClasses x = new EveningClasses();
        course(x, Given.kind(0, 2, 0), 1, 20, 3);
        course(x, Given.kind(0, 1, 0), 3, 20, 2);
        course(x, Given.kind(0, 0, 0), 1, 20, 3);
        course(x, Given.kind(0, 0, 0), 1, 20, 3);
        due.is("three as near with as many", x.beside(1), 0);
        due.is("two as near with as many", x.beside(2), 3);
        x.close();
        due.is("into", x.courseOf(1, 10), 0);
    }

    private void inTheirOrder() {
        due.sentence("Its people come into that class, in their order");
        EveningClasses x = new EveningClasses();
        x.room(20);
        x.course(Given.kind(0, 0, 0), 5, 20, 10);
        x.course(Given.kind(0, 0, 0), 1, 20, 10);
        Given.come(x, 0, 3);
        Given.come(x, 1, 2);
        x.wish(1, 1, -1, -1);
        x.wish(1, 0, -1, -1);
        x.close();
        int[] want = {3, 4, 0, 2, 1};
        for (int rank = 0; rank < want.length; rank++) {
            due.is("member " + rank, x.member(1, rank), want[rank]);
        }
        due.is("no one more", x.member(1, 5), Given.MISSING);
        due.is("nobody is left", x.member(0, 0), Given.MISSING);
        due.is("none of them", x.courseOf(0, 7), 0);
        due.is("it needs its least size", x.courseOf(0, 11), 5);
        due.is("rank", x.personOf(0, 2), 3);
    }

    private void paidNotMoreThanTheFee() {
        due.sentence("of each what was paid stays paid, but not more than the fee of that class: the rest is paid back.");
        int[][] fees = {{30, 29, 29, 1}, {30, 30, 30, 0}, {30, 31, 30, 0}, {99, 0, 0, 99}, {0, 99, 0, 0}};
        for (int[] f : fees) {
            EveningClasses x = new EveningClasses();
            x.room(20);
            x.course(Given.kind(0, 0, 0), 5, 20, f[0]);
            x.course(Given.kind(0, 0, 0), 1, 20, f[1]);
            Given.come(x, 0, 2);
            Given.come(x, 1, 1);
            String name = f[0] + " into " + f[1];
            due.is("back of " + name, x.ifClose(4), 2 * f[3]);
            due.is("paid of " + name, x.ifClose(5), 0);
            due.is("close", x.close(), 1);
            due.is("stays paid of the first " + name, x.personOf(0, 3), f[2]);
            due.is("stays paid of the second " + name, x.personOf(1, 3), f[2]);
            due.is("of who was there " + name, x.personOf(2, 3), f[1]);
            due.is("coins back " + name, x.count(10), 2 * f[3]);
            due.is("coins for classes " + name, x.count(11), 2 * f[2] + f[1]);
        }
    }

    /** Paid 50, then 20 stay in the class at 20, and these stay, not more, in the class at 90. */
    private void paidThroughTwoMergings() {
        due.sentence("what was paid stays paid, through two mergings");
        EveningClasses x = new EveningClasses();
        x.room(20);
        x.course(Given.kind(0, 0, 0), 9, 20, 50);
        x.course(Given.kind(0, 1, 0), 9, 20, 20);
        x.course(Given.kind(0, 2, 0), 1, 20, 90);
        Given.come(x, 0, 1);
        Given.come(x, 1, 2);
        Given.come(x, 2, 4);
        due.is("close", x.close(), 1);
        states(x, Given.MERGED, Given.MERGED, Given.RUNS);
        due.is("of the first", x.personOf(0, 3), 20);
        due.is("of the second", x.personOf(1, 3), 20);
        due.is("back", x.count(10), 30);
        due.is("for classes", x.count(11), 3 * 20 + 4 * 90);
        due.is("came", x.personOf(0, 4), 3);
        due.is("each keeps the class into which it was merged", x.courseOf(0, 10) * 10 + x.courseOf(1, 10), 12);
    }

    private void otherwiseCancelled() {
        due.sentence("Otherwise it is cancelled, and all its people go out of it.");
        EveningClasses x = new EveningClasses();
        x.room(20);
        course(x, Given.kind(0, 0, 0), 20, 20, 19);
        due.is("close", x.close(), 0);
        states(x, Given.CANCELLED);
        due.is("people", x.courseOf(0, 7), 0);
        due.is("member", x.member(0, 0), Given.MISSING);
        due.is("people in a class", x.count(4), 0);
        for (int person = 0; person < 19; person++) {
            due.is("class", x.personOf(person, 1), Given.MISSING);
            due.is("paid", x.personOf(person, 3), 0);
        }
        due.is("back", x.count(10), 190);
        due.is("cancelled", x.count(15), 1);
        due.is("no merging", x.count(14), 0);
    }

    private void settledBehindACancelling() {
        due.sentence("Behind either, all is settled: people of a cancelled class get a later wish");
        EveningClasses x = new EveningClasses();
        Given.rooms(x, 20, 20);
        x.course(Given.kind(0, 0, 0), 9, 9, 10);
        x.course(Given.kind(1, 0, 0), 1, 3, 20);
        x.course(Given.kind(2, 0, 0), 1, 3, 30);
        x.join(0, 1, 2);
        x.join(0, 2, 1);
        x.join(0, 1, -1);
        x.join(0, 1, 2);
        x.join(0, 1, -1);
        x.join(1, -1, -1);
        x.join(2, -1, -1);
        due.is("close", x.close(), 2);
        states(x, Given.CANCELLED, Given.RUNS, Given.RUNS);
        int[] classes = {1, 2, 1, 2, Given.MISSING};
        int[] ranks = {1, 1, 1, 2, 4};
        for (int person = 0; person < classes.length; person++) {
            due.is("class of " + person, x.personOf(person, 1), classes[person]);
            due.is("rank of " + person, x.personOf(person, 2), ranks[person]);
        }
        due.is("paid", x.count(9), 50 + 3 * 20 + 3 * 30);
        due.is("back", x.count(10), 50);
        due.is("settlings", x.count(13), 11);
    }

    private void settledBehindAMerging() {
        due.sentence("Behind either, all is settled: people of a merged class get a later wish");
        EveningClasses x = new EveningClasses();
        Given.rooms(x, 20, 20);
        x.course(Given.kind(0, 0, 0), 9, 9, 10);
        x.course(Given.kind(0, 1, 1), 1, 9, 8);
        x.course(Given.kind(1, 0, 2), 1, 3, 30);
        x.join(0, 2, -1);
        x.join(0, 2, -1);
        x.join(0, 2, -1);
        x.join(0, 1, -1);
        x.join(1, -1, -1);
        x.join(2, -1, -1);
        due.is("close", x.close(), 2);
        states(x, Given.MERGED, Given.RUNS, Given.RUNS);
        due.is("two move on", x.courseOf(2, 7), 3);
        due.is("one stays at rank 3", x.personOf(2, 2), 3);
        due.is("one has the second wish", x.personOf(3, 2), 1);
        due.is("who moved on pays", x.personOf(0, 3), 30);
        due.is("and came three times", x.personOf(0, 4), 3);
        due.is("back: 2 of each of four, and 8 of two", x.count(10), 4 * 2 + 2 * 8);
    }

    /** 0 is merged into 1, which has enough then; its person moves on to 2, so that 1 is too small once more. */
    private void lookedForOnceMore() {
        due.sentence("(a class can become too small by that; it is looked for once more)");
        EveningClasses x = new EveningClasses();
        Given.rooms(x, 20, 20);
        x.course(Given.kind(0, 0, 0), 2, 9, 10);
        x.course(Given.kind(0, 0, 1), 2, 9, 10);
        x.course(Given.kind(1, 0, 2), 1, 9, 10);
        x.join(0, 2, -1);
        x.join(1, -1, -1);
        x.join(2, -1, -1);
        due.is("close", x.close(), 1);
        states(x, Given.MERGED, Given.CANCELLED, Given.RUNS);
        due.is("into", x.courseOf(0, 10), 1);
        due.is("why", x.courseOf(1, 12), 2);
        due.is("its person has no class", x.personOf(1, 1), Given.MISSING);
        due.is("who moved on", x.member(2, 1), 0);
    }

    private void enoughByAMerging() {
        due.sentence("a class that has enough people by a merging is not taken");
        EveningClasses x = new EveningClasses();
        Given.rooms(x, 20);
        course(x, Given.kind(0, 0, 0), 3, 9, 1);
        course(x, Given.kind(0, 1, 0), 3, 9, 2);
        due.is("close", x.close(), 1);
        states(x, Given.MERGED, Given.RUNS);
        due.is("just enough", x.courseOf(1, 11), 0);
    }

    private void enoughByACancelling() {
        due.sentence("a class that has enough people by a cancelling is not taken");
        EveningClasses x = new EveningClasses();
        Given.rooms(x, 20);
        x.course(Given.kind(0, 0, 0), 3, 9, 10);
        x.course(Given.kind(1, 0, 0), 3, 9, 10);
        x.join(0, 1, -1);
        x.join(1, -1, -1);
        x.join(1, -1, -1);
        due.is("close", x.close(), 1);
        states(x, Given.CANCELLED, Given.RUNS);
        due.is("people", x.courseOf(1, 7), 3);
    }

    private void allEight() {
        due.sentence("first this is done, again and again");
        EveningClasses x = new EveningClasses();
        x.room(20);
        for (int course = 0; course < 8; course++) {
            course(x, Given.kind(0, 0, 0), 8, 20, 1);
        }
        due.is("close", x.close(), 1);
        states(x, Given.MERGED, Given.RUNS, Given.MERGED, Given.MERGED, Given.MERGED, Given.MERGED, Given.MERGED,
                Given.MERGED);
        due.is("merged", x.count(14), 7);
        due.is("people", x.courseOf(1, 7), 8);
        EveningClasses y = new EveningClasses();
        y.room(20);
        for (int course = 0; course < 8; course++) {
            course(y, Given.kind(0, 0, 0), 9, 20, 1);
        }
        due.is("close of too few", y.close(), 0);
        due.is("all eight", y.count(14) * 10 + y.count(15), 71);
    }

    private void mostPeopleFirst() {
        due.sentence("Then the open classes are gone through, those with the most people first");
        EveningClasses x = new EveningClasses();
        x.room(20);
        course(x, Given.kind(0, 0, 0), 1, 20, 2);
        course(x, Given.kind(1, 0, 0), 1, 20, 4);
        course(x, Given.kind(2, 0, 0), 1, 20, 3);
        due.is("close", x.close(), 1);
        states(x, Given.CANCELLED, Given.RUNS, Given.CANCELLED);
    }

    private void lowestOfAsMany() {
        due.sentence("those with the most people first, of several the lowest one first");
        EveningClasses x = new EveningClasses();
        Given.rooms(x, 20, 9);
        course(x, Given.kind(0, 0, 0), 1, 20, 2);
        course(x, Given.kind(1, 0, 0), 1, 20, 3);
        course(x, Given.kind(2, 0, 0), 1, 20, 3);
        course(x, Given.kind(3, 0, 0), 1, 20, 3);
        due.is("close", x.close(), 2);
        states(x, Given.CANCELLED, Given.RUNS, Given.RUNS, Given.CANCELLED);
        due.is("the lowest has the least room", x.courseOf(1, 9), 1);
        due.is("the next one the other", x.courseOf(2, 9), 0);
    }

    private void fewestChairs() {
        due.sentence("the class gets the room with the fewest chairs");
        EveningClasses x = new EveningClasses();
        Given.rooms(x, 9, 5, 30, 4, 6);
        course(x, Given.kind(0, 0, 0), 1, 20, 5);
        course(x, Given.kind(1, 0, 0), 1, 20, 4);
        course(x, Given.kind(2, 0, 0), 1, 20, 1);
        due.is("close", x.close(), 3);
        due.is("of 5", x.courseOf(0, 9), 1);
        due.is("of 4", x.courseOf(1, 9), 3);
        due.is("of 6, the least that is left", x.courseOf(2, 9), 4);
    }

    private void lowestOfAsManyChairs() {
        due.sentence("the room with the fewest chairs, of several the lowest one");
        EveningClasses x = new EveningClasses();
        Given.rooms(x, 9, 4, 4, 4);
        course(x, Given.kind(0, 0, 0), 1, 20, 4);
        course(x, Given.kind(1, 0, 0), 1, 20, 4);
        due.is("close", x.close(), 2);
        due.is("the lowest", x.courseOf(0, 9), 1);
        due.is("the next", x.courseOf(1, 9), 2);
    }

    private void aChairForEach() {
        due.sentence("of those that have a chair for each of its people");
        EveningClasses x = new EveningClasses();
        Given.rooms(x, 4);
        course(x, Given.kind(0, 0, 0), 1, 20, 5);
        course(x, Given.kind(1, 0, 1), 1, 20, 4);
        due.is("close", x.close(), 1);
        states(x, Given.CANCELLED, Given.RUNS);
        due.is("why", x.courseOf(0, 12), 3);
        due.is("no chair is left", x.roomOf(0, 2), 0);
        EveningClasses y = new EveningClasses();
        Given.rooms(y, 1, 20);
        course(y, Given.kind(0, 0, 0), 1, 20, 20);
        course(y, Given.kind(1, 0, 0), 1, 20, 1);
        due.is("1 and 20", y.close(), 2);
        due.is("20", y.courseOf(0, 9), 1);
        due.is("1", y.courseOf(1, 9), 0);
    }

    private void notOnTheSameEvening() {
        due.sentence("and were not given to another class on the same evening; it runs then.");
        EveningClasses x = new EveningClasses();
        Given.rooms(x, 4, 9);
        for (int course = 0; course < 8; course++) {
            course(x, Given.kind(course % 4, course / 4 * 2, course < 3 ? 2 : course - 3), 1, 20, 1);
        }
        due.is("close", x.close(), 6);
        states(x, Given.RUNS, Given.RUNS, Given.CANCELLED, Given.RUNS, Given.RUNS, Given.CANCELLED, Given.RUNS,
                Given.RUNS);
        due.is("one on each evening", x.roomOf(0, 1), 1 + 8 + 16 + 64 + 128);
        due.is("the second one of an evening", x.roomOf(1, 1), 2);
    }

    /** Of two on an evening one is merged: the room is left for the next one. */
    private void mergedAndCancelledTakeNoRoom() {
        due.sentence("a class that was merged or cancelled is given no room");
        EveningClasses x = new EveningClasses();
        Given.rooms(x, 3, 4);
        course(x, Given.kind(0, 0, 0), 2, 20, 1);
        course(x, Given.kind(0, 0, 1), 1, 20, 2);
        course(x, Given.kind(1, 0, 0), 1, 20, 5);
        course(x, Given.kind(2, 0, 0), 1, 20, 3);
        course(x, Given.kind(3, 0, 0), 1, 20, 4);
        due.is("close", x.close(), 3);
        states(x, Given.MERGED, Given.RUNS, Given.CANCELLED, Given.RUNS, Given.RUNS);
        due.is("room 0", x.roomOf(0, 1), 2 + 8);
        due.is("room 1", x.roomOf(1, 1), 16);
    }

    private void withoutARoom() {
        due.sentence("If there is none, it is cancelled, and all its people go out of it");
        EveningClasses x = new EveningClasses();
        course(x, Given.kind(0, 0, 0), 1, 20, 20);
        due.is("there are no rooms", x.close(), 0);
        states(x, Given.CANCELLED);
        due.is("why", x.courseOf(0, 12), 3);
        due.is("people", x.courseOf(0, 7), 0);
        due.is("people in a class", x.count(4), 0);
        due.is("back", x.count(10), 200);
        due.is("cancelled", x.count(15), 1);
        due.is("no room", x.courseOf(0, 9), Given.MISSING);
        for (int person = 0; person < 20; person++) {
            due.is("class", x.personOf(person, 1), Given.MISSING);
        }
    }

    /** Class 0 gets no room; class 1 is open still, and its people could come there, but stay out. */
    private void nothingIsSettled() {
        due.sentence("(nothing is settled)");
        EveningClasses x = new EveningClasses();
        x.room(3);
        x.course(Given.kind(0, 0, 0), 1, 20, 10);
        x.course(Given.kind(1, 0, 0), 1, 20, 20);
        for (int person = 0; person < 4; person++) {
            x.join(0, 1, -1);
        }
        Given.come(x, 1, 3);
        due.is("close", x.close(), 1);
        states(x, Given.CANCELLED, Given.RUNS);
        due.is("people", x.courseOf(1, 7), 3);
        due.is("settlings", x.count(13), 7);
        due.is("rank", x.personOf(0, 2), 4);
        due.is("who waits", x.courseOf(1, 8), 4);
    }

    private void thenTheTermIsClosed() {
        due.sentence("Then the term is closed.");
        EveningClasses x = Given.apart(1);
        due.is("before", x.count(8), 0);
        x.close();
        due.is("then", x.count(8), 1);
        due.is("join", x.join(0, -1, -1), Given.IMPOSSIBLE);
        due.is("ifJoin", x.ifJoin(0), Given.IMPOSSIBLE);
        due.is("ifClose", x.ifClose(0), Given.IMPOSSIBLE);
        due.is("no class is open", x.count(5), 0);
        due.is("number of the term", x.count(7), 0);
    }

    private void howManyRun() {
        due.sentence("close: Returns how many classes run");
        EveningClasses x = new EveningClasses();
        due.is("without classes", x.close(), 0);
        x.term();
        x.course(0, 1, 1, 1);
        due.is("none of one", x.close(), 0);
        x.term();
        x.room(1);
        x.join(0, -1, -1);
        due.is("one", x.close(), 1);
        EveningClasses y = new EveningClasses();
        Given.rooms(y, 1, 1, 1, 1, 1);
        for (int course = 0; course < 8; course++) {
            course(y, Given.kind(course % 4, course / 4 * 2, course / 4), 1, 1, 1);
        }
        due.is("all of eight", y.close(), 8);
    }

    private void closeRefused() {
        due.sentence("close: NOT_POSSIBLE if it is closed.");
        EveningClasses x = Given.apart(1);
        due.is("close", x.close(), 0);
        due.is("close again", x.close(), Given.IMPOSSIBLE);
        due.is("cancelled once", x.count(15), 1);
        x.term();
        due.is("in the next term", x.close(), 0);
        x.undo();
        due.is("undone", x.close(), 0);
        due.is("and again", x.close(), Given.IMPOSSIBLE);
    }

    private void termOpensAll() {
        due.sentence("Begins the next term: all classes are open, without people, rooms are given to none, there are no people");
        EveningClasses x = new EveningClasses();
        Given.rooms(x, 9, 1);
        course(x, Given.kind(0, 0, 0), 1, 20, 9);
        course(x, Given.kind(0, 1, 0), 2, 20, 1);
        course(x, Given.kind(1, 0, 0), 2, 20, 1);
        course(x, Given.kind(2, 0, 0), 1, 20, 3);
        x.leave(0);
        x.close();
        states(x, Given.RUNS, Given.MERGED, Given.CANCELLED, Given.CANCELLED);
        x.term();
        for (int course = 0; course < 4; course++) {
            due.is("open", x.courseOf(course, 6), Given.OPEN);
            due.is("people", x.courseOf(course, 7), 0);
            due.is("member", x.member(course, 0), Given.MISSING);
            due.is("waiting", x.courseOf(course, 8), 0);
            due.is("room", x.courseOf(course, 9), Given.MISSING);
            due.is("merged into", x.courseOf(course, 10), Given.MISSING);
            due.is("why", x.courseOf(course, 12), 0);
        }
        due.is("open ones", x.count(5), 15);
        due.is("with a free place", x.count(6), 15);
        due.is("room 0", x.roomOf(0, 1), 0);
        due.is("its chairs", x.roomOf(0, 0), 9);
        due.is("people", x.count(2) + x.count(3) + x.count(4), 0);
        due.is("person 0", x.personOf(0, 0), Given.INVALID);
        due.is("mean", x.mean(), Given.MISSING);
        due.is("not closed", x.count(8), 0);
        due.is("the first one who comes", x.join(3, -1, -1), 0);
        due.is("is there", x.personOf(0, 0), 1);
        due.is("with one wish", x.personOf(0, 6), Given.MISSING);
    }

    private void whatWasPaidStays() {
        due.sentence("what was paid stays paid.");
        EveningClasses x = Given.apart(2, 2);
        x.room(2);
        Given.come(x, 0, 2);
        Given.come(x, 1, 1);
        x.close();
        due.is("for classes", x.count(11), 20);
        due.is("of terms that are over", x.count(12), 0);
        x.term();
        due.is("for classes then", x.count(11), 0);
        due.is("of terms that are over then", x.count(12), 20);
        due.is("paid", x.count(9), 40);
        due.is("nothing is paid back by it", x.count(10), 20);
        x.join(0, -1, -1);
        x.close();
        x.term();
        due.is("of both terms", x.count(12), 30);
        x.close();
        x.term();
        due.is("of an empty one too", x.count(12), 30);
    }

    private void numberOfTheTerm() {
        due.sentence("term: Returns its number, from 1 on (the first term is 0)");
        EveningClasses x = new EveningClasses();
        due.is("the first one", x.count(7), 0);
        for (int number = 1; number <= 170; number++) {
            x.close();
            due.is("term", x.term(), number);
        }
        due.is("number", x.count(7), 170);
    }

    private void termRefused() {
        due.sentence("term: NOT_POSSIBLE if the term is not closed.");
        EveningClasses x = new EveningClasses();
        due.is("a new object", x.term(), Given.IMPOSSIBLE);
        x.close();
        due.is("closed", x.term(), 1);
        due.is("not closed", x.term(), Given.IMPOSSIBLE);
        due.is("number", x.count(7), 1);
        x.close();
        x.undo();
        due.is("closing undone", x.term(), Given.IMPOSSIBLE);
    }

    private void ifCloseSets() {
        due.sentence("ifClose 0 to 2: classes that would run, as a set; that would be cancelled; that would be merged");
        EveningClasses x = new EveningClasses();
        for (int what = 0; what <= 5; what++) {
            due.is("without classes " + what, x.ifClose(what), 0);
        }
        Given.rooms(x, 1, 1);
        for (int course = 0; course < 8; course++) {
            course(x, Given.kind(course % 4, course / 4 * 2, course / 2), 1, 1, course == 5 ? 0 : 1);
        }
        due.is("run", x.ifClose(0), 255 - 32);
        due.is("cancelled", x.ifClose(1), 32);
        due.is("merged", x.ifClose(2), 0);
        EveningClasses y = new EveningClasses();
        y.room(30);
        for (int course = 0; course < 8; course++) {
            course(y, Given.kind(0, 0, 0), course == 7 ? 1 : 2, 20, course == 7 ? 2 : 1);
        }
        due.is("one runs", y.ifClose(0), 128);
        due.is("none is cancelled", y.ifClose(1), 0);
        due.is("seven are merged", y.ifClose(2), 127);
        EveningClasses z = new EveningClasses();
        z.room(30);
        course(z, Given.kind(0, 3, 0), 2, 20, 1);
        course(z, Given.kind(0, 1, 0), 1, 20, 2);
        course(z, Given.kind(0, 0, 0), 2, 20, 1);
        due.is("one of two levels away", z.ifClose(1), 1);
        due.is("one of one level away", z.ifClose(2), 4);
    }

    private void ifClosePeopleAndCoins() {
        due.sentence("ifClose 3 to 5: people who would be in a class, how many; coins that would be paid back in it; "
                + "coins that would be paid in it");
        EveningClasses x = new EveningClasses();
        x.room(30);
        x.course(Given.kind(0, 0, 0), 4, 20, 30);
        x.course(Given.kind(0, 1, 0), 1, 20, 25);
        x.course(Given.kind(1, 0, 1), 4, 20, 40);
        x.course(Given.kind(2, 0, 2), 1, 3, 7);
        x.join(0, -1, -1);
        x.join(0, 3, -1);
        x.join(1, -1, -1);
        x.join(2, 3, -1);
        x.join(2, -1, -1);
        x.join(3, -1, -1);
        x.leave(2);
        x.join(1, -1, -1);
        due.is("paid so far", x.count(9) * 1000 + x.count(10), 197025);
        due.is("people", x.ifClose(3), 5);
        due.is("back: 5 of two, 25 of who moves on, 40 of two", x.ifClose(4), 5 + 5 + 25 + 40 + 40);
        due.is("paid: 7 of two", x.ifClose(5), 14);
    }

    private void ifCloseTellsWhatCloseBrings() {
        due.sentence("Tells what a closing now would bring.");
        EveningClasses x = new EveningClasses();
        Given.rooms(x, 3, 2);
        course(x, Given.kind(0, 0, 0), 2, 20, 1);
        course(x, Given.kind(0, 1, 0), 2, 20, 2);
        course(x, Given.kind(1, 0, 0), 1, 20, 4);
        course(x, Given.kind(2, 0, 0), 2, 20, 1);
        String before = Given.answers(x);
        int[] would = new int[6];
        for (int what = 0; what < would.length; what++) {
            would[what] = x.ifClose(what);
        }
        due.same("it changes nothing", Given.answers(x), before);
        int paid = x.count(9);
        int back = x.count(10);
        due.is("run", Integer.bitCount(would[0]), x.close());
        for (int course = 0; course < 4; course++) {
            int state = x.courseOf(course, 6);
            due.is("runs " + course, would[0] >> course & 1, state == Given.RUNS ? 1 : 0);
            due.is("cancelled " + course, would[1] >> course & 1, state == Given.CANCELLED ? 1 : 0);
            due.is("merged " + course, would[2] >> course & 1, state == Given.MERGED ? 1 : 0);
        }
        due.is("people", would[3], x.count(4));
        due.is("back", would[4], x.count(10) - back);
        due.is("paid", would[5], x.count(9) - paid);
    }

    private void ifCloseRefused() {
        due.sentence("ifClose: INVALID_ARGUMENT if what is out of range; NOT_POSSIBLE if the term is closed.");
        EveningClasses x = Given.apart(1);
        for (int far : FAR) {
            due.is("what " + far, x.ifClose(far), Given.INVALID);
        }
        due.is("what 6", x.ifClose(6), Given.INVALID);
        due.is("what 5", x.ifClose(5), 0);
        x.close();
        for (int what = 0; what <= 5; what++) {
            due.is("closed " + what, x.ifClose(what), Given.IMPOSSIBLE);
        }
        due.is("closed, what 6", x.ifClose(6), Given.INVALID);
        due.is("closed, what -1", x.ifClose(-1), Given.INVALID);
        x.term();
        due.is("the next term", x.ifClose(1), 1);
    }

    private void besideIfTaken() {
        due.sentence("Tells into which class a class would be merged, if it was taken now.");
        EveningClasses x = new EveningClasses();
        course(x, Given.kind(0, 0, 0), 1, 4, 2);
        course(x, Given.kind(0, 0, 0), 1, 4, 2);
        due.is("it need not be too small", x.beside(0), 1);
        due.is("nor the other", x.beside(1), 0);
        Given.come(x, 1, 1);
        due.is("one too many", x.beside(0), Given.MISSING);
        due.is("one too many in the other", x.beside(1), Given.MISSING);
        course(x, Given.kind(0, 1, 0), 1, 4, 0);
        due.is("an empty one can be the one", x.beside(0), 2);
        due.is("for both", x.beside(1), 2);
    }

    private void besideRefused() {
        due.sentence("beside: INVALID_ARGUMENT; NOT_POSSIBLE if it is not open; NOT_FOUND if there is none, or it has no "
                + "people.");
        EveningClasses x = new EveningClasses();
        due.is("no classes", x.beside(0), Given.INVALID);
        course(x, Given.kind(0, 0, 0), 1, 4, 0);
        course(x, Given.kind(0, 0, 0), 1, 4, 0);
        course(x, Given.kind(1, 0, 0), 1, 4, 1);
        for (int far : FAR) {
            due.is("class " + far, x.beside(far), Given.INVALID);
        }
        due.is("class 3 of 3", x.beside(3), Given.INVALID);
        due.is("it has no people", x.beside(0), Given.MISSING);
        due.is("there is none", x.beside(2), Given.MISSING);
        Given.come(x, 0, 1);
        due.is("there is one", x.beside(0), 1);
        x.room(9);
        Given.come(x, 1, 1);
        x.close();
        due.is("it runs", x.beside(0), Given.IMPOSSIBLE);
        due.is("it is cancelled", x.beside(2), Given.IMPOSSIBLE);
        due.is("no class of a closed term", x.beside(3), Given.INVALID);
        x.term();
        Given.come(x, 0, 1);
        due.is("open again", x.beside(0), 1);
    }
}
