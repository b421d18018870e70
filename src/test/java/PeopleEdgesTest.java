/** "People" and the promises 4 to 6, 11 and 12: each sentence that names an edge, by a test of its own. */
public final class PeopleEdgesTest {
    private static final int[] FAR = {-1, Given.LOWEST, Given.HIGHEST};

    private final Due due = new Due();

    public static void main(String[] args) {
        PeopleEdgesTest test = new PeopleEdgesTest();
        test.thirtyPeople();
        test.whoLeftKeepsTheNumber();
        test.oneToThreeWishes();
        test.unlikeClasses();
        test.oneClassOrNone();
        test.ranks();
        test.whoComesPays();
        test.whoGoesGetsBackWhatWasPaid();
        test.settledWhoHasNotLeft();
        test.settledToALesserRank();
        test.settledFromRankThree();
        test.settledToTheLeastRank();
        test.settledOutOfTheClassOfBefore();
        test.settledLowestNumberFirst();
        test.settledFromTheLowestAgain();
        test.settledAsLongAsThereIsOne();
        test.settledBehindEachChange();
        test.notSettledInAClosedTerm();
        test.firstWish();
        test.secondWish();
        test.thirdWish();
        test.joinRefused();
        test.wishStaysUntilABetterOne();
        test.wishReturnsTheRank();
        test.wishRefused();
        test.leaveReturnsWhatIsPaidBack();
        test.leaveRefused();
        test.waitsByRank();
        test.waitsRefused();
        test.hereOrNot();
        test.classOfAPerson();
        test.whatIsPaid();
        test.howOftenThePersonCame();
        test.wishesByRank();
        test.personOfRefused();
        test.due.end();
    }

    private void person(EveningClasses x, int person, int course, int rank, int paid, int comings) {
        due.is("class of " + person, x.personOf(person, 1), course);
        due.is("rank of " + person, x.personOf(person, 2), rank);
        due.is("paid of " + person, x.personOf(person, 3), paid);
        due.is("comings of " + person, x.personOf(person, 4), comings);
    }

    private void thirtyPeople() {
        due.sentence("In a term there are at most 30 people, numbered from 0 in the order in which they came");
        EveningClasses x = Given.apart(20, 20);
        for (int person = 0; person < 30; person++) {
            due.is("not there yet", x.personOf(person, 0), Given.INVALID);
            due.is("join", x.join(person % 2, -1, -1), person);
        }
        due.is("person 31", x.join(0, -1, -1), Given.LIMIT);
        due.is("no person 30", x.personOf(30, 0), Given.INVALID);
        due.is("the last one", x.personOf(29, 1), 1);
        due.is("came", x.count(2), 30);
        x.close();
        x.term();
        for (int person = 0; person < 30; person++) {
            due.is("join in the next term", x.join(0, 1, -1), person);
        }
        due.is("person 31 of the next term", x.join(0, -1, -1), Given.LIMIT);
    }

    private void whoLeftKeepsTheNumber() {
        due.sentence("those who left keep their number.");
        EveningClasses x = Given.apart(20);
        Given.come(x, 0, 2);
        x.leave(1);
        x.leave(0);
        due.is("the next number", x.join(0, -1, -1), 2);
        due.is("who left is told still", x.personOf(0, 0), 0);
        due.is("the other one too", x.personOf(1, 5), 0);
        Given.come(x, 0, 27);
        x.leave(5);
        due.is("came", x.count(2), 30);
        due.is("no number is free", x.join(0, -1, -1), Given.LIMIT);
    }

    private void oneToThreeWishes() {
        due.sentence("A person has one to three wishes by rank");
        EveningClasses x = Given.apart(1, 1, 1, 1);
        due.is("no wish", x.join(-1, -1, -1), Given.INVALID);
        x.join(3, -1, -1);
        x.join(2, 3, -1);
        x.join(3, 2, 1);
        int[][] want = {{3, Given.MISSING, Given.MISSING}, {2, 3, Given.MISSING}, {3, 2, 1}};
        for (int person = 0; person < 3; person++) {
            for (int rank = 0; rank < 3; rank++) {
                due.is("wish " + rank + " of " + person, x.personOf(person, 5 + rank), want[person][rank]);
            }
        }
        due.is("has the third", x.personOf(2, 1), 1);
    }

    private void unlikeClasses() {
        due.sentence("unlike classes");
        EveningClasses x = Given.apart(1, 1, 1);
        int[][] alike = {{1, 1, -1}, {1, 1, 2}, {1, 2, 1}, {1, 2, 2}, {1, 1, 1}};
        x.join(0, -1, -1);
        for (int[] a : alike) {
            String name = a[0] + "," + a[1] + "," + a[2];
            due.is("join " + name, x.join(a[0], a[1], a[2]), Given.INVALID);
            due.is("wish " + name, x.wish(0, a[0], a[1], a[2]), Given.INVALID);
        }
    }

    private void oneClassOrNone() {
        due.sentence("and is in one class or in none.");
        EveningClasses x = Given.apart(1, 2, 3);
        x.join(0, 1, 2);
        x.join(0, 1, 2);
        x.join(0, -1, -1);
        due.is("people of the classes", x.courseOf(0, 7) * 100 + x.courseOf(1, 7) * 10 + x.courseOf(2, 7), 110);
        due.is("people in a class", x.count(4), 2);
        x.leave(0);
        due.is("moved", x.courseOf(0, 7) * 100 + x.courseOf(1, 7) * 10 + x.courseOf(2, 7), 100);
        due.is("people in a class", x.count(4), 1);
        due.is("in none", x.personOf(2, 1), Given.MISSING);
    }

    private void ranks() {
        due.sentence("What a person has is of the rank of that class among the wishes; a class that is none of them is "
                + "of the rank 3, no class of the rank 4.");
        EveningClasses x = Given.apart(1, 1, 1, 1);
        for (int person = 0; person < 3; person++) {
            x.join(0, 1, 2);
            due.is("rank " + person, x.personOf(person, 2), person);
        }
        x.join(0, 1, 2);
        due.is("no class", x.personOf(3, 2), 4);
        due.is("a class that is no wish", x.wish(2, 0, 1, -1), 3);
        due.is("told by personOf too", x.personOf(2, 2), 3);
        due.is("of one wish alone", x.wish(2, 0, -1, -1), 3);
        due.is("no class, one wish alone", x.wish(3, 0, -1, -1), 4);
        x.leave(0);
        due.is("who left", x.personOf(0, 2), 4);
    }

    private void whoComesPays() {
        due.sentence("Who comes into a class, but by a merging, pays its fee");
        EveningClasses x = new EveningClasses();
        x.course(Given.kind(0, 0, 0), 1, 9, 99);
        x.course(Given.kind(0, 1, 0), 2, 9, 5);
        x.course(Given.kind(1, 0, 0), 1, 9, 0);
        x.room(9);
        x.join(0, -1, -1);
        due.is("99", x.count(9), 99);
        x.join(1, -1, -1);
        due.is("5 more", x.count(9), 104);
        x.join(2, -1, -1);
        due.is("none for nothing", x.count(9), 104);
        x.close();
        due.is("merged", x.personOf(1, 1), 0);
        due.is("nothing is paid by a merging", x.count(9), 104);
        person(x, 1, 0, 3, 5, 2);
    }

    /** A class at 5 coins is merged into one at 50, which gets no room: what was paid is given back, not its fee. */
    private void whoGoesGetsBackWhatWasPaid() {
        due.sentence("who goes out of one gets back what was paid for it.");
        EveningClasses x = Given.apart(9, 9);
        x.join(1, -1, -1);
        x.wish(0, 0, -1, -1);
        due.is("by a move", x.count(10), 20);
        due.is("by leaving", x.leave(0), 10);
        due.is("both", x.count(10), 30);
        EveningClasses y = new EveningClasses();
        y.course(Given.kind(0, 0, 0), 3, 9, 5);
        y.course(Given.kind(0, 0, 0), 1, 9, 50);
        Given.come(y, 0, 2);
        Given.come(y, 1, 3);
        y.close();
        due.is("merged and cancelled", y.courseOf(0, 6) * 10 + y.courseOf(1, 6), 32);
        due.is("what was paid", y.count(10), 2 * 5 + 3 * 50);
        due.is("all of it", y.count(9), y.count(10));
        due.is("nothing is paid for a class", y.count(11), 0);
    }

    private void settledWhoHasNotLeft() {
        due.sentence("as long as there is a person who has not left");
        EveningClasses x = Given.apart(1);
        Given.come(x, 0, 4);
        x.leave(1);
        x.leave(0);
        due.is("who left does not come", x.personOf(1, 1), Given.MISSING);
        due.is("the next one does", x.member(0, 0), 2);
        x.leave(3);
        x.leave(2);
        due.is("nobody comes, not even who left last", x.courseOf(0, 7), 0);
        due.is("settlings", x.count(13), 2);
    }

    private void settledToALesserRank() {
        due.sentence("and a wish of this person, of a lesser rank than what the person has, with a free place");
        EveningClasses x = Given.apart(1, 2, 2);
        x.join(0, -1, -1);
        x.join(0, 1, 2);
        person(x, 1, 1, 1, 20, 1);
        x.room(1);
        due.is("a free place of the same rank or a greater one moves nobody", x.personOf(1, 1), 1);
        due.is("rank 2 is free", x.wish(1, 0, 1, 2), 1);
        due.is("rank 0 is the own one", x.wish(1, 1, 2, 0), 0);
        person(x, 1, 1, 0, 20, 1);
        due.is("rank 0 is full, rank 1 is free, rank 2 is the own one", x.wish(1, 0, 2, 1), 1);
        person(x, 1, 2, 1, 30, 2);
        due.is("rank 0 is full", x.courseOf(0, 8), 1);
        x.leave(0);
        person(x, 1, 0, 0, 10, 3);
    }

    private void settledFromRankThree() {
        due.sentence("a class that is none of them is left for each wish with a free place");
        EveningClasses x = Given.apart(1, 1, 1, 1);
        x.join(0, -1, -1);
        x.join(1, -1, -1);
        x.join(2, -1, -1);
        due.is("none is free", x.wish(0, 1, 2, -1), 3);
        due.is("the third wish is free", x.wish(0, 1, 2, 3), 2);
        person(x, 0, 3, 2, 40, 2);
    }

    private void settledToTheLeastRank() {
        due.sentence("comes into the wish of the least rank of these");
        EveningClasses x = Given.apart(1, 1, 1, 1);
        x.join(2, 1, 0);
        person(x, 0, 2, 0, 30, 1);
        x.join(2, 1, 0);
        person(x, 1, 1, 1, 20, 1);
        x.join(2, 1, 0);
        person(x, 2, 0, 2, 10, 1);
        due.is("all is free for class 3", x.wish(2, 3, 1, 0), 0);
        person(x, 2, 3, 0, 40, 2);
    }

    private void settledOutOfTheClassOfBefore() {
        due.sentence("(and out of the class of before)");
        EveningClasses x = Given.apart(2, 2);
        x.join(0, -1, -1);
        x.join(0, -1, -1);
        x.wish(0, 1, -1, -1);
        due.is("one is left", x.courseOf(0, 7), 1);
        due.is("the other one", x.member(0, 0), 1);
        due.is("came", x.member(1, 0), 0);
        due.is("a place is free again", x.count(6), 3);
        due.is("back", x.count(10), 10);
        due.is("paid", x.count(9), 40);
    }

    private void settledLowestNumberFirst() {
        due.sentence("the one with the lowest number of them");
        EveningClasses x = Given.apart(1, 1);
        x.join(0, -1, -1);
        x.join(1, -1, -1);
        x.join(1, -1, -1);
        x.join(0, -1, -1);
        x.wish(2, 1, 0, -1);
        x.leave(0);
        due.is("2 comes ahead of 3, though it is the second wish", x.member(0, 0), 2);
        x.leave(1);
        due.is("2 moves up", x.member(1, 0), 2);
        due.is("3 comes then", x.member(0, 0), 3);
    }

    /** 1 moves up into class 0; into its place comes 2, who has a lower number than 4, though 4 waited longer. */
    private void settledFromTheLowestAgain() {
        due.sentence("of several changes of a settling each looks for the lowest number once more");
        EveningClasses x = Given.apart(1, 1, 1, 1);
        x.join(0, -1, -1);
        x.join(2, -1, -1);
        x.join(1, -1, -1);
        x.join(3, -1, -1);
        x.wish(2, 0, 1, -1);
        x.wish(3, 1, 3, -1);
        x.wish(1, 1, 2, -1);
        x.leave(0);
        person(x, 2, 0, 0, 10, 2);
        person(x, 1, 1, 0, 20, 2);
        person(x, 3, 3, 1, 40, 1);
        due.is("who waits still", x.waits(1, 0), 3);
    }

    private void settledAsLongAsThereIsOne() {
        due.sentence("To settle is: as long as there is a person");
        EveningClasses x = Given.apart(1, 1, 1, 1, 1, 1, 1, 1);
        for (int person = 0; person < 8; person++) {
            x.join(7 - person, -1, -1);
        }
        for (int person = 0; person < 7; person++) {
            x.wish(person, 6 - person, 7 - person, -1);
        }
        due.is("settlings before", x.count(13), 8);
        x.leave(7);
        due.is("seven moved up", x.count(13), 15);
        for (int person = 0; person < 7; person++) {
            person(x, person, 6 - person, 0, 10 * (7 - person), 2);
        }
        due.is("the last class is free", x.count(6), 128);
    }

    private void settledBehindEachChange() {
        due.sentence("Behind each change in a term that is not closed all is settled.");
        EveningClasses x = Given.apart(1, 1);
        x.join(0, -1, -1);
        due.is("behind join", x.courseOf(0, 7), 1);
        x.join(0, -1, -1);
        x.wish(0, 1, -1, -1);
        due.is("behind wish, of another one too", x.member(0, 0), 1);
        x.join(0, -1, -1);
        x.leave(1);
        due.is("behind leave", x.member(0, 0), 2);
        Given.put(x, "leave 2;join 0;");
        x.play();
        due.is("behind play", x.member(0, 0), 3);
        x.undo();
        due.is("behind undo it is as it was", x.member(0, 0), 2);
    }

    private void notSettledInAClosedTerm() {
        due.sentence("in a term that is not closed");
        EveningClasses x = Given.apart(2, 2);
        x.room(1);
        x.join(1, 0, -1);
        x.join(1, 0, -1);
        x.join(0, -1, -1);
        x.close();
        due.is("cancelled without a room", x.courseOf(1, 12), 3);
        due.is("class 0 runs with 1 of 2", x.courseOf(0, 7), 1);
        due.is("nobody moves into it", x.personOf(0, 1), Given.MISSING);
        x.play();
        due.is("nor behind a change of the closed term", x.personOf(0, 1), Given.MISSING);
    }

    private void firstWish() {
        due.sentence("first: a class: the wish of the rank 0");
        EveningClasses x = Given.apart(1, 1);
        for (int first : new int[] {-1, -2, 2, 8, Given.LOWEST, Given.HIGHEST}) {
            due.is("join " + first, x.join(first, -1, -1), Given.INVALID);
            due.is("join " + first + ",0", x.join(first, 0, -1), Given.INVALID);
        }
        due.is("join 1", x.join(1, -1, -1), 0);
        due.is("wish", x.personOf(0, 5), 1);
        EveningClasses y = new EveningClasses();
        due.is("without classes", y.join(0, -1, -1), Given.INVALID);
    }

    private void secondWish() {
        due.sentence("second: another class; -1 for no more wishes");
        EveningClasses x = Given.apart(1, 1);
        for (int second : new int[] {-2, 0, 2, 8, Given.LOWEST, Given.HIGHEST}) {
            due.is("join 0," + second, x.join(0, second, -1), Given.INVALID);
        }
        due.is("join 0,1", x.join(0, 1, -1), 0);
        due.is("join 0 alone", x.join(0, -1, -1), 1);
        due.is("no more wishes", x.personOf(1, 6), Given.MISSING);
    }

    private void thirdWish() {
        due.sentence("third: a third class; -1 for none (also if second is -1)");
        EveningClasses x = Given.apart(1, 1, 1);
        for (int third : new int[] {-2, 0, 1, 3, 8, Given.LOWEST, Given.HIGHEST}) {
            due.is("join 0,1," + third, x.join(0, 1, third), Given.INVALID);
            due.is("join 0,-1," + third, x.join(0, -1, third), Given.INVALID);
        }
        due.is("third is not -1 though second is", x.join(0, -1, 2), Given.INVALID);
        due.is("join 0,1,2", x.join(0, 1, 2), 0);
        due.is("third wish", x.personOf(0, 7), 2);
        due.is("none", x.join(0, 1, -1), 1);
        due.is("no third wish", x.personOf(1, 7), Given.MISSING);
    }

    private void joinRefused() {
        due.sentence("join: INVALID_ARGUMENT if there is no such class, two are the same, or third is not -1 though second "
                + "is; NOT_POSSIBLE if the term is closed; LIMIT_REACHED if there are 30 people.");
        EveningClasses x = Given.apart(1, 1);
        x.close();
        due.is("closed", x.join(0, -1, -1), Given.IMPOSSIBLE);
        due.is("closed, no such class", x.join(2, -1, -1), Given.INVALID);
        due.is("closed, two are the same", x.join(0, 0, -1), Given.INVALID);
        due.is("closed, third without second", x.join(0, -1, 1), Given.INVALID);
        x.term();
        Given.come(x, 0, 30);
        due.is("30 people", x.join(1, -1, -1), Given.LIMIT);
        due.is("30 people, no such class", x.join(0, 2, -1), Given.INVALID);
        due.is("30 people, two are the same", x.join(1, 1, -1), Given.INVALID);
        due.is("30 people, third without second", x.join(1, -1, 0), Given.INVALID);
        x.close();
        due.is("30 people, and closed", x.join(1, -1, -1), Given.IMPOSSIBLE);
        due.is("all of it", x.join(1, -1, 0), Given.INVALID);
        x.term();
        due.is("the next term", x.join(1, -1, -1), 0);
    }

    private void wishStaysUntilABetterOne() {
        due.sentence("Changes the wishes of a person, who stays in the class until a better one is free.");
        EveningClasses x = Given.apart(1, 1, 1);
        x.join(0, -1, -1);
        x.join(1, -1, -1);
        due.is("another one is full", x.wish(0, 1, -1, -1), 3);
        person(x, 0, 0, 3, 10, 1);
        due.is("coins", x.count(9) * 100 + x.count(10), 3000);
        x.leave(1);
        person(x, 0, 1, 0, 20, 2);
        x.join(0, -1, -1);
        due.is("the own class is a later wish", x.wish(0, 0, 1, -1), 1);
        person(x, 0, 1, 1, 20, 2);
        due.is("what was waited for is forgotten", x.courseOf(0, 8), 1);
        x.wish(0, 2, -1, -1);
        due.is("nobody waits now", x.courseOf(0, 8), 0);
    }

    private void wishReturnsTheRank() {
        due.sentence("Returns the rank of what the person has then, 0 to 4");
        EveningClasses x = Given.apart(1, 1, 1, 1);
        for (int course = 0; course < 3; course++) {
            Given.come(x, course, 1);
        }
        x.join(0, -1, -1);
        due.is("none", x.wish(3, 1, 2, 0), 4);
        due.is("rank 2", x.wish(3, 0, 1, 3), 2);
        due.is("rank 1", x.wish(3, 0, 3, 1), 1);
        due.is("rank 0", x.wish(3, 3, 1, 0), 0);
        due.is("rank 3", x.wish(3, 0, 1, 2), 3);
        x.join(3, -1, -1);
        due.is("back to the own one, for which another one waits", x.wish(3, 3, -1, -1), 0);
        due.is("who waits still", x.waits(3, 0), 4);
    }

    private void wishRefused() {
        due.sentence("wish: INVALID_ARGUMENT as for join(), also if there is no such person; NOT_POSSIBLE if the term is "
                + "closed, or the person has left.");
        EveningClasses x = Given.apart(1, 1, 1);
        Given.come(x, 0, 2);
        x.leave(1);
        for (int person : new int[] {-1, 2, 29, 30, Given.LOWEST, Given.HIGHEST}) {
            due.is("person " + person, x.wish(person, 1, -1, -1), Given.INVALID);
        }
        int[][] wrong = {{-1, -1, -1}, {3, -1, -1}, {0, 3, -1}, {0, 1, 3}, {1, 1, -1}, {0, 1, 0}, {0, 1, 1}, {0, -1, 1}};
        for (int[] a : wrong) {
            String name = a[0] + "," + a[1] + "," + a[2];
            due.is("wish " + name, x.wish(0, a[0], a[1], a[2]), Given.INVALID);
            due.is("of one who left " + name, x.wish(1, a[0], a[1], a[2]), Given.INVALID);
        }
        due.is("the person has left", x.wish(1, 1, -1, -1), Given.IMPOSSIBLE);
        due.is("wishes of before", x.personOf(0, 5), 0);
        x.close();
        due.is("closed", x.wish(0, 1, -1, -1), Given.IMPOSSIBLE);
        due.is("closed, no such person", x.wish(2, 1, -1, -1), Given.INVALID);
        due.is("closed, no such class", x.wish(0, 3, -1, -1), Given.INVALID);
        due.is("closed, and left", x.wish(1, 1, -1, -1), Given.IMPOSSIBLE);
        x.term();
        due.is("the people of the term before", x.wish(0, 1, -1, -1), Given.INVALID);
    }

    private void leaveReturnsWhatIsPaidBack() {
        due.sentence("leave: Returns what is paid back to the person");
        EveningClasses x = new EveningClasses();
        x.course(0, 1, 1, 99);
        x.course(1, 1, 1, 0);
        x.course(2, 1, 1, 7);
        x.join(0, -1, -1);
        x.join(1, -1, -1);
        x.join(0, -1, -1);
        x.join(2, -1, -1);
        x.wish(3, 1, -1, -1);
        due.is("none without a class", x.leave(2), 0);
        due.is("the fee", x.leave(0), 99);
        due.is("nothing for nothing", x.leave(1), 0);
        due.is("behind a move", x.leave(3), 0);
        due.is("all that was paid", x.count(10), 99 + 7);
        EveningClasses y = Given.apart(1);
        Given.come(y, 0, 2);
        due.is("only to the person, not what others pay", y.leave(0), 10);
        due.is("paid for the class now", y.count(11), 10);
    }

    private void leaveRefused() {
        due.sentence("leave: INVALID_ARGUMENT; NOT_POSSIBLE if the term is closed, or the person has left.");
        EveningClasses x = Given.apart(1);
        for (int person : new int[] {-1, 0, 30, Given.LOWEST, Given.HIGHEST}) {
            due.is("person " + person, x.leave(person), Given.INVALID);
        }
        Given.come(x, 0, 2);
        due.is("a person", x.leave(0), 10);
        due.is("who has left", x.leave(0), Given.IMPOSSIBLE);
        due.is("nobody", x.leave(2), Given.INVALID);
        x.close();
        due.is("closed", x.leave(1), Given.IMPOSSIBLE);
        due.is("closed, and left", x.leave(0), Given.IMPOSSIBLE);
        due.is("closed, nobody", x.leave(2), Given.INVALID);
        x.term();
        due.is("the people of the term before", x.leave(1), Given.INVALID);
    }

    private void waitsByRank() {
        due.sentence("waits: rank: 0 for the one with the lowest number, and so on; NOT_FOUND if there are not so many.");
        EveningClasses x = Given.apart(1, 1);
        due.is("nobody", x.waits(0, 0), Given.MISSING);
        x.join(0, -1, -1);
        x.join(1, -1, -1);
        due.is("who is in it does not wait", x.waits(0, 0), Given.MISSING);
        Given.come(x, 0, 28);
        x.wish(1, 0, 1, -1);
        for (int rank = 0; rank < 29; rank++) {
            due.is("rank " + rank, x.waits(0, rank), rank + 1);
        }
        due.is("rank 29", x.waits(0, 29), Given.MISSING);
        due.is("rank 30", x.waits(0, 30), Given.MISSING);
        due.is("the highest rank", x.waits(0, Given.HIGHEST), Given.MISSING);
        x.leave(2);
        due.is("who left is left out", x.waits(0, 1), 3);
        due.is("the last one", x.waits(0, 27), 29);
        due.is("behind the last one", x.waits(0, 28), Given.MISSING);
        due.is("lesser wishes are none to wait for", x.waits(1, 0), Given.MISSING);
    }

    private void waitsRefused() {
        due.sentence("waits: INVALID_ARGUMENT if there is no such class, or rank is below 0");
        EveningClasses x = Given.apart(1);
        Given.come(x, 0, 2);
        for (int far : FAR) {
            due.is("class " + far, x.waits(far, 0), Given.INVALID);
        }
        due.is("class 1 of 1", x.waits(1, 0), Given.INVALID);
        due.is("no class, a rank that there is not", x.waits(1, 9), Given.INVALID);
        due.is("rank -1", x.waits(0, -1), Given.INVALID);
        due.is("the lowest rank", x.waits(0, Given.LOWEST), Given.INVALID);
    }

    private void hereOrNot() {
        due.sentence("personOf 0: 1 if the person has not left, otherwise 0");
        EveningClasses x = Given.apart(1);
        Given.come(x, 0, 2);
        due.is("in a class", x.personOf(0, 0), 1);
        due.is("in none", x.personOf(1, 0), 1);
        x.leave(0);
        due.is("has left", x.personOf(0, 0), 0);
        due.is("not left", x.personOf(1, 0), 1);
        x.close();
        due.is("in a closed term", x.personOf(1, 0), 1);
        due.is("left in a closed term", x.personOf(0, 0), 0);
        x.undo();
        x.undo();
        due.is("leaving undone", x.personOf(0, 0), 1);
    }

    private void classOfAPerson() {
        due.sentence("personOf 1: the class; NOT_FOUND for 1 without a class");
        EveningClasses x = Given.apart(1, 1);
        x.join(1, -1, -1);
        x.join(1, -1, -1);
        due.is("class 1", x.personOf(0, 1), 1);
        due.is("none", x.personOf(1, 1), Given.MISSING);
        x.leave(0);
        due.is("who left", x.personOf(0, 1), Given.MISSING);
        due.is("who came", x.personOf(1, 1), 1);
        x.join(0, -1, -1);
        due.is("class 0", x.personOf(2, 1), 0);
        x.close();
        due.is("cancelled", x.personOf(1, 1), Given.MISSING);
    }

    private void whatIsPaid() {
        due.sentence("personOf 3: what is paid for it");
        EveningClasses x = new EveningClasses();
        x.course(Given.kind(0, 0, 0), 2, 9, 30);
        x.course(Given.kind(0, 1, 0), 1, 9, 20);
        x.course(Given.kind(1, 0, 0), 2, 9, 99);
        x.room(9);
        x.join(0, -1, -1);
        x.join(1, -1, -1);
        x.join(2, -1, -1);
        due.is("30", x.personOf(0, 3), 30);
        due.is("99", x.personOf(2, 3), 99);
        x.close();
        due.is("merged: not more than the fee", x.personOf(0, 3), 20);
        due.is("as it was", x.personOf(1, 3), 20);
        due.is("cancelled: nothing", x.personOf(2, 3), 0);
    }

    private void howOftenThePersonCame() {
        due.sentence("personOf 4: how often the person came into a class so far, by settling and by a merging");
        EveningClasses x = new EveningClasses();
        x.course(Given.kind(0, 0, 0), 2, 9, 30);
        x.course(Given.kind(0, 1, 0), 1, 1, 20);
        x.course(Given.kind(0, 1, 0), 1, 9, 20);
        x.room(9);
        x.room(9);
        x.join(1, -1, -1);
        x.join(1, -1, -1);
        due.is("never", x.personOf(1, 4), 0);
        x.wish(1, 1, 0, -1);
        due.is("once", x.personOf(1, 4), 1);
        x.leave(0);
        due.is("twice", x.personOf(1, 4), 2);
        due.is("who left: once, still", x.personOf(0, 4), 1);
        x.wish(1, 0, -1, -1);
        due.is("three times", x.personOf(1, 4), 3);
        x.join(2, -1, -1);
        x.close();
        due.is("and by a merging", x.personOf(1, 4), 4);
        x.term();
        x.join(1, -1, -1);
        due.is("another person in the next term", x.personOf(0, 4), 1);
    }

    private void wishesByRank() {
        due.sentence("personOf 5 to 7: the wishes by rank; NOT_FOUND for 6 and 7 without such a wish.");
        EveningClasses x = Given.apart(1, 1, 1);
        x.join(2, 1, 0);
        int[] three = {2, 1, 0};
        int[] two = {1, 0, Given.MISSING};
        int[] one = {0, Given.MISSING, Given.MISSING};
        int[][] wanted = {three, two, one};
        for (int[] want : wanted) {
            for (int rank = 0; rank < 3; rank++) {
                due.is("wish " + rank, x.personOf(0, 5 + rank), want[rank]);
            }
            int[] next = want == three ? two : one;
            x.wish(0, next[0], next[1] < 0 ? -1 : next[1], -1);
        }
        x.leave(0);
        due.is("who left", x.personOf(0, 5), 0);
        due.is("no second wish", x.personOf(0, 6), Given.MISSING);
    }

    private void personOfRefused() {
        due.sentence("personOf: INVALID_ARGUMENT if an argument is out of range");
        EveningClasses x = Given.apart(1);
        due.is("there are no people", x.personOf(0, 0), Given.INVALID);
        Given.come(x, 0, 2);
        for (int far : FAR) {
            due.is("person " + far, x.personOf(far, 0), Given.INVALID);
            due.is("what " + far, x.personOf(0, far), Given.INVALID);
        }
        due.is("person 2 of 2", x.personOf(2, 0), Given.INVALID);
        due.is("nobody, and what could be missing", x.personOf(2, 7), Given.INVALID);
        due.is("what 8", x.personOf(0, 8), Given.INVALID);
        due.is("what 7", x.personOf(0, 7), Given.MISSING);
        x.close();
        x.term();
        due.is("people of the term before", x.personOf(0, 0), Given.INVALID);
    }
}
