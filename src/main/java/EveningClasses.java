/** Evening classes with least sizes, as ../shared/DOC.md promises them. */
public final class EveningClasses {
    public static final int INVALID_ARGUMENT = -1000001;
    public static final int NOT_POSSIBLE = -1000002;
    public static final int LIMIT_REACHED = -1000003;
    public static final int NOT_FOUND = -1000004;

    private static final int NONE = -1;

    private static final int MOST_COURSES = 8;
    private static final int MOST_ROOMS = 5;
    private static final int MOST_PEOPLE = 30;
    private static final int MOST_SIZE = 20;
    private static final int MOST_KIND = 79;
    private static final int MOST_FEE = 99;
    private static final int MOST_CHAIRS = 30;
    private static final int MOST_STATES = 4;
    private static final int MOST_CHARACTERS = 60;
    private static final int MOST_NUMBERS = 4;

    /** Each move of a settling lessens a rank, so 30 people make fewer than 120; this only bounds the loop. */
    private static final int MOST_MOVES = 1000;

    private static final int OPEN = 0;
    private static final int RUNS = 1;
    private static final int CANCELLED = 2;
    private static final int MERGED = 3;
    /** The state of a place in the row of classes into which no class came yet. */
    private static final int ABSENT = -1;

    private static final int WAS_MERGED = 1;
    private static final int TOO_SMALL = 2;
    private static final int WITHOUT_ROOM = 3;

    private static final int NOT_A_WISH = 3;
    private static final int NO_CLASS = 4;

    private static final int BAD_FORM = 1;
    private static final int BAD_CALL = 2;
    /** No typed character is 0, so that behind the text nothing fits. */
    private static final char END = 0;

    private static final Word[] WORDS = Word.values();

    private final Season now = new Season();
    private final Season trial = new Season();
    private final History past = new History();
    private final Text text = new Text();

    public EveningClasses() {
    }

    // ---- classes, rooms

    public int course(int kind, int least, int most, int fee) {
        past.note(now);
        return past.keep(now.addCourse(kind, least, most, fee));
    }

    public int room(int chairs) {
        past.note(now);
        return past.keep(now.addRoom(chairs));
    }

    // ---- people

    public int join(int first, int second, int third) {
        past.note(now);
        return past.keep(now.addPerson(first, second, third));
    }

    public int wish(int person, int first, int second, int third) {
        past.note(now);
        return past.keep(now.changeWishes(person, first, second, third));
    }

    public int leave(int person) {
        past.note(now);
        return past.keep(now.sendAway(person));
    }

    // ---- terms

    public int close() {
        past.note(now);
        return past.keep(now.closeTerm());
    }

    public int term() {
        past.note(now);
        return past.keep(now.beginNextTerm());
    }

    // ---- what there is

    public int courseOf(int course, int what) {
        Course asked = now.courseAt(course);
        if (asked == null) {
            return INVALID_ARGUMENT;
        }
        switch (what) {
            case 0: return asked.subject;
            case 1: return asked.level;
            case 2: return asked.evening;
            case 3: return asked.least;
            case 4: return asked.most;
            case 5: return asked.fee;
            case 6: return asked.state;
            case 7: return asked.size;
            case 8: return now.howManyWait(course);
            case 9: return foundOrNot(asked.room);
            case 10: return foundOrNot(asked.into);
            case 11: return Math.max(0, asked.least - asked.size);
            case 12: return asked.why;
            default: return INVALID_ARGUMENT;
        }
    }

    public int member(int course, int rank) {
        Course asked = now.courseAt(course);
        if (asked == null || rank < 0) {
            return INVALID_ARGUMENT;
        }
        return foundOrNot(asked.memberAt(rank));
    }

    public int waits(int course, int rank) {
        if (now.courseAt(course) == null || rank < 0) {
            return INVALID_ARGUMENT;
        }
        return foundOrNot(now.waiterAt(course, rank));
    }

    public int personOf(int person, int what) {
        Person asked = now.personAt(person);
        if (asked == null) {
            return INVALID_ARGUMENT;
        }
        switch (what) {
            case 0: return asked.here ? 1 : 0;
            case 1: return foundOrNot(asked.course);
            case 2: return asked.rankHeld();
            case 3: return asked.paid;
            case 4: return asked.comings;
            case 5: return foundOrNot(asked.first);
            case 6: return foundOrNot(asked.second);
            case 7: return foundOrNot(asked.third);
            default: return INVALID_ARGUMENT;
        }
    }

    public int roomOf(int room, int what) {
        if (!now.isRoom(room)) {
            return INVALID_ARGUMENT;
        }
        switch (what) {
            case 0: return now.chairsOf(room);
            case 1: return now.coursesIn(room);
            case 2: return foundOrNot(now.chairsLeft(room));
            default: return INVALID_ARGUMENT;
        }
    }

    // ---- what would be

    public int ifClose(int what) {
        if (isOutside(what, 0, 5)) {
            return INVALID_ARGUMENT;
        }
        if (now.closed) {
            return NOT_POSSIBLE;
        }
        trial.copyFrom(now);
        trial.closeTerm();
        switch (what) {
            case 0: return trial.coursesThatAre(RUNS);
            case 1: return trial.coursesThatAre(CANCELLED);
            case 2: return trial.coursesThatAre(MERGED);
            case 3: return trial.peopleInClasses();
            case 4: return trial.paidBack - now.paidBack;
            default: return trial.paid - now.paid;
        }
    }

    public int beside(int course) {
        Course asked = now.courseAt(course);
        if (asked == null) {
            return INVALID_ARGUMENT;
        }
        if (asked.state != OPEN) {
            return NOT_POSSIBLE;
        }
        Course near = now.mergingOf(asked);
        return near == null ? NOT_FOUND : near.number;
    }

    public int ifJoin(int course) {
        Course asked = now.courseAt(course);
        if (asked == null) {
            return INVALID_ARGUMENT;
        }
        if (now.closed) {
            return NOT_POSSIBLE;
        }
        if (now.peopleCount >= MOST_PEOPLE) {
            return LIMIT_REACHED;
        }
        // All is settled ahead of the call, so nobody else would take the place.
        return asked.hasFreePlace() ? 0 : NO_CLASS;
    }

    public int mean() {
        int people = now.peopleHere();
        if (people <= 0) {
            return NOT_FOUND;
        }
        return bitsOf((float) now.ranksTogether() / (float) people);
    }

    public int count(int what) {
        switch (what) {
            case 0: return now.courseCount;
            case 1: return now.roomCount;
            case 2: return now.peopleCount;
            case 3: return now.peopleHere();
            case 4: return now.peopleInClasses();
            case 5: return now.coursesThatAre(OPEN);
            case 6: return now.coursesWithPlace();
            case 7: return now.number;
            case 8: return now.closed ? 1 : 0;
            case 9: return now.paid;
            case 10: return now.paidBack;
            case 11: return now.paidForClasses();
            case 12: return now.paidInOldTerms;
            case 13: return now.settlings;
            case 14: return now.mergings;
            case 15: return now.cancellings;
            case 16: return past.size;
            case 17: return text.length;
            default: return INVALID_ARGUMENT;
        }
    }

    public int undo() {
        return past.restoreInto(now);
    }

    // ---- texts

    public int type(int character) {
        if (isOutside(character, 32, 126)) {
            return INVALID_ARGUMENT;
        }
        return text.append((char) character);
    }

    public int clearText() {
        int length = text.length;
        text.length = 0;
        return length;
    }

    public int fault(int what) {
        if (isOutside(what, 0, 2)) {
            return INVALID_ARGUMENT;
        }
        trial.copyFrom(now);
        text.playOn(trial);
        if (text.faultReason == 0) {
            return NOT_FOUND;
        }
        switch (what) {
            case 0: return text.faultPosition;
            case 1: return text.faultReason;
            default: return text.faultCause;
        }
    }

    public int play() {
        trial.copyFrom(now);
        text.playOn(trial);
        if (text.faultReason != 0) {
            return NOT_POSSIBLE;
        }
        past.note(now);
        now.copyFrom(trial);
        return past.keep(text.orders);
    }

    private static boolean isOutside(int value, int least, int most) {
        return value < least || value > most;
    }

    private static int foundOrNot(int value) {
        return value == NONE ? NOT_FOUND : value;
    }

    /** The bits of a float from 0 up; the language leaves no library for it, and each step here is exact. */
    private static int bitsOf(float value) {
        if (value <= 0f) {
            return 0;
        }
        float rest = value;
        int exponent = 127;
        for (int step = 0; step < 127 && rest >= 2f; step++) {
            rest = rest / 2f;
            exponent++;
        }
        for (int step = 0; step < 126 && rest < 1f; step++) {
            rest = rest * 2f;
            exponent--;
        }
        return (exponent << 23) | (int) ((rest - 1f) * 8388608f);
    }

    /** A class; its place in the row is made once and filled when the class comes. */
    private static final class Course {
        final int number;
        final int[] members = new int[MOST_SIZE];
        int subject;
        int level;
        int evening;
        int least;
        int most;
        int fee;
        int state = ABSENT;
        int why;
        int into = NONE;
        int room = NONE;
        int size;

        Course(int number) {
            this.number = number;
        }

        void copyFrom(Course other) {
            subject = other.subject;
            level = other.level;
            evening = other.evening;
            least = other.least;
            most = other.most;
            fee = other.fee;
            state = other.state;
            why = other.why;
            into = other.into;
            room = other.room;
            size = other.size;
            System.arraycopy(other.members, 0, members, 0, Math.min(other.members.length, members.length));
        }

        void begin(int kind, int leastSize, int mostSize, int price) {
            subject = kind & 3;
            level = (kind >> 2) & 3;
            evening = kind >> 4;
            least = leastSize;
            most = mostSize;
            fee = price;
            reopen();
        }

        void reopen() {
            state = OPEN;
            why = 0;
            into = NONE;
            room = NONE;
            size = 0;
        }

        boolean hasFreePlace() {
            return state == OPEN && size < most;
        }

        boolean isTooSmall() {
            return state == OPEN && size < least;
        }

        boolean canTake(Course other) {
            return state == OPEN && number != other.number && subject == other.subject
                    && levelsFrom(other) <= 1 && size + other.size <= most;
        }

        int levelsFrom(Course other) {
            return level > other.level ? level - other.level : other.level - level;
        }

        int memberAt(int rank) {
            return rank >= 0 && rank < size && rank < members.length ? members[rank] : NONE;
        }

        void add(int person) {
            if (size >= 0 && size < members.length) {
                members[size] = person;
                size++;
            }
        }

        void remove(int person) {
            int left = 0;
            for (int rank = 0; rank < size && rank < members.length; rank++) {
                if (members[rank] != person && left < members.length) {
                    members[left] = members[rank];
                    left++;
                }
            }
            size = left;
        }
    }

    /** A person; the place in the row is made once and filled when the person comes. */
    private static final class Person {
        final int number;
        boolean here;
        int course = NONE;
        int paid;
        int comings;
        int first = NONE;
        int second = NONE;
        int third = NONE;

        Person(int number) {
            this.number = number;
        }

        void copyFrom(Person other) {
            here = other.here;
            course = other.course;
            paid = other.paid;
            comings = other.comings;
            first = other.first;
            second = other.second;
            third = other.third;
        }

        void forget() {
            here = false;
            course = NONE;
            paid = 0;
            comings = 0;
            setWishes(NONE, NONE, NONE);
        }

        void setWishes(int wish0, int wish1, int wish2) {
            first = wish0;
            second = wish1;
            third = wish2;
        }

        int wishAt(int rank) {
            switch (rank) {
                case 0: return first;
                case 1: return second;
                case 2: return third;
                default: return NONE;
            }
        }

        int rankOf(int wanted) {
            if (wanted == first) {
                return 0;
            }
            if (wanted == second) {
                return 1;
            }
            return wanted == third ? 2 : NOT_A_WISH;
        }

        int rankHeld() {
            return course == NONE ? NO_CLASS : rankOf(course);
        }

        boolean waitsFor(int wanted) {
            int rank = rankOf(wanted);
            return here && rank < NOT_A_WISH && rank < rankHeld();
        }
    }

    /** All that a change can alter: each call of it that answers an error has altered nothing. */
    private static final class Season {
        final Course[] courses = new Course[MOST_COURSES];
        final Person[] people = new Person[MOST_PEOPLE];
        final int[] chairs = new int[MOST_ROOMS];
        int courseCount;
        int peopleCount;
        int roomCount;
        int number;
        boolean closed;
        int paid;
        int paidBack;
        int paidInOldTerms;
        int settlings;
        int mergings;
        int cancellings;

        Season() {
            for (int place = 0; place < courses.length; place++) {
                courses[place] = new Course(place);
            }
            for (int place = 0; place < people.length; place++) {
                people[place] = new Person(place);
            }
        }

        void copyFrom(Season other) {
            for (int place = 0; place < courses.length && place < other.courses.length; place++) {
                if (courses[place] != null && other.courses[place] != null) {
                    courses[place].copyFrom(other.courses[place]);
                }
            }
            for (int place = 0; place < people.length && place < other.people.length; place++) {
                if (people[place] != null && other.people[place] != null) {
                    people[place].copyFrom(other.people[place]);
                }
            }
            System.arraycopy(other.chairs, 0, chairs, 0, Math.min(other.chairs.length, chairs.length));
            courseCount = other.courseCount;
            peopleCount = other.peopleCount;
            roomCount = other.roomCount;
            number = other.number;
            closed = other.closed;
            paid = other.paid;
            paidBack = other.paidBack;
            paidInOldTerms = other.paidInOldTerms;
            settlings = other.settlings;
            mergings = other.mergings;
            cancellings = other.cancellings;
        }

        Course courseAt(int course) {
            return course >= 0 && course < courseCount && course < courses.length ? courses[course] : null;
        }

        Person personAt(int person) {
            return person >= 0 && person < peopleCount && person < people.length ? people[person] : null;
        }

        boolean isRoom(int room) {
            return room >= 0 && room < roomCount;
        }

        int chairsOf(int room) {
            return room >= 0 && room < chairs.length ? chairs[room] : 0;
        }

        int addCourse(int kind, int least, int most, int fee) {
            if (isOutside(kind, 0, MOST_KIND) || isOutside(least, 1, MOST_SIZE)
                    || isOutside(most, least, MOST_SIZE) || isOutside(fee, 0, MOST_FEE)) {
                return INVALID_ARGUMENT;
            }
            if (closed) {
                return NOT_POSSIBLE;
            }
            Course added = isOutside(courseCount, 0, courses.length - 1) ? null : courses[courseCount];
            if (added == null) {
                return LIMIT_REACHED;
            }
            added.begin(kind, least, most, fee);
            courseCount++;
            return added.number;
        }

        int addRoom(int chairsOfIt) {
            if (isOutside(chairsOfIt, 1, MOST_CHAIRS)) {
                return INVALID_ARGUMENT;
            }
            if (closed) {
                return NOT_POSSIBLE;
            }
            if (isOutside(roomCount, 0, chairs.length - 1)) {
                return LIMIT_REACHED;
            }
            chairs[roomCount] = chairsOfIt;
            roomCount++;
            return roomCount - 1;
        }

        int addPerson(int first, int second, int third) {
            if (!areWishes(first, second, third)) {
                return INVALID_ARGUMENT;
            }
            if (closed) {
                return NOT_POSSIBLE;
            }
            Person added = isOutside(peopleCount, 0, people.length - 1) ? null : people[peopleCount];
            if (added == null) {
                return LIMIT_REACHED;
            }
            added.setWishes(first, second, third);
            added.here = true;
            peopleCount++;
            settle();
            return added.number;
        }

        int changeWishes(int person, int first, int second, int third) {
            Person changed = personAt(person);
            if (changed == null || !areWishes(first, second, third)) {
                return INVALID_ARGUMENT;
            }
            if (closed || !changed.here) {
                return NOT_POSSIBLE;
            }
            changed.setWishes(first, second, third);
            settle();
            return changed.rankHeld();
        }

        int sendAway(int person) {
            Person gone = personAt(person);
            if (gone == null) {
                return INVALID_ARGUMENT;
            }
            if (closed || !gone.here) {
                return NOT_POSSIBLE;
            }
            int back = gone.paid;
            gone.here = false;
            goOut(gone);
            settle();
            return back;
        }

        private boolean areWishes(int first, int second, int third) {
            if (courseAt(first) == null) {
                return false;
            }
            if (second == NONE) {
                return third == NONE;
            }
            if (courseAt(second) == null || second == first) {
                return false;
            }
            return third == NONE || (courseAt(third) != null && third != first && third != second);
        }

        int closeTerm() {
            if (closed) {
                return NOT_POSSIBLE;
            }
            for (int turn = 0; turn < courses.length; turn++) {
                Course small = smallestTooSmall();
                if (small == null) {
                    break;
                }
                Course near = mergingOf(small);
                if (near == null) {
                    cancel(small, TOO_SMALL);
                } else {
                    merge(small, near);
                }
                settle();
            }
            for (int turn = 0; turn < courses.length; turn++) {
                Course greatest = greatestOpen();
                if (greatest == null) {
                    break;
                }
                if (!findsRoom(greatest)) {
                    cancel(greatest, WITHOUT_ROOM);
                }
            }
            closed = true;
            return Integer.bitCount(coursesThatAre(RUNS));
        }

        int beginNextTerm() {
            if (!closed) {
                return NOT_POSSIBLE;
            }
            paidInOldTerms += paidForClasses();
            for (Course course : courses) {
                if (course != null && course.state != ABSENT) {
                    course.reopen();
                }
            }
            for (Person person : people) {
                if (person != null) {
                    person.forget();
                }
            }
            peopleCount = 0;
            closed = false;
            number++;
            return number;
        }

        private void settle() {
            for (int moves = 0; moves < MOST_MOVES; moves++) {
                Course better = null;
                Person mover = null;
                for (int person = 0; person < peopleCount && better == null; person++) {
                    mover = personAt(person);
                    better = mover == null ? null : betterFor(mover);
                }
                if (better == null || mover == null) {
                    return;
                }
                goOut(mover);
                comeInto(mover, better);
            }
        }

        private Course betterFor(Person person) {
            if (!person.here) {
                return null;
            }
            for (int rank = 0; rank < NOT_A_WISH; rank++) {
                int wished = person.wishAt(rank);
                if (wished == person.course) {
                    return null;
                }
                Course better = courseAt(wished);
                if (better != null && better.hasFreePlace()) {
                    return better;
                }
            }
            return null;
        }

        private void comeInto(Person person, Course course) {
            course.add(person.number);
            person.course = course.number;
            person.paid = course.fee;
            person.comings++;
            paid += course.fee;
            settlings++;
        }

        private void goOut(Person person) {
            Course before = courseAt(person.course);
            if (before != null) {
                before.remove(person.number);
            }
            person.course = NONE;
            paidBack += person.paid;
            person.paid = 0;
        }

        private Course smallestTooSmall() {
            Course smallest = null;
            for (Course course : courses) {
                if (course != null && course.isTooSmall() && (smallest == null || course.size < smallest.size)) {
                    smallest = course;
                }
            }
            return smallest;
        }

        /** The class into which a class would be merged, or null if it would be cancelled. */
        Course mergingOf(Course small) {
            Course best = null;
            for (Course course : courses) {
                if (course != null && small.size > 0 && course.canTake(small)
                        && (best == null || isBetterMerging(course, best, small))) {
                    best = course;
                }
            }
            return best;
        }

        private static boolean isBetterMerging(Course course, Course best, Course small) {
            int nearer = best.levelsFrom(small) - course.levelsFrom(small);
            return nearer > 0 || (nearer == 0 && course.size > best.size);
        }

        private void merge(Course small, Course near) {
            for (int rank = 0; rank < small.size; rank++) {
                Person person = personAt(small.memberAt(rank));
                if (person != null) {
                    near.add(person.number);
                    person.course = near.number;
                    person.comings++;
                    int back = Math.max(0, person.paid - near.fee);
                    person.paid -= back;
                    paidBack += back;
                }
            }
            small.size = 0;
            small.state = MERGED;
            small.why = WAS_MERGED;
            small.into = near.number;
            mergings++;
        }

        private void cancel(Course course, int why) {
            for (Person person : people) {
                if (person != null && person.course == course.number) {
                    goOut(person);
                }
            }
            course.state = CANCELLED;
            course.why = why;
            cancellings++;
        }

        private boolean findsRoom(Course course) {
            int room = roomFor(course);
            if (room == NONE) {
                return false;
            }
            course.room = room;
            course.state = RUNS;
            return true;
        }

        private Course greatestOpen() {
            Course greatest = null;
            for (Course course : courses) {
                if (course != null && course.state == OPEN && (greatest == null || course.size > greatest.size)) {
                    greatest = course;
                }
            }
            return greatest;
        }

        private int roomFor(Course course) {
            int best = NONE;
            for (int room = 0; room < roomCount; room++) {
                boolean fits = chairsOf(room) >= course.size && !isGiven(room, course.evening);
                if (fits && (best == NONE || chairsOf(room) < chairsOf(best))) {
                    best = room;
                }
            }
            return best;
        }

        private boolean isGiven(int room, int evening) {
            for (Course course : courses) {
                if (course != null && course.room == room && course.evening == evening) {
                    return true;
                }
            }
            return false;
        }

        int coursesIn(int room) {
            int set = 0;
            for (Course course : courses) {
                if (course != null && course.room == room) {
                    set |= 1 << course.number;
                }
            }
            return set;
        }

        int chairsLeft(int room) {
            int fewest = NONE;
            for (Course course : courses) {
                if (course != null && course.room == room) {
                    int left = chairsOf(room) - course.size;
                    fewest = fewest == NONE ? left : Math.min(fewest, left);
                }
            }
            return fewest;
        }

        int coursesThatAre(int state) {
            int set = 0;
            for (Course course : courses) {
                if (course != null && course.state == state) {
                    set |= 1 << course.number;
                }
            }
            return set;
        }

        int coursesWithPlace() {
            int set = 0;
            for (Course course : courses) {
                if (course != null && course.hasFreePlace()) {
                    set |= 1 << course.number;
                }
            }
            return set;
        }

        int howManyWait(int course) {
            int waiting = 0;
            for (Person person : people) {
                if (person != null && person.waitsFor(course)) {
                    waiting++;
                }
            }
            return waiting;
        }

        int waiterAt(int course, int rank) {
            int ahead = 0;
            for (Person person : people) {
                if (person != null && person.waitsFor(course)) {
                    if (ahead == rank) {
                        return person.number;
                    }
                    ahead++;
                }
            }
            return NONE;
        }

        int peopleHere() {
            int here = 0;
            for (Person person : people) {
                if (person != null && person.here) {
                    here++;
                }
            }
            return here;
        }

        int peopleInClasses() {
            int inside = 0;
            for (Person person : people) {
                if (person != null && person.course != NONE) {
                    inside++;
                }
            }
            return inside;
        }

        int ranksTogether() {
            int ranks = 0;
            for (Person person : people) {
                if (person != null && person.here) {
                    ranks += person.rankHeld();
                }
            }
            return ranks;
        }

        int paidForClasses() {
            int coins = 0;
            for (Person person : people) {
                if (person != null) {
                    coins += person.paid;
                }
            }
            return coins;
        }
    }

    /**
     * The states before the latest changes, in a ring. It has one place more than states are kept: there the state
     * before a call is noted while it is not known yet whether the call returns an error.
     */
    private static final class History {
        private final Season[] ring = new Season[MOST_STATES + 1];
        private int next;
        int size;

        History() {
            for (int place = 0; place < ring.length; place++) {
                ring[place] = new Season();
            }
        }

        void note(Season season) {
            if (next >= 0 && next < ring.length && ring[next] != null) {
                ring[next].copyFrom(season);
            }
        }

        int keep(int answer) {
            if (answer >= 0) {
                next = next + 1 < ring.length ? next + 1 : 0;
                size = Math.min(size + 1, MOST_STATES);
            }
            return answer;
        }

        int restoreInto(Season season) {
            if (size <= 0) {
                return NOT_POSSIBLE;
            }
            next = next > 0 ? next - 1 : ring.length - 1;
            size--;
            if (next >= 0 && next < ring.length && ring[next] != null) {
                season.copyFrom(ring[next]);
            }
            return size;
        }
    }

    private enum Word {
        JOIN("join", 1, 3),
        WISH("wish", 2, 4),
        LEAVE("leave", 1, 1),
        CLOSE("close", 0, 0),
        TERM("term", 0, 0);

        final String letters;
        final int leastNumbers;
        final int mostNumbers;

        Word(String letters, int leastNumbers, int mostNumbers) {
            this.letters = letters;
            this.leastNumbers = leastNumbers;
            this.mostNumbers = mostNumbers;
        }
    }

    /** The text of orders, and what the latest playing of it has found. */
    private static final class Text {
        private final char[] characters = new char[MOST_CHARACTERS];
        private final int[] numbers = new int[MOST_NUMBERS];
        int length;
        int orders;
        int faultPosition;
        int faultReason;
        int faultCause;

        int append(char character) {
            if (isOutside(length, 0, characters.length - 1)) {
                return LIMIT_REACHED;
            }
            characters[length] = character;
            length++;
            return length;
        }

        /** Does the orders up to the first fault. */
        void playOn(Season season) {
            orders = 0;
            faultReason = 0;
            int start = 0;
            for (int turn = 0; turn < MOST_CHARACTERS && start < length && faultReason == 0; turn++) {
                faultPosition = start;
                Word word = wordAt(start);
                int end = word == null ? NONE : readOrder(word, start);
                if (end == NONE) {
                    faultReason = BAD_FORM;
                } else {
                    int answer = answerTo(word, season);
                    if (answer < 0) {
                        faultReason = BAD_CALL;
                        faultCause = answer;
                    } else {
                        orders++;
                        start = end;
                    }
                }
            }
        }

        private int answerTo(Word word, Season season) {
            if (word == Word.JOIN) {
                return season.addPerson(numberAt(0), numberAt(1), numberAt(2));
            }
            if (word == Word.WISH) {
                return season.changeWishes(numberAt(0), numberAt(1), numberAt(2), numberAt(3));
            }
            if (word == Word.LEAVE) {
                return season.sendAway(numberAt(0));
            }
            return word == Word.CLOSE ? season.closeTerm() : season.beginNextTerm();
        }

        /** The word of the order, or null, with the cause kept. */
        private Word wordAt(int start) {
            int behind = start;
            while (behind < length && isLetter(behind)) {
                behind++;
            }
            faultCause = behind < length ? 0 : behind - start;
            if (behind >= length) {
                return null;
            }
            for (Word word : WORDS) {
                if (word != null && isBetween(word.letters, start, behind)) {
                    return word;
                }
            }
            return null;
        }

        private boolean isBetween(String letters, int start, int behind) {
            if (letters.length() != behind - start) {
                return false;
            }
            for (int place = 0; place < letters.length(); place++) {
                if (letters.charAt(place) != characterAt(start + place)) {
                    return false;
                }
            }
            return true;
        }

        /** The place behind the order's ";", or NONE, with the cause kept. */
        private int readOrder(Word word, int start) {
            for (int place = 0; place < numbers.length; place++) {
                numbers[place] = NONE;
            }
            int at = start + word.letters.length();
            char wanted = word.mostNumbers == 0 ? ';' : ' ';
            if (characterAt(at) != wanted) {
                return notFitting(start, at);
            }
            return word.mostNumbers == 0 ? at + 1 : readNumbers(word, start, at + 1);
        }

        private int readNumbers(Word word, int start, int first) {
            int at = first;
            for (int place = 0; place < word.mostNumbers && place < numbers.length; place++) {
                if (!isDigit(at)) {
                    return notFitting(start, at);
                }
                numbers[place] = characterAt(at) - '0';
                at++;
                if (isDigit(at)) {
                    numbers[place] = 10 * numbers[place] + characterAt(at) - '0';
                    at++;
                }
                char behind = characterAt(at);
                if (behind == ';' && place + 1 >= word.leastNumbers) {
                    return at + 1;
                }
                if (behind != ',' || place + 1 >= word.mostNumbers) {
                    return notFitting(start, at);
                }
                at++;
            }
            return notFitting(start, at);
        }

        private int notFitting(int start, int at) {
            faultCause = at - start;
            return NONE;
        }

        private char characterAt(int at) {
            return at >= 0 && at < length && at < characters.length ? characters[at] : END;
        }

        private boolean isLetter(int at) {
            return characterAt(at) >= 'a' && characterAt(at) <= 'z';
        }

        private boolean isDigit(int at) {
            return characterAt(at) >= '0' && characterAt(at) <= '9';
        }

        private int numberAt(int place) {
            return place >= 0 && place < numbers.length ? numbers[place] : NONE;
        }
    }
}
