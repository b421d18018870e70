/** What several tests begin with, and all that an object can be asked. */
final class Given {
    static final int INVALID = EveningClasses.INVALID_ARGUMENT;
    static final int IMPOSSIBLE = EveningClasses.NOT_POSSIBLE;
    static final int LIMIT = EveningClasses.LIMIT_REACHED;
    static final int MISSING = EveningClasses.NOT_FOUND;
    static final int LOWEST = Integer.MIN_VALUE;
    static final int HIGHEST = Integer.MAX_VALUE;

    static final int OPEN = 0;
    static final int RUNS = 1;
    static final int CANCELLED = 2;
    static final int MERGED = 3;

    private Given() {
    }

    static int kind(int subject, int level, int evening) {
        return subject + 4 * level + 16 * evening;
    }

    /** One class for each most size, with the least size 1 and the fees 10, 20, ..; none can be merged into another. */
    static EveningClasses apart(int... mostSizes) {
        EveningClasses x = new EveningClasses();
        for (int course = 0; course < mostSizes.length; course++) {
            x.course(kind(course % 4, course / 4 * 2, 0), 1, mostSizes[course], 10 * course + 10);
        }
        return x;
    }

    /** People who have one wish alone. */
    static void come(EveningClasses x, int course, int people) {
        for (int person = 0; person < people; person++) {
            x.join(course, -1, -1);
        }
    }

    static void rooms(EveningClasses x, int... chairs) {
        for (int of : chairs) {
            x.room(of);
        }
    }

    static void put(EveningClasses x, String text) {
        for (int place = 0; place < text.length(); place++) {
            x.type(text.charAt(place));
        }
    }

    /** The answers of all calls that only ask; some 200 calls for an object with a few classes and people. */
    static String answers(EveningClasses x) {
        StringBuilder all = new StringBuilder();
        for (int what = 0; what <= 17; what++) {
            all.append(x.count(what)).append(' ');
        }
        for (int course = 0; course < x.count(0); course++) {
            for (int what = 0; what <= 12; what++) {
                all.append(x.courseOf(course, what)).append(' ');
            }
            for (int rank = 0; rank <= x.courseOf(course, 7); rank++) {
                all.append(x.member(course, rank)).append(' ');
            }
            for (int rank = 0; rank <= x.courseOf(course, 8); rank++) {
                all.append(x.waits(course, rank)).append(' ');
            }
            all.append(x.beside(course)).append(' ').append(x.ifJoin(course)).append(' ');
        }
        for (int person = 0; person < x.count(2); person++) {
            for (int what = 0; what <= 7; what++) {
                all.append(x.personOf(person, what)).append(' ');
            }
        }
        for (int what = 0; what <= 5; what++) {
            all.append(x.ifClose(what)).append(' ');
        }
        for (int what = 0; what <= 2; what++) {
            for (int room = 0; room < x.count(1); room++) {
                all.append(x.roomOf(room, what)).append(' ');
            }
            all.append(x.fault(what)).append(' ');
        }
        return all.append(x.mean()).toString();
    }
}
