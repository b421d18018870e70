import java.util.ArrayList;
import java.util.Comparator;
import java.util.HashMap;
import java.util.List;
import java.util.Map;
import java.util.Optional;
import java.util.TreeSet;
import java.util.regex.Matcher;
import java.util.regex.Pattern;
import java.util.stream.Collectors;
import java.util.stream.IntStream;

/**
 * The document once more, written another way, to be compared with the class: fresh copies of whole states, streams
 * and regular expressions, and the accounts as lists of payments instead of sums.
 */
final class Model {
    static final int INVALID = -1000001;
    static final int IMPOSSIBLE = -1000002;
    static final int LIMIT = -1000003;
    static final int MISSING = -1000004;

    private static final Pattern ORDER = Pattern.compile(
            "(?:join \\d{1,2}(?:,\\d{1,2}){0,2}|wish \\d{1,2}(?:,\\d{1,2}){1,3}|leave \\d{1,2}|close|term);");
    private static final List<String> WORDS = List.of("join", "wish", "leave", "close", "term");

    static final class Kurs {
        int kind;
        int least;
        int most;
        int fee;
        int state;
        int why;
        Integer into;
        Integer room;
        List<Integer> people = new ArrayList<>();

        Kurs copy() {
            Kurs c = new Kurs();
            c.kind = kind;
            c.least = least;
            c.most = most;
            c.fee = fee;
            c.state = state;
            c.why = why;
            c.into = into;
            c.room = room;
            c.people = new ArrayList<>(people);
            return c;
        }

        int subject() {
            return kind % 4;
        }

        int level() {
            return kind / 4 % 4;
        }

        int evening() {
            return kind / 16;
        }
    }

    static final class Guest {
        boolean left;
        int came;
        int paid;
        List<Integer> wishes = List.of();

        Guest copy() {
            Guest g = new Guest();
            g.left = left;
            g.came = came;
            g.paid = paid;
            g.wishes = wishes;
            return g;
        }
    }

    static final class State {
        List<Kurs> courses = new ArrayList<>();
        List<Integer> rooms = new ArrayList<>();
        List<Guest> guests = new ArrayList<>();
        List<Integer> payments = new ArrayList<>();
        List<Integer> backs = new ArrayList<>();
        int term;
        boolean closed;
        int stayed;
        int settled;
        int merged;
        int cancelled;

        State copy() {
            State s = new State();
            courses.forEach(c -> s.courses.add(c.copy()));
            guests.forEach(g -> s.guests.add(g.copy()));
            s.rooms.addAll(rooms);
            s.payments.addAll(payments);
            s.backs.addAll(backs);
            s.term = term;
            s.closed = closed;
            s.stayed = stayed;
            s.settled = settled;
            s.merged = merged;
            s.cancelled = cancelled;
            return s;
        }

        Integer courseOf(int person) {
            for (int c = 0; c < courses.size(); c++) {
                if (courses.get(c).people.contains(person)) {
                    return c;
                }
            }
            return null;
        }

        int rank(int person) {
            Integer has = courseOf(person);
            if (has == null) {
                return 4;
            }
            int rank = guests.get(person).wishes.indexOf(has);
            return rank < 0 ? 3 : rank;
        }

        boolean free(int course) {
            Kurs c = courses.get(course);
            return c.state == 0 && c.people.size() < c.most;
        }

        void out(int person) {
            Integer has = courseOf(person);
            if (has != null) {
                courses.get(has).people.remove(Integer.valueOf(person));
                Guest g = guests.get(person);
                backs.add(g.paid);
                g.paid = 0;
            }
        }

        boolean settleOne() {
            for (int p = 0; p < guests.size(); p++) {
                Guest g = guests.get(p);
                for (int r = 0; r < g.wishes.size() && !g.left; r++) {
                    if (r < rank(p) && free(g.wishes.get(r))) {
                        out(p);
                        Kurs c = courses.get(g.wishes.get(r));
                        c.people.add(p);
                        g.paid = c.fee;
                        g.came++;
                        payments.add(c.fee);
                        settled++;
                        return true;
                    }
                }
            }
            return false;
        }

        void settle() {
            while (settleOne()) {
                continue;
            }
        }

        Optional<Integer> beside(int course) {
            Kurs small = courses.get(course);
            return IntStream.range(0, courses.size()).boxed()
                    .filter(c -> c != course && !small.people.isEmpty() && courses.get(c).state == 0)
                    .filter(c -> courses.get(c).subject() == small.subject())
                    .filter(c -> away(c, small) <= 1)
                    .filter(c -> courses.get(c).people.size() + small.people.size() <= courses.get(c).most)
                    .min(Comparator.<Integer>comparingInt(c -> away(c, small))
                            .thenComparingInt(c -> -courses.get(c).people.size())
                            .thenComparingInt(c -> c));
        }

        private int away(int course, Kurs small) {
            return Math.abs(courses.get(course).level() - small.level());
        }

        void cancel(int course, int why) {
            Kurs c = courses.get(course);
            new ArrayList<>(c.people).forEach(this::out);
            c.state = 2;
            c.why = why;
            cancelled++;
        }

        int close() {
            if (closed) {
                return IMPOSSIBLE;
            }
            while (true) {
                Optional<Integer> taken = IntStream.range(0, courses.size()).boxed()
                        .filter(c -> courses.get(c).state == 0)
                        .filter(c -> courses.get(c).people.size() < courses.get(c).least)
                        .min(Comparator.comparingInt(c -> courses.get(c).people.size()));
                if (taken.isEmpty()) {
                    break;
                }
                Optional<Integer> into = beside(taken.get());
                if (into.isEmpty()) {
                    cancel(taken.get(), 2);
                } else {
                    merge(taken.get(), into.get());
                }
                settle();
            }
            IntStream.range(0, courses.size()).boxed().filter(c -> courses.get(c).state == 0)
                    .sorted(Comparator.comparingInt(c -> -courses.get(c).people.size()))
                    .collect(Collectors.toList()).forEach(this::house);
            closed = true;
            return (int) courses.stream().filter(c -> c.state == 1).count();
        }

        private void merge(int taken, int into) {
            Kurs small = courses.get(taken);
            Kurs near = courses.get(into);
            for (int p : small.people) {
                Guest g = guests.get(p);
                g.came++;
                if (g.paid > near.fee) {
                    backs.add(g.paid - near.fee);
                    g.paid = near.fee;
                }
            }
            near.people.addAll(small.people);
            small.people.clear();
            small.state = 3;
            small.why = 1;
            small.into = into;
            merged++;
        }

        private void house(int course) {
            Kurs c = courses.get(course);
            Optional<Integer> room = IntStream.range(0, rooms.size()).boxed()
                    .filter(r -> rooms.get(r) >= c.people.size())
                    .filter(r -> courses.stream().noneMatch(
                            o -> r.equals(o.room) && o.evening() == c.evening()))
                    .min(Comparator.comparingInt(rooms::get));
            if (room.isEmpty()) {
                cancel(course, 3);
            } else {
                c.room = room.get();
                c.state = 1;
            }
        }

        boolean badWishes(int a, int b, int c) {
            List<Integer> wanted = wishes(a, b, c);
            boolean gap = b == -1 && c != -1;
            boolean unknown = a == -1 || wanted.stream().anyMatch(w -> w < 0 || w >= courses.size());
            return gap || unknown || new TreeSet<>(wanted).size() < wanted.size();
        }

        private static List<Integer> wishes(int... all) {
            return IntStream.of(all).filter(w -> w != -1).boxed().collect(Collectors.toList());
        }

        boolean noPerson(int person) {
            return person < 0 || person >= guests.size();
        }

        int join(int a, int b, int c) {
            if (badWishes(a, b, c)) {
                return INVALID;
            }
            if (closed) {
                return IMPOSSIBLE;
            }
            if (guests.size() == 30) {
                return LIMIT;
            }
            Guest g = new Guest();
            g.wishes = wishes(a, b, c);
            guests.add(g);
            settle();
            return guests.size() - 1;
        }

        int wish(int person, int a, int b, int c) {
            if (noPerson(person) || badWishes(a, b, c)) {
                return INVALID;
            }
            if (closed || guests.get(person).left) {
                return IMPOSSIBLE;
            }
            guests.get(person).wishes = wishes(a, b, c);
            settle();
            return rank(person);
        }

        int leave(int person) {
            if (noPerson(person)) {
                return INVALID;
            }
            if (closed || guests.get(person).left) {
                return IMPOSSIBLE;
            }
            int back = guests.get(person).paid;
            out(person);
            guests.get(person).left = true;
            settle();
            return back;
        }

        int nextTerm() {
            if (!closed) {
                return IMPOSSIBLE;
            }
            stayed = sum(payments) - sum(backs);
            guests.clear();
            for (Kurs c : courses) {
                c.people.clear();
                c.state = 0;
                c.why = 0;
                c.into = null;
                c.room = null;
            }
            closed = false;
            return ++term;
        }
    }

    static int sum(List<Integer> coins) {
        return coins.stream().mapToInt(Integer::intValue).sum();
    }

    private State now = new State();
    private final List<State> history = new ArrayList<>();
    private String text = "";

    private int change(State before, int answer) {
        if (answer >= 0) {
            history.add(before);
            if (history.size() > 4) {
                history.remove(0);
            }
        }
        return answer;
    }

    int course(int kind, int least, int most, int fee) {
        if (kind < 0 || kind > 79 || least < 1 || least > 20 || most < least || most > 20 || fee < 0 || fee > 99) {
            return INVALID;
        }
        if (now.closed) {
            return IMPOSSIBLE;
        }
        if (now.courses.size() == 8) {
            return LIMIT;
        }
        State before = now.copy();
        Kurs c = new Kurs();
        c.kind = kind;
        c.least = least;
        c.most = most;
        c.fee = fee;
        now.courses.add(c);
        return change(before, now.courses.size() - 1);
    }

    int room(int chairs) {
        if (chairs < 1 || chairs > 30) {
            return INVALID;
        }
        if (now.closed) {
            return IMPOSSIBLE;
        }
        if (now.rooms.size() == 5) {
            return LIMIT;
        }
        State before = now.copy();
        now.rooms.add(chairs);
        return change(before, now.rooms.size() - 1);
    }

    int join(int a, int b, int c) {
        return change(now.copy(), now.join(a, b, c));
    }

    int wish(int person, int a, int b, int c) {
        return change(now.copy(), now.wish(person, a, b, c));
    }

    int leave(int person) {
        return change(now.copy(), now.leave(person));
    }

    int close() {
        return change(now.copy(), now.close());
    }

    int term() {
        return change(now.copy(), now.nextTerm());
    }

    private boolean noCourse(int course) {
        return course < 0 || course >= now.courses.size();
    }

    private static int orMissing(Integer value) {
        return value == null ? MISSING : value;
    }

    private List<Integer> waiting(int course) {
        return IntStream.range(0, now.guests.size()).boxed()
                .filter(p -> !now.guests.get(p).left)
                .filter(p -> now.guests.get(p).wishes.contains(course))
                .filter(p -> now.guests.get(p).wishes.indexOf(course) < now.rank(p))
                .collect(Collectors.toList());
    }

    int courseOf(int course, int what) {
        if (noCourse(course) || what < 0 || what > 12) {
            return INVALID;
        }
        Kurs c = now.courses.get(course);
        Integer[] all = {c.subject(), c.level(), c.evening(), c.least, c.most, c.fee, c.state, c.people.size(),
            waiting(course).size(), orMissing(c.room), orMissing(c.into), Math.max(c.least - c.people.size(), 0), c.why};
        return all[what];
    }

    int member(int course, int rank) {
        return noCourse(course) ? INVALID : at(now.courses.get(course).people, rank);
    }

    int waits(int course, int rank) {
        return noCourse(course) ? INVALID : at(waiting(course), rank);
    }

    private static int at(List<Integer> list, int rank) {
        return rank < 0 ? INVALID : rank < list.size() ? list.get(rank) : MISSING;
    }

    int personOf(int person, int what) {
        if (now.noPerson(person) || what < 0 || what > 7) {
            return INVALID;
        }
        Guest g = now.guests.get(person);
        switch (what) {
            case 0: return g.left ? 0 : 1;
            case 1: return orMissing(now.courseOf(person));
            case 2: return now.rank(person);
            case 3: return g.paid;
            case 4: return g.came;
            default: return at(g.wishes, what - 5);
        }
    }

    int roomOf(int room, int what) {
        if (room < 0 || room >= now.rooms.size() || what < 0 || what > 2) {
            return INVALID;
        }
        List<Kurs> inside = now.courses.stream().filter(c -> c.room != null && c.room == room)
                .collect(Collectors.toList());
        switch (what) {
            case 0: return now.rooms.get(room);
            case 1: return inside.stream().mapToInt(c -> 1 << now.courses.indexOf(c)).sum();
            default: return inside.stream().mapToInt(c -> now.rooms.get(room) - c.people.size()).min().orElse(MISSING);
        }
    }

    private static int inState(State s, int state) {
        return IntStream.range(0, s.courses.size()).filter(c -> s.courses.get(c).state == state).map(c -> 1 << c).sum();
    }

    private static int inClasses(State s) {
        return s.courses.stream().mapToInt(c -> c.people.size()).sum();
    }

    int ifClose(int what) {
        if (what < 0 || what > 5) {
            return INVALID;
        }
        if (now.closed) {
            return IMPOSSIBLE;
        }
        State then = now.copy();
        then.close();
        int[] all = {inState(then, 1), inState(then, 2), inState(then, 3), inClasses(then),
            sum(then.backs) - sum(now.backs), sum(then.payments) - sum(now.payments)};
        return all[what];
    }

    int beside(int course) {
        if (noCourse(course)) {
            return INVALID;
        }
        return now.courses.get(course).state != 0 ? IMPOSSIBLE : now.beside(course).orElse(MISSING);
    }

    int ifJoin(int course) {
        State then = now.copy();
        int person = then.join(course, -1, -1);
        return person < 0 ? person : then.rank(person);
    }

    int mean() {
        int ranks = 0;
        int people = 0;
        for (int p = 0; p < now.guests.size(); p++) {
            if (!now.guests.get(p).left) {
                people++;
                ranks += now.rank(p);
            }
        }
        return people == 0 ? MISSING : Float.floatToIntBits((float) ranks / (float) people);
    }

    int count(int what) {
        if (what < 0 || what > 17) {
            return INVALID;
        }
        int here = (int) now.guests.stream().filter(g -> !g.left).count();
        int free = IntStream.range(0, now.courses.size()).filter(now::free).map(c -> 1 << c).sum();
        int paid = sum(now.payments);
        int back = sum(now.backs);
        int[] all = {now.courses.size(), now.rooms.size(), now.guests.size(), here, inClasses(now), inState(now, 0),
            free, now.term, now.closed ? 1 : 0, paid, back, paid - back - now.stayed, now.stayed, now.settled,
            now.merged, now.cancelled, history.size(), text.length()};
        return all[what];
    }

    int undo() {
        if (history.isEmpty()) {
            return IMPOSSIBLE;
        }
        now = history.remove(history.size() - 1);
        return history.size();
    }

    int type(int character) {
        if (character < 32 || character > 126) {
            return INVALID;
        }
        if (text.length() == 60) {
            return LIMIT;
        }
        text += (char) character;
        return text.length();
    }

    int clearText() {
        int length = text.length();
        text = "";
        return length;
    }

    int fault(int what) {
        if (what < 0 || what > 2) {
            return INVALID;
        }
        Integer[] fault = run(now.copy()).fault;
        return fault == null ? MISSING : fault[what];
    }

    int play() {
        State then = now.copy();
        Run run = run(then);
        if (run.fault != null) {
            return IMPOSSIBLE;
        }
        State before = now;
        now = then;
        return change(before, run.orders);
    }

    static final class Run {
        int orders;
        Integer[] fault;
    }

    private Run run(State state) {
        Run run = new Run();
        int start = 0;
        while (start < text.length()) {
            String rest = text.substring(start);
            Matcher matcher = ORDER.matcher(rest);
            if (!matcher.lookingAt()) {
                run.fault = new Integer[] {start, 1, cause(rest)};
                return run;
            }
            int answer = obey(matcher.group(), state);
            if (answer < 0) {
                run.fault = new Integer[] {start, 2, answer};
                return run;
            }
            run.orders++;
            start += matcher.end();
        }
        return run;
    }

    private static int cause(String rest) {
        String word = rest.replaceFirst("(?s)[^a-z].*", "");
        if (word.length() == rest.length()) {
            return rest.length();
        }
        if (!WORDS.contains(word)) {
            return 0;
        }
        for (int end = 1; end <= rest.length(); end++) {
            Matcher part = ORDER.matcher(rest.substring(0, end));
            if (!part.matches() && !part.hitEnd()) {
                return end - 1;
            }
        }
        return rest.length();
    }

    private static int obey(String order, State state) {
        Map<Integer, Integer> numbers = new HashMap<>();
        Matcher digits = Pattern.compile("\\d+").matcher(order);
        while (digits.find()) {
            numbers.put(numbers.size(), Integer.parseInt(digits.group()));
        }
        int a = numbers.getOrDefault(0, -1);
        int b = numbers.getOrDefault(1, -1);
        int c = numbers.getOrDefault(2, -1);
        int d = numbers.getOrDefault(3, -1);
        switch (order.charAt(0)) {
            case 'j': return state.join(a, b, c);
            case 'w': return state.wish(a, b, c, d);
            case 'l': return state.leave(a);
            case 'c': return state.close();
            default: return state.nextTerm();
        }
    }
}
