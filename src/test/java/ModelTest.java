import java.util.Random;

/** Long runs of drawn calls, at most 512 an object, each answer compared with the Model's. */
public final class ModelTest {
    private static final int RUNS = 4000;
    private static final int CALLS = 512;
    private static final String[] PARTS = {"join ", "wish ", "leave ", "close", "term", ";", ",", "0", "1", "2", "7",
        "12", " ", "joi", "x", "A", "31"};

    private final Random draw;
    private final EveningClasses built = new EveningClasses();
    private final Model model = new Model();
    private final Due due;
    private final int run;
    private int courses;
    private String planned = "";

    private ModelTest(int run, Due due) {
        this.run = run;
        this.due = due;
        this.draw = new Random(run);
    }

    public static void main(String[] args) {
        Due due = new Due();
        for (int run = 0; run < RUNS && !due.hasWrong(); run++) {
            ModelTest test = new ModelTest(run, due);
            for (int call = 0; call < CALLS && !due.hasWrong(); call++) {
                test.makeCall();
            }
        }
        due.end();
    }

    private int from(int least, int most) {
        return least + draw.nextInt(most - least + 1);
    }

    private boolean rarely() {
        return draw.nextInt(25) == 0;
    }

    private int someCourse() {
        return rarely() ? from(-2, 8) : from(0, Math.max(0, courses - 1));
    }

    private int maybeCourse() {
        return draw.nextInt(3) == 0 ? -1 : someCourse();
    }

    private int somePerson() {
        return rarely() ? from(-1, 30) : from(0, Math.max(0, model.count(2) - 1));
    }

    private void compare(String call, int got, int want) {
        due.is("run " + run + ": " + call, got, want);
    }

    private void makeCall() {
        if (!planned.isEmpty()) {
            compare("type", built.type(planned.charAt(0)), model.type(planned.charAt(0)));
            planned = planned.substring(1);
            return;
        }
        int kind = draw.nextInt(100);
        if (kind < 45) {
            makeChange(kind);
        } else if (kind < 60) {
            makeTextCall(kind);
        } else {
            ask();
        }
    }

    private void makeChange(int kind) {
        if (kind < 4 || courses < 2) {
            addClass();
        } else if (kind < 6) {
            int chairs = rarely() ? from(0, 31) : from(1, 12);
            compare("room " + chairs, built.room(chairs), model.room(chairs));
        } else if (kind < 24) {
            int a = someCourse();
            int b = maybeCourse();
            int c = b == -1 && !rarely() ? -1 : maybeCourse();
            compare("join " + a + "," + b + "," + c, built.join(a, b, c), model.join(a, b, c));
        } else if (kind < 30) {
            int p = somePerson();
            int a = someCourse();
            int b = maybeCourse();
            int c = b == -1 && !rarely() ? -1 : maybeCourse();
            compare("wish " + p + "," + a + "," + b + "," + c, built.wish(p, a, b, c), model.wish(p, a, b, c));
        } else if (kind < 36) {
            int p = somePerson();
            compare("leave " + p, built.leave(p), model.leave(p));
        } else if (kind < 39) {
            if (draw.nextInt(1 + run % 4) == 0) {
                compare("close", built.close(), model.close());
            }
        } else if (kind < 43) {
            compare("term", built.term(), model.term());
        } else {
            compare("undo", built.undo(), model.undo());
        }
    }

    private void addClass() {
        int level = from(0, 1 + run % 3);
        int kind = rarely() ? from(-1, 80) : from(0, run % 2 == 0 ? 0 : 2) + 4 * level + 16 * from(0, run % 5);
        int least = rarely() ? from(0, 21) : from(1, 5);
        int most = rarely() ? from(0, 21) : Math.min(20, least + from(0, 5));
        int fee = rarely() ? from(-1, 100) : from(0, 99);
        compare("course " + kind + "," + least + "," + most + "," + fee,
                built.course(kind, least, most, fee), model.course(kind, least, most, fee));
        courses = model.count(0);
    }

    private void makeTextCall(int kind) {
        if (kind < 48) {
            planned = drawText();
        } else if (kind < 49) {
            int character = from(30, 128);
            compare("type " + character, built.type(character), model.type(character));
        } else if (kind < 53) {
            compare("clearText", built.clearText(), model.clearText());
        } else if (kind < 56) {
            compare("play", built.play(), model.play());
        } else {
            int what = rarely() ? from(-1, 3) : from(0, 2);
            compare("fault " + what, built.fault(what), model.fault(what));
        }
    }

    private String drawText() {
        StringBuilder text = new StringBuilder();
        for (int order = draw.nextInt(4); order >= 0; order--) {
            int kind = draw.nextInt(8);
            if (kind < 3) {
                text.append("join ").append(someNumber()).append(moreNumbers(2)).append(';');
            } else if (kind < 5) {
                text.append("wish ").append(Math.max(0, somePerson())).append(',').append(someNumber())
                        .append(moreNumbers(2)).append(';');
            } else if (kind < 6) {
                text.append("leave ").append(Math.max(0, somePerson())).append(';');
            } else {
                text.append(kind == 6 ? "close;" : "term;");
            }
        }
        if (draw.nextInt(3) == 0) {
            int place = draw.nextInt(text.length());
            String part = PARTS[draw.nextInt(PARTS.length)];
            text.replace(place, Math.min(text.length(), place + draw.nextInt(3)), part);
        }
        return text.toString();
    }

    private String someNumber() {
        int number = Math.max(0, someCourse());
        return (draw.nextInt(6) == 0 ? "0" : "") + number;
    }

    private String moreNumbers(int most) {
        StringBuilder more = new StringBuilder();
        for (int number = draw.nextInt(most + 1); number > 0; number--) {
            more.append(',').append(someNumber());
        }
        return more.toString();
    }

    private void ask() {
        int c = someCourse();
        int p = somePerson();
        int r = rarely() ? from(-2, 25) : from(0, 5);
        switch (draw.nextInt(11)) {
            case 0: case 1: {
                int what = rarely() ? from(-1, 13) : from(6, 12);
                compare("courseOf " + c + "," + what, built.courseOf(c, what), model.courseOf(c, what));
                break;
            }
            case 2: compare("member " + c + "," + r, built.member(c, r), model.member(c, r)); break;
            case 3: compare("waits " + c + "," + r, built.waits(c, r), model.waits(c, r)); break;
            case 4: {
                int what = from(rarely() ? -1 : 0, rarely() ? 8 : 7);
                compare("personOf " + p + "," + what, built.personOf(p, what), model.personOf(p, what));
                break;
            }
            case 5: {
                int room = rarely() ? from(-1, 5) : from(0, 2);
                int what = rarely() ? from(-1, 3) : from(0, 2);
                compare("roomOf " + room + "," + what, built.roomOf(room, what), model.roomOf(room, what));
                break;
            }
            case 6: {
                int what = rarely() ? from(-1, 6) : from(0, 5);
                compare("ifClose " + what, built.ifClose(what), model.ifClose(what));
                break;
            }
            case 7: compare("beside " + c, built.beside(c), model.beside(c)); break;
            case 8: compare("ifJoin " + c, built.ifJoin(c), model.ifJoin(c)); break;
            case 9: compare("mean", built.mean(), model.mean()); break;
            default: {
                int what = from(rarely() ? -1 : 0, rarely() ? 18 : 17);
                compare("count " + what, built.count(what), model.count(what));
            }
        }
    }
}
