import java.lang.reflect.Constructor;
import java.lang.reflect.Field;
import java.lang.reflect.Member;
import java.lang.reflect.Method;
import java.lang.reflect.Modifier;
import java.util.TreeSet;

/** The public face: just the document's constants, constructor and methods. */
public final class FaceTest {
    private static final String[] FACE = {
        "EveningClasses()", "INVALID_ARGUMENT", "LIMIT_REACHED", "NOT_FOUND", "NOT_POSSIBLE",
        "beside(int)", "clearText()", "close()", "count(int)", "course(int,int,int,int)", "courseOf(int,int)",
        "fault(int)", "ifClose(int)", "ifJoin(int)", "join(int,int,int)", "leave(int)", "mean()",
        "member(int,int)", "personOf(int,int)", "play()", "room(int)", "roomOf(int,int)", "term()", "type(int)",
        "undo()", "waits(int,int)", "wish(int,int,int,int)",
    };

    public static void main(String[] args) {
        Due due = new Due();
        TreeSet<String> want = new TreeSet<>();
        for (String member : FACE) {
            want.add(member);
        }
        due.same("members that are not private", visibleMembers(due), want);
        int modifiers = EveningClasses.class.getModifiers();
        due.is("public final class", modifiers & (Modifier.PUBLIC | Modifier.FINAL), Modifier.PUBLIC | Modifier.FINAL);
        due.is("INVALID_ARGUMENT", EveningClasses.INVALID_ARGUMENT, -1000001);
        due.is("NOT_POSSIBLE", EveningClasses.NOT_POSSIBLE, -1000002);
        due.is("LIMIT_REACHED", EveningClasses.LIMIT_REACHED, -1000003);
        due.is("NOT_FOUND", EveningClasses.NOT_FOUND, -1000004);
        due.end();
    }

    private static TreeSet<String> visibleMembers(Due due) {
        TreeSet<String> found = new TreeSet<>();
        for (Field field : EveningClasses.class.getDeclaredFields()) {
            if (isVisible(field)) {
                found.add(field.getName());
                due.same("type of " + field.getName(), field.getType(), int.class);
                due.is(field.getName() + " static final", Modifier.isStatic(field.getModifiers())
                        && Modifier.isFinal(field.getModifiers()) ? 1 : 0, 1);
            }
        }
        for (Method method : EveningClasses.class.getDeclaredMethods()) {
            if (isVisible(method)) {
                found.add(method.getName() + parameters(method.getParameterTypes()));
                due.same("type of " + method.getName(), method.getReturnType(), int.class);
                due.is(method.getName() + " is not static", Modifier.isStatic(method.getModifiers()) ? 1 : 0, 0);
            }
        }
        for (Constructor<?> constructor : EveningClasses.class.getDeclaredConstructors()) {
            if (isVisible(constructor)) {
                found.add("EveningClasses" + parameters(constructor.getParameterTypes()));
            }
        }
        return found;
    }

    private static boolean isVisible(Member member) {
        return !Modifier.isPrivate(member.getModifiers()) && !member.isSynthetic();
    }

    private static String parameters(Class<?>[] types) {
        StringBuilder list = new StringBuilder("(");
        for (int place = 0; place < types.length; place++) {
            list.append(place == 0 ? "" : ",").append(types[place].getName());
        }
        return list.append(")").toString();
    }
}
