import java.lang.reflect.Constructor;
import java.lang.reflect.Field;
import java.lang.reflect.Method;
import java.lang.reflect.Modifier;
import java.util.TreeSet;

/** The public face is the document's, and nothing else is to be seen. */
public final class FaceTest {
    private static final String[] FACE = {
        "int quarry(int, int)", "int work(int, int)", "int renew(int, int, int, int)",
        "int road(int, int, int, int)", "int of(int, int, int)", "int roadOf(int, int, int)",
        "int feed(int)", "int read()", "int start(int)", "int step(int, int)", "int load(int, int)",
        "int basic(int, int)", "long worth(int, int)", "long surplus(int, int)", "int loop(int, int, int)",
        "int enters(int)", "int told(int)", "int trace(int, int)", "int best(int, int, int)",
        "int cheapest(int)", "long more(int, int)", "int rise(int, int)", "int missed(int)",
        "int see(int, int, int)", "int fits(int, int, int)", "long odds(int, int, int)", "long mean(int)",
        "int order(int, int)", "int ends(int)", "int book(int, int, int)", "int looked()",
        "int judge(int, int)", "int image()", "int undo()", "int count(int)", "int tape(int, int, int)",
        "int item(int, int, long)", "long peek(int, int)", "int shift(int, int, int, int, int)"};

    private static final Checks C = new Checks();

    public static void main(String[] args) {
        constants();
        methods();
        C.due("the class", StoneRoads.class.getModifiers() & (Modifier.PUBLIC | Modifier.FINAL),
                Modifier.PUBLIC | Modifier.FINAL);
        Constructor<?>[] all = StoneRoads.class.getDeclaredConstructors();
        C.due("constructors", all.length, 1);
        C.due("its parameters", all[0].getParameterCount(), 0);
        C.due("it is public", Modifier.isPublic(all[0].getModifiers()) ? 1 : 0, 1);
        for (Class<?> inside : StoneRoads.class.getDeclaredClasses()) {
            C.due(inside + " is static", Modifier.isStatic(inside.getModifiers()) ? 1 : 0, 1);
            C.due(inside + " is not public", Modifier.isPublic(inside.getModifiers()) ? 1 : 0, 0);
        }
        C.finish();
    }

    private static void constants() {
        C.due("NONE", StoneRoads.NONE, -1);
        C.due("BAD", StoneRoads.BAD, -2);
        C.due("STATE", StoneRoads.STATE, -3);
        C.due("FULL", StoneRoads.FULL, -4);
        C.due("NO", StoneRoads.NO, Long.MIN_VALUE);
        TreeSet<String> seen = new TreeSet<>();
        for (Field field : StoneRoads.class.getDeclaredFields()) {
            if (!Modifier.isPrivate(field.getModifiers())) {
                seen.add(field.getName() + " " + Modifier.toString(field.getModifiers()));
            }
        }
        C.due("constants", seen.toString(), "[BAD public static final, FULL public static final, "
                + "NO public static final, NONE public static final, STATE public static final]");
    }

    private static void methods() {
        TreeSet<String> names = new TreeSet<>();
        TreeSet<String> seen = new TreeSet<>();
        for (Method method : StoneRoads.class.getDeclaredMethods()) {
            if (Modifier.isPrivate(method.getModifiers())) {
                continue;
            }
            StringBuilder types = new StringBuilder();
            for (Class<?> type : method.getParameterTypes()) {
                types.append(types.length() == 0 ? "" : ", ").append(type);
            }
            seen.add(method.getReturnType() + " " + method.getName() + "(" + types + ")");
            names.add(method.getName());
            C.due(method + " is public", Modifier.toString(method.getModifiers()), "public");
        }
        C.due("the face", seen.toString(), new TreeSet<>(java.util.List.of(FACE)).toString());
        C.due("private ones of these names", privateOnes(StoneRoads.class, names).toString(), "[]");
        for (Class<?> inside : StoneRoads.class.getDeclaredClasses()) {
            C.due("those inside " + inside, privateOnes(inside, names).toString(), "[]");
        }
    }

    private static TreeSet<String> privateOnes(Class<?> where, TreeSet<String> names) {
        TreeSet<String> found = new TreeSet<>();
        for (Method method : where.getDeclaredMethods()) {
            boolean isFace = where == StoneRoads.class && Modifier.isPublic(method.getModifiers());
            if (!isFace && names.contains(method.getName())) {
                found.add(method.toString());
            }
        }
        return found;
    }
}
