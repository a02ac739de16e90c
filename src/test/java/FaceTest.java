import java.lang.reflect.Constructor;
import java.lang.reflect.Field;
import java.lang.reflect.Method;
import java.lang.reflect.Modifier;
import java.util.Set;
import java.util.TreeSet;

/** The class has the document's face and nothing else that a caller could see (LANGUAGE.md, rules 1 and 5). */
public final class FaceTest {
    private static final String[] FACE = {
        "boolean counts(int, long)", "long odds(int, int)", "int looker(long, long, int)", "boolean bar(int, int)",
        "int share(int)", "int of(int, int)", "boolean tried()", "int look(int, int, long, long)",
        "long after(int, int)", "boolean sums()", "long found(int)", "int line(int, int, int)",
        "boolean covers(int)", "boolean rest(int, int, int)", "int thing()", "boolean countsOf(int, int, long)",
        "boolean stop(long, long)", "int stops()", "int order(int)", "boolean seen(int, int)", "int log(int, int)",
        "boolean area(int, long)", "int NONE", "SearchGrids(int)"};

    private static String parameters(Class<?>[] types) {
        StringBuilder text = new StringBuilder("(");
        for (int i = 0; i < types.length; i++) {
            text.append(i == 0 ? "" : ", ").append(types[i].getSimpleName());
        }
        return text.append(")").toString();
    }

    private static Set<String> visibleMembers() {
        Set<String> members = new TreeSet<>();
        for (Method m : SearchGrids.class.getDeclaredMethods()) {
            if (!Modifier.isPrivate(m.getModifiers())) {
                String shape = Modifier.isPublic(m.getModifiers()) && !Modifier.isStatic(m.getModifiers()) ? "" : "not public: ";
                members.add(shape + m.getReturnType().getSimpleName() + " " + m.getName() + parameters(m.getParameterTypes()));
            }
        }
        for (Field f : SearchGrids.class.getDeclaredFields()) {
            if (!Modifier.isPrivate(f.getModifiers())) {
                members.add(f.getType().getSimpleName() + " " + f.getName());
            }
        }
        for (Constructor<?> c : SearchGrids.class.getDeclaredConstructors()) {
            members.add("SearchGrids" + parameters(c.getParameterTypes()));
        }
        return members;
    }

    private static boolean hasStateOfItsClass() {
        for (Field f : SearchGrids.class.getDeclaredFields()) {
            if (Modifier.isStatic(f.getModifiers()) && !Modifier.isFinal(f.getModifiers())) {
                return true;
            }
        }
        return false;
    }

    private static boolean hasPrivateNamesake() {
        Set<String> names = new TreeSet<>();
        for (Method m : SearchGrids.class.getDeclaredMethods()) {
            if (!names.add(m.getName())) {
                return true;
            }
        }
        return false;
    }

    public static void main(String[] args) {
        Set<String> want = new TreeSet<>(Set.of(FACE));
        Set<String> got = visibleMembers();
        boolean fine = got.equals(want);
        if (!fine) {
            System.out.println("the face is " + got + ", due is " + want);
        }
        int shape = SearchGrids.class.getModifiers();
        if (!Modifier.isPublic(shape) || !Modifier.isFinal(shape) || hasStateOfItsClass() || hasPrivateNamesake()) {
            System.out.println("the class is not public and final, or has static state or two methods of one name");
            fine = false;
        }
        System.out.println(fine ? "the face is as due" : "the face is not as due");
        if (!fine) {
            System.exit(1);
        }
    }
}
