import java.lang.management.ManagementFactory;
import java.lang.reflect.Constructor;
import java.lang.reflect.Field;
import java.lang.reflect.Member;
import java.lang.reflect.Method;
import java.lang.reflect.Modifier;
import java.util.Arrays;
import java.util.NoSuchElementException;
import java.util.Set;
import java.util.TreeSet;

/** The class shows the document's face and no more, and its calls make no objects. */
public final class FaceTest {
    static int wrong = 0;

    static final String[] FACE = {
        "int sign(int)", "boolean end(int)", "int start(int, int, int, int)", "int delays(int, int)",
        "int event(int, int, int, int)", "int events()", "int marks(int, int)", "int idles(int)",
        "int source(int, int) throws", "int session(int, int) throws", "int at(int, int)",
        "int message(int, int) throws", "int sent(int)", "int stands()", "int closed(int)",
        "int finals(int, int) throws", "int kinds(int)", "int slow()", "int span(int, int)", "int taken()",
        "int holds()", "int next()", "int ahead(int)", "int would(int, int, int, int)", "int batch(int)",
        "int latest()", "int parts(int, int)", "int again(int, int, int)", "int without(int)",
        "int input(int, int) throws", "int day()", "int undo()", "int years(int, int)", "boolean keep(int)",
        "boolean back(int)", "int count(int)", "long row(int) throws"};

    static void yes(String what, boolean holds) {
        if (!holds) {
            wrong++;
            System.out.println("not so: " + what);
        }
    }

    static String told(Method m) {
        StringBuilder s = new StringBuilder();
        s.append(m.getReturnType()).append(' ').append(m.getName()).append('(');
        for (Class<?> c : m.getParameterTypes()) {
            s.append(s.charAt(s.length() - 1) == '(' ? "" : ", ").append(c);
        }
        s.append(')');
        for (Class<?> c : m.getExceptionTypes()) {
            yes("only NoSuchElementException is declared by " + m, c == NoSuchElementException.class);
            s.append(" throws");
        }
        return s.toString();
    }

    static void face() throws NoSuchFieldException, IllegalAccessException {
        Class<?> c = LateSessions.class;
        yes("the class is public and final", Modifier.isPublic(c.getModifiers()) && Modifier.isFinal(c.getModifiers()));
        Set<String> seen = new TreeSet<>();
        Set<String> names = new TreeSet<>();
        for (Method m : c.getDeclaredMethods()) {
            if (Modifier.isPublic(m.getModifiers())) {
                seen.add(told(m));
                names.add(m.getName());
            }
        }
        yes("the methods are the document's: " + seen, seen.equals(new TreeSet<>(Arrays.asList(FACE))));
        for (Member m : c.getDeclaredMethods()) {
            onlyPrivate(m, names);
        }
        for (Field f : c.getDeclaredFields()) {
            if (!f.getName().equals("NONE")) {
                onlyPrivate(f, new TreeSet<>());
            }
        }
        yes("NONE is -1", c.getField("NONE").getInt(null) == -1);
        Constructor<?>[] made = c.getDeclaredConstructors();
        yes("one constructor", made.length == 1 && Modifier.isPublic(made[0].getModifiers()) && made[0].getParameterCount() == 0);
        for (Class<?> inside : c.getDeclaredClasses()) {
            int of = inside.getModifiers();
            yes("inside it is static and not public: " + inside,
                    Modifier.isStatic(of) && !Modifier.isPublic(of) && !Modifier.isProtected(of));
            for (Method m : inside.getDeclaredMethods()) {
                yes("no method inside bears the face's name: " + m, !names.contains(m.getName()));
            }
        }
    }

    static void onlyPrivate(Member m, Set<String> names) {
        boolean isPrivate = Modifier.isPrivate(m.getModifiers());
        boolean isFace = Modifier.isPublic(m.getModifiers()) && names.contains(m.getName());
        yes("private or of the face: " + m, m.isSynthetic() || isPrivate || isFace);
        yes("no private one bears the face's name: " + m, !isPrivate || !names.contains(m.getName()));
        boolean fixed = !(m instanceof Field) || !Modifier.isStatic(m.getModifiers()) || Modifier.isFinal(m.getModifiers());
        yes("static fields are final: " + m, fixed);
    }

    static void filled(LateSessions x) {
        x.start(4, 1, 99, 1);
        for (int i = 0; i < 152; i++) {
            x.event(i % 6, (i * 37) % 200, 1, i % 4);
        }
    }

    static void dear(LateSessions x, int call) {
        switch (call % 8) {
            case 0: x.again(1, 99, 1); break;
            case 1: x.without(call % 4); break;
            case 2: x.years(call, 40); break;
            case 3: x.would(call % 6, call % 300, 1, call % 4); break;
            case 4: x.undo(); break;
            case 5: x.event(call % 6, call % 300, 1, call % 4); break;
            case 6: x.keep(call % 2); break;
            default: x.batch(call % 6); break;
        }
    }

    /** All calls of a run live in one room, so that only the object's own rows may be made. */
    static void room() {
        com.sun.management.ThreadMXBean bean =
                (com.sun.management.ThreadMXBean) ManagementFactory.getThreadMXBean();
        long id = Thread.currentThread().getId();
        long most = 0;
        for (int round = 0; round < 30; round++) {
            LateSessions x = new LateSessions();
            filled(x);
            long before = bean.getThreadAllocatedBytes(id);
            for (int call = 0; call < 350; call++) {
                dear(x, call);
            }
            most = bean.getThreadAllocatedBytes(id) - before;
        }
        yes("350 calls make " + most + " bytes, less than 10000", most < 10000);
        long before = bean.getThreadAllocatedBytes(id);
        LateSessions x = new LateSessions();
        long made = bean.getThreadAllocatedBytes(id) - before;
        yes("an object has " + made + " bytes, less than 400000", made < 400000 && x.count(0) == 1);
    }

    public static void main(String[] args) throws NoSuchFieldException, IllegalAccessException {
        face();
        room();
        System.out.println(wrong == 0 ? "the face is the document's" : wrong + " are not so");
        if (wrong != 0) {
            System.exit(1);
        }
    }
}
