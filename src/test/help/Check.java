import java.lang.reflect.InvocationTargetException;
import java.lang.reflect.Method;
import java.lang.reflect.Modifier;
import java.util.Arrays;
import java.util.Comparator;
import java.util.NoSuchElementException;
import java.util.function.LongSupplier;

/** What the tests have in common; a test extends it. */
class Check {
    static int wrong = 0;
    static String test = "";

    static void is(String what, long got, long due) {
        if (got != due) {
            wrong++;
            System.out.println(test + ": " + what + " answered " + got + ", due is " + due);
        }
    }

    static void yes(String what, boolean got) {
        is(what, got ? 1 : 0, 1);
    }

    static void no(String what, boolean got) {
        is(what, got ? 1 : 0, 0);
    }

    static void none(String what, LongSupplier call) {
        try {
            long got = call.getAsLong();
            wrong++;
            System.out.println(test + ": " + what + " answered " + got + ", due is NoSuchElementException");
        } catch (NoSuchElementException due) {
            return;
        }
    }

    static void row(LateSessions x, String what, long... due) {
        is("numbers of the row of " + what, x.count(9), due.length);
        for (int i = 0; i < due.length && i < x.count(9); i++) {
            is("row(" + i + ") of " + what, x.row(i), due[i]);
        }
    }

    static void counts(LateSessions x, int from, long... due) {
        for (int i = 0; i < due.length; i++) {
            is("count(" + (from + i) + ")", x.count(from + i), due[i]);
        }
    }

    static void message(LateSessions x, int i, long... due) {
        for (int what = 0; what < due.length; what++) {
            is("message(" + i + ", " + what + ")", x.message(i, what), due[what]);
        }
    }

    static void session(LateSessions x, int i, long... due) {
        for (int what = 0; what < due.length; what++) {
            is("session(" + i + ", " + what + ")", x.session(i, what), due[what]);
        }
    }

    static void finals(LateSessions x, int i, long... due) {
        for (int what = 0; what < due.length; what++) {
            is("finals(" + i + ", " + what + ")", x.finals(i, what), due[what]);
        }
    }

    static void source(LateSessions x, int source, long... due) {
        for (int what = 0; what < due.length; what++) {
            is("source(" + source + ", " + what + ")", x.source(source, what), due[what]);
        }
    }

    static void input(LateSessions x, int i, long... due) {
        for (int what = 0; what < due.length; what++) {
            is("input(" + i + ", " + what + ")", x.input(i, what), due[what]);
        }
    }

    static void write(LateSessions x, String text) {
        x.end(0);
        for (int i = 0; i < text.length(); i += 4) {
            int v = 0;
            for (int k = i; k < i + 4; k++) {
                v = v << 8 | (k < text.length() ? text.charAt(k) : 0);
            }
            x.sign(v);
        }
        x.end(text.length());
    }

    static int events(LateSessions x, String text) {
        write(x, text);
        return x.events();
    }

    static int day(LateSessions x, String text) {
        write(x, text);
        return x.day();
    }

    /** Delays are 0, so that an event's time is its source's mark. */
    static LateSessions started(int n, int gap, int lateness, int early) {
        LateSessions x = new LateSessions();
        x.start(n, gap, lateness, early);
        for (int source = 0; source < n; source++) {
            x.delays(source, 0);
        }
        return x;
    }

    /** Two sources, and n inputs of the first: the second one's mark keeps progress at 0. */
    static LateSessions withInputs(int n) {
        LateSessions x = started(2, 10, 5, 0);
        for (int i = 0; i < n; i++) {
            x.event(i % 6, i, 1, 0);
        }
        return x;
    }

    /** Runs each test of a class: its methods without arguments whose names have a _, by name. */
    static void runAll(Class<?> tests) {
        Method[] all = tests.getDeclaredMethods();
        Arrays.sort(all, Comparator.comparing(Method::getName));
        int n = 0;
        for (Method method : all) {
            boolean isTest = Modifier.isStatic(method.getModifiers()) && method.getParameterCount() == 0
                    && method.getName().indexOf('_') > 0;
            if (isTest) {
                test = method.getName();
                n++;
                run(method);
            }
        }
        System.out.println(n + " tests, " + wrong + " answers that are not as due");
        if (wrong != 0 || n == 0) {
            System.exit(1);
        }
    }

    private static void run(Method method) {
        try {
            method.setAccessible(true);
            method.invoke(null);
        } catch (InvocationTargetException e) {
            wrong++;
            System.out.println(test + ": threw " + e.getCause());
        } catch (IllegalAccessException e) {
            wrong++;
            System.out.println(test + ": can't be run");
        }
    }
}
