import java.io.IOException;
import java.lang.reflect.InvocationTargetException;
import java.lang.reflect.Method;
import java.lang.reflect.Modifier;
import java.nio.file.Files;
import java.nio.file.Path;
import java.util.ArrayList;
import java.util.List;
import java.util.Set;
import java.util.TreeSet;
import java.util.regex.Matcher;
import java.util.regex.Pattern;
import java.util.stream.Stream;

/** The calls that README.md shows answer as it says; it shows every call, and names every test. */
public final class ReadmeTest extends Check {
    static final Pattern MADE = Pattern.compile("LateSessions x = new LateSessions\\(\\);");
    static final Pattern CALL = Pattern.compile("x\\.(\\w+)\\((.*)\\); +// (-?\\d+|true|false|[A-Z]\\w+Exception)(:.*)?");

    static List<String> linesOf(String language) throws IOException {
        List<String> lines = new ArrayList<>();
        boolean inside = false;
        for (String line : Files.readAllLines(Path.of("README.md"))) {
            if (line.startsWith("```")) {
                inside = !inside && line.equals("```" + language);
            } else if (inside && !line.isBlank()) {
                lines.add(line);
            }
        }
        return lines;
    }

    static Method method(String name) {
        for (Method m : LateSessions.class.getDeclaredMethods()) {
            if (m.getName().equals(name) && Modifier.isPublic(m.getModifiers())) {
                return m;
            }
        }
        return null;
    }

    static Object[] arguments(String told) {
        if (told.isBlank()) {
            return new Object[0];
        }
        String[] parts = told.split(", ");
        Object[] arguments = new Object[parts.length];
        for (int i = 0; i < parts.length; i++) {
            arguments[i] = Integer.decode(parts[i]);
        }
        return arguments;
    }

    static String answer(LateSessions x, Method m, String told) {
        try {
            return String.valueOf(m.invoke(x, arguments(told)));
        } catch (InvocationTargetException e) {
            return e.getCause().getClass().getSimpleName();
        } catch (IllegalAccessException | IllegalArgumentException e) {
            return "can't be called";
        }
    }

    static void wrong(String what) {
        wrong++;
        System.out.println(test + ": " + what);
    }

    static void calls_answerAsShown() throws IOException {
        LateSessions x = new LateSessions();
        Set<String> shown = new TreeSet<>();
        for (String line : linesOf("java")) {
            Matcher call = CALL.matcher(line);
            if (MADE.matcher(line).matches()) {
                x = new LateSessions();
            } else if (!call.matches() || method(call.group(1)) == null) {
                wrong("no call with its answer: " + line);
            } else {
                shown.add(call.group(1));
                String got = answer(x, method(call.group(1)), call.group(2));
                if (!got.equals(call.group(3))) {
                    wrong(got + " is answered, not as in: " + line);
                }
            }
        }
        for (Method m : LateSessions.class.getDeclaredMethods()) {
            if (Modifier.isPublic(m.getModifiers()) && !shown.contains(m.getName())) {
                wrong("it is not shown: " + m);
            }
        }
    }

    static void tests_areNamed() throws IOException {
        String readme = Files.readString(Path.of("README.md"));
        yes(".ci/run is told", linesOf("sh").contains(".ci/run"));
        yes(".ci/run can be run", Files.isExecutable(Path.of(".ci/run")));
        try (Stream<Path> files = Files.walk(Path.of("src"))) {
            for (Path file : (Iterable<Path>) files.filter(Files::isRegularFile)::iterator) {
                yes(file + " is named", readme.contains(file.getFileName().toString()));
            }
        }
    }

    static void files_thatAreNamedAreThere() throws IOException {
        Matcher named = Pattern.compile("[\\w./]*\\w+\\.(java|md)").matcher(Files.readString(Path.of("README.md")));
        int n = 0;
        while (named.find()) {
            String name = named.group();
            boolean there = Files.exists(Path.of(name)) || Files.exists(Path.of("src/test/java", name))
                    || Files.exists(Path.of("../shared", name));
            yes(name + " is there", there);
            n++;
        }
        yes("files are named", n > 10);
    }

    public static void main(String[] args) {
        runAll(ReadmeTest.class);
    }
}
