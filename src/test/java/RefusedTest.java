import java.util.NoSuchElementException;
import java.util.function.Consumer;
import java.util.function.LongSupplier;
import java.util.function.ToLongFunction;

/**
 * Calls that are refused, and questions, change nothing: of twins, one with the call and one
 * without it, every answer is the same then. Each pair of twins is asked a part of all there is
 * to ask, so that none is used for more than 512 calls.
 */
public final class RefusedTest extends Check {
    private static final int PARTS = 17;

    // -- the objects

    static void fresh(LateSessions x) {
        x.again(10, 5, 0);
    }

    /** Ripe, early and late results, final ones, idle and late sources, kept and undone ones. */
    static void middle(LateSessions x) {
        x.start(3, 10, 20, 2);
        x.delays(0, 0);
        x.delays(1, 5);
        x.delays(2, 0);
        x.keep(1);
        events(x, "a0010+051b0012-992c0015+070");
        x.marks(1, 30);
        events(x, "a0050+010a0052+010b0055+121c0060+992");
        x.marks(0, 90);
        x.marks(2, 80);
        x.keep(0);
        x.marks(1, 75);
        x.event(0, 56, 3, 2);
        x.event(1, 20, 3, 1);
        x.event(3, 85, 4, 1);
        x.event(3, 88, 4, 2);
        x.idles(2);
        x.event(4, 95, 4, 0);
        x.undo();
        write(x, "d0090+010");
        x.again(9, 4, 1);
    }

    static void full(LateSessions x) {
        x.start(2, 3, 9, 1);
        x.delays(0, 0);
        x.delays(1, 0);
        x.event(1, 900, 1, 1);
        x.keep(0);
        for (int i = 0; i < 158; i++) {
            x.event(i % 6, 4 * i, i % 9 - 4, 0);
        }
        x.keep(1);
        x.idles(1);
        write(x, "d0090+010");
        x.again(9, 4, 1);
    }

    static void allIdle(LateSessions x) {
        middle(x);
        x.idles(0);
        x.idles(1);
        write(x, "d0090+010");
        x.again(9, 4, 1);
    }

    // -- what is asked

    static void put(StringBuilder log, String what, LongSupplier call) {
        log.append(what).append('=');
        try {
            log.append(call.getAsLong());
        } catch (NoSuchElementException e) {
            log.append("none such");
        }
        log.append(';');
    }

    static void putRow(StringBuilder log, LateSessions x) {
        put(log, "row", () -> x.count(9));
        for (int i = 0; i < x.count(9); i++) {
            int at = i;
            put(log, "row " + i, () -> x.row(at));
        }
    }

    static void putCounts(StringBuilder log, LateSessions x) {
        for (int what = 0; what <= 10; what++) {
            int at = what;
            put(log, "count " + what, () -> x.count(at));
        }
    }

    static void putSources(StringBuilder log, LateSessions x) {
        for (int source = 0; source < x.count(0); source++) {
            for (int what = 0; what < 6; what++) {
                int s = source;
                int w = what;
                put(log, "source " + s + " " + w, () -> x.source(s, w));
            }
        }
    }

    static void putSessions(StringBuilder log, LateSessions x, int from) {
        for (int i = from; i < from + 33 && i < x.count(5); i++) {
            for (int what = 0; what < 8; what++) {
                int at = i;
                int w = what;
                put(log, "session " + at + " " + w, () -> x.session(at, w));
            }
        }
    }

    static void putMessages(StringBuilder log, LateSessions x, int from) {
        for (int i = Math.max(0, from); i < from + 31 && i < x.count(7); i++) {
            for (int what = 0; what < 6; what++) {
                int at = i;
                int w = what;
                put(log, "message " + at + " " + w, () -> x.message(at, w));
            }
        }
    }

    static void putFinals(StringBuilder log, LateSessions x) {
        int closed = 0;
        for (int key = 0; key < 6; key++) {
            closed += x.closed(key);
        }
        for (int i = Math.max(0, closed - 40); i < closed; i++) {
            for (int what = 0; what < 7; what++) {
                int at = i;
                int w = what;
                put(log, "finals " + at + " " + w, () -> x.finals(at, w));
            }
        }
    }

    static void putInputs(StringBuilder log, LateSessions x, int from) {
        for (int i = from; i < from + 55 && i < x.count(6); i++) {
            for (int what = 0; what < 4; what++) {
                int at = i;
                int w = what;
                put(log, "input " + at + " " + w, () -> x.input(at, w));
            }
        }
    }

    static void putKeys(StringBuilder log, LateSessions x) {
        for (int key = 0; key < 6; key++) {
            int k = key;
            put(log, "closed " + k, () -> x.closed(k));
            putRow(log, x);
            put(log, "kinds " + k, () -> x.kinds(k));
            putRow(log, x);
            put(log, "batch " + k, () -> x.batch(k));
            putRow(log, x);
        }
    }

    static void putAsked(StringBuilder log, LateSessions x) {
        put(log, "sent", () -> x.sent(0));
        put(log, "stands", x::stands);
        putRow(log, x);
        put(log, "slow", x::slow);
        putRow(log, x);
        put(log, "span", () -> x.span(0, 9999));
        putRow(log, x);
        put(log, "taken", x::taken);
        putRow(log, x);
        put(log, "holds", x::holds);
        putRow(log, x);
        put(log, "next", x::next);
        putRow(log, x);
        put(log, "ahead", () -> x.ahead(20000));
        putRow(log, x);
        put(log, "would", () -> x.would(0, x.count(4), 1, 0));
        putRow(log, x);
        put(log, "latest", x::latest);
        putRow(log, x);
        put(log, "again", () -> x.again(20, 40, 3));
        putRow(log, x);
        put(log, "without", () -> x.without(0));
        putRow(log, x);
        put(log, "years", () -> x.years(1, 40));
        putRow(log, x);
    }

    static void putUndone(StringBuilder log, LateSessions x) {
        for (int k = 0; k < 7; k++) {
            put(log, "undo", x::undo);
            putCounts(log, x);
            put(log, "taken", x::taken);
            putRow(log, x);
            put(log, "delay", () -> x.source(0, 1));
        }
    }

    static void putBack(StringBuilder log, LateSessions x, int i) {
        put(log, "back", () -> x.back(i) ? 1 : 0);
        putCounts(log, x);
        putSources(log, x);
        putAsked(log, x);
    }

    static void putText(StringBuilder log, LateSessions x) {
        put(log, "signs", () -> x.count(10));
        put(log, "day", x::day);
        putRow(log, x);
    }

    static String part(LateSessions x, int part) {
        StringBuilder log = new StringBuilder();
        switch (part) {
            case 0: putRow(log, x); putCounts(log, x); putSources(log, x); break;
            case 1: putText(log, x); break;
            case 2: putFinals(log, x); break;
            case 3: putKeys(log, x); break;
            case 4: putAsked(log, x); break;
            case 5: putUndone(log, x); break;
            case 6: putBack(log, x, 0); break;
            case 7: putBack(log, x, 1); break;
            case 8: putMessages(log, x, x.count(7) - 61); break;
            case 9: putMessages(log, x, x.count(7) - 30); break;
            case 10: putInputs(log, x, 0); break;
            case 11: putInputs(log, x, 55); break;
            case 12: putInputs(log, x, 110); break;
            case 13: putSessions(log, x, 0); break;
            case 14: putSessions(log, x, 33); break;
            case 15: putSessions(log, x, 66); break;
            default: putSessions(log, x, 99); break;
        }
        return log.toString();
    }

    static void same(String what, String got, String due) {
        String[] g = got.split(";");
        String[] d = due.split(";");
        for (int i = 0; i < g.length && i < d.length; i++) {
            if (!g[i].equals(d[i])) {
                wrong++;
                System.out.println(test + ": " + what + " changed " + d[i] + " into " + g[i]);
                return;
            }
        }
        is(what + ": answers then", g.length, d.length);
    }

    /** What is done instead of the call leaves what the call has to leave. */
    static void like(String what, Consumer<LateSessions> made, Consumer<LateSessions> call,
            Consumer<LateSessions> instead) {
        for (int part = 0; part < PARTS; part++) {
            LateSessions x = new LateSessions();
            made.accept(x);
            call.accept(x);
            LateSessions y = new LateSessions();
            made.accept(y);
            instead.accept(y);
            same(what, part(x, part), part(y, part));
        }
    }

    static void refused(String what, Consumer<LateSessions> made, ToLongFunction<LateSessions> call, long due) {
        LateSessions x = new LateSessions();
        made.accept(x);
        is(what, call.applyAsLong(x), due);
        like(what, made, call::applyAsLong, y -> { });
    }

    /** A call that reads the text empties it, and changes nothing else. */
    static void readAndRefused(String text, Consumer<LateSessions> made, ToLongFunction<LateSessions> call, long due) {
        LateSessions x = new LateSessions();
        made.accept(x);
        write(x, text);
        is(text, call.applyAsLong(x), due);
        is("signs behind " + text, x.count(10), 0);
        like(text, made, y -> { write(y, text); call.applyAsLong(y); }, y -> y.end(0));
    }

    // -- promises 2 to 9

    static void p02_sign() {
        Consumer<LateSessions> filled = x -> {
            middle(x);
            write(x, "i0".repeat(38) + "i");
        };
        refused("more than 80", filled, x -> x.sign(0x69306930), -1);
    }

    static void p03_end() {
        refused("one too many", RefusedTest::middle, x -> x.end(10) ? 1 : 0, 0);
        refused("below 0", RefusedTest::middle, x -> x.end(-1) ? 1 : 0, 0);
        refused("one of none", RefusedTest::fresh, x -> x.end(1) ? 1 : 0, 0);
    }

    static void p04_start() {
        int[][] bad = {{0, 10, 5, 0}, {5, 10, 5, 0}, {1, 0, 5, 0}, {1, 100, 5, 0}, {1, 10, -1, 0}, {1, 10, 100, 0},
            {1, 10, 5, -1}, {1, 10, 5, 10}};
        for (int[] b : bad) {
            refused("out of bounds", RefusedTest::middle, x -> x.start(b[0], b[1], b[2], b[3]), -1);
        }
    }

    static void p05_delays() {
        refused("too much", RefusedTest::middle, x -> x.delays(0, 1000), -1);
        refused("too little", RefusedTest::middle, x -> x.delays(0, -1), -1);
        refused("no such source", RefusedTest::middle, x -> x.delays(3, 0), -1);
        refused("no such source below", RefusedTest::middle, x -> x.delays(-1, 0), -1);
        refused("it is so", RefusedTest::middle, x -> x.delays(1, 5), -2);
        refused("there are inputs", RefusedTest::middle, x -> x.delays(1, 6), -3);
        refused("too much, of none", RefusedTest::fresh, x -> x.delays(0, 1000), -1);
        refused("too little, of none", RefusedTest::fresh, x -> x.delays(0, -1), -1);
        refused("it is so, of none", RefusedTest::fresh, x -> x.delays(0, 20), -2);
    }

    static void p06_event() {
        int[][] bad = {{-1, 75, 0, 0}, {6, 75, 0, 0}, {0, -1, 0, 0}, {0, 10000, 0, 0}, {0, 75, -100, 0},
            {0, 75, 100, 0}, {0, 75, 0, -1}, {0, 75, 0, 3}};
        for (int[] b : bad) {
            refused("no such one", RefusedTest::middle, x -> x.event(b[0], b[1], b[2], b[3]), -1);
        }
        refused("160 inputs", RefusedTest::full, x -> x.event(0, 9999, 1, 0), -3);
        refused("160 inputs, of an idle one", RefusedTest::full, x -> x.event(0, 0, 1, 1), -3);
        refused("wrong with 160", RefusedTest::full, x -> x.event(0, 10000, 1, 0), -1);
    }

    static void p07_events() {
        String[] bad = {"x", "g0090+010", "a009x+010", "a0090x010", "a0090+x10", "a0090+0x0", "a0090+013", "a0090+01",
            "a0090+010a", "a0090+010b0091+02", "a0090+010b0091+029"};
        int[] at = {0, 0, 4, 5, 6, 7, 8, 8, 10, 17, 17};
        for (int i = 0; i < bad.length; i++) {
            readAndRefused(bad[i], RefusedTest::middle, LateSessions::events, -1 - at[i]);
        }
        readAndRefused("a0990+010", RefusedTest::full, LateSessions::events, -3);
    }

    static void p08_marks() {
        refused("no such source", RefusedTest::middle, x -> x.marks(3, 500), -1);
        refused("no such source below", RefusedTest::middle, x -> x.marks(-1, 500), -1);
        refused("too much", RefusedTest::middle, x -> x.marks(0, 20001), -1);
        refused("below 0", RefusedTest::middle, x -> x.marks(0, -1), -1);
        refused("as much", RefusedTest::middle, x -> x.marks(0, 90), -2);
        refused("less", RefusedTest::middle, x -> x.marks(0, 89), -2);
        refused("0", RefusedTest::fresh, x -> x.marks(0, 0), -2);
        refused("160 inputs", RefusedTest::full, x -> x.marks(0, 20000), -3);
        refused("not less, with 160", RefusedTest::full, x -> x.marks(0, 1), -2);
    }

    static void p09_idles() {
        refused("no such source", RefusedTest::middle, x -> x.idles(3), -1);
        refused("no such source below", RefusedTest::middle, x -> x.idles(-1), -1);
        refused("it is idle", RefusedTest::middle, x -> x.idles(2), -2);
        refused("160 inputs", RefusedTest::full, x -> x.idles(0), -3);
        refused("it is idle, with 160", RefusedTest::full, x -> x.idles(1), -2);
    }

    // -- promises 10 to 31: the row stays with each answer below 0, and with what is thrown

    static long thrown(LongSupplier call) {
        try {
            return call.getAsLong();
        } catch (NoSuchElementException e) {
            return Long.MIN_VALUE;
        }
    }

    static void throwing(String what, ToLongFunction<LateSessions> call) {
        refused(what, RefusedTest::middle, x -> thrown(() -> call.applyAsLong(x)), Long.MIN_VALUE);
    }

    static void p10_thrown() {
        throwing("source", x -> x.source(3, 0));
        throwing("source's what", x -> x.source(0, 6));
        throwing("session", x -> x.session(x.count(5), 0));
        throwing("session's what", x -> x.session(0, 8));
        throwing("message", x -> x.message(x.count(7), 0));
        throwing("message's what", x -> x.message(0, 6));
        throwing("finals", x -> x.finals(40, 0));
        throwing("finals' what", x -> x.finals(0, 7));
        throwing("input", x -> x.input(x.count(6), 0));
        throwing("input's what", x -> x.input(0, 4));
        throwing("row", x -> x.row(6));
    }

    static void p12_questionsThatAreRefused() {
        refused("at() of no key", RefusedTest::middle, x -> x.at(6, 0), -1);
        refused("at() of no time", RefusedTest::middle, x -> x.at(0, 10000), -1);
        refused("at() of none", RefusedTest::middle, x -> x.at(5, 0), -2);
        refused("sent()", RefusedTest::middle, x -> x.sent(4), -1);
        refused("closed()", RefusedTest::middle, x -> x.closed(6), -1);
        refused("kinds()", RefusedTest::middle, x -> x.kinds(6), -1);
        refused("slow()", RefusedTest::allIdle, LateSessions::slow, -2);
        refused("span() of no times", RefusedTest::middle, x -> x.span(0, 10000), -1);
        refused("span() of less", RefusedTest::middle, x -> x.span(50, 49), -1);
        refused("next()", RefusedTest::fresh, LateSessions::next, -2);
        refused("ahead() of none", RefusedTest::middle, x -> x.ahead(20001), -1);
        refused("ahead() of less", RefusedTest::middle, x -> x.ahead(x.count(4) - 1), -2);
        refused("would()", RefusedTest::middle, x -> x.would(0, 10000, 0, 0), -1);
        refused("batch()", RefusedTest::middle, x -> x.batch(6), -1);
        refused("parts() of no n", RefusedTest::middle, x -> x.parts(0, 61), -1);
        refused("parts() of none", RefusedTest::middle, x -> x.parts(0, 60), -2);
        refused("again() of gap 0", RefusedTest::middle, x -> x.again(0, 5, 0), -1);
        refused("again() of early 10", RefusedTest::middle, x -> x.again(10, 5, 10), -1);
        refused("without() of none", RefusedTest::middle, x -> x.without(3), -1);
        refused("without() of one alone", RefusedTest::fresh, x -> x.without(0), -2);
        refused("count()", RefusedTest::middle, x -> x.count(11), -1);
    }

    // -- promises 32 to 36

    static void p32_day() {
        String[] bad = {"x", "eg0090+010", "ea009x+010", "ea0090x010", "ea0090+01x", "ea0090+01", "mx", "m0", "m00012x",
            "m00012", "i", "ix", "m000200x", "m000200i", "m000200ea0300+01"};
        int[] at = {0, 1, 5, 6, 9, 9, 1, 2, 6, 6, 1, 1, 7, 8, 16};
        for (int i = 0; i < bad.length; i++) {
            readAndRefused(bad[i], RefusedTest::middle, LateSessions::day, -1 - at[i]);
        }
    }

    /** It answers 0, and tells the row; all else stays. */
    static void p32_dayOfWhichNoneCouldBeDone() {
        String[] acts = {"i2", "i9", "m020001", "m000090", "m300500", "ea0090+013", "i2m000500"};
        for (String text : acts) {
            like(text, x -> { middle(x); write(x, text); }, x -> { x.day(); x.sent(0); }, x -> { x.end(0); x.sent(0); });
        }
        like("160 inputs", x -> { full(x); write(x, "m001000"); }, x -> { x.day(); x.sent(0); },
                x -> { x.end(0); x.sent(0); });
    }

    static void p33_undo() {
        refused("none", RefusedTest::fresh, LateSessions::undo, -1);
        Consumer<LateSessions> forgot = x -> {
            middle(x);
            x.back(0);
        };
        refused("forgotten by back()", forgot, LateSessions::undo, -1);
    }

    static void p34_years() {
        refused("0", RefusedTest::middle, x -> x.years(1, 0), -1);
        refused("41", RefusedTest::middle, x -> x.years(1, 41), -1);
    }

    static void p35_keep() {
        refused("2", RefusedTest::middle, x -> x.keep(2) ? 1 : 0, 0);
        refused("-1", RefusedTest::middle, x -> x.keep(-1) ? 1 : 0, 0);
    }

    static void p36_back() {
        refused("2", RefusedTest::middle, x -> x.back(2) ? 1 : 0, 0);
        refused("-1", RefusedTest::middle, x -> x.back(-1) ? 1 : 0, 0);
        refused("0, not kept", RefusedTest::fresh, x -> x.back(0) ? 1 : 0, 0);
        refused("1, not kept", RefusedTest::fresh, x -> x.back(1) ? 1 : 0, 0);
    }

    // -- questions change nothing but the row

    static void asked(String what, Consumer<LateSessions> made, Consumer<LateSessions> call) {
        like(what, made, x -> { call.accept(x); x.sent(0); }, x -> x.sent(0));
    }

    static void q_questionsChangeNothing() {
        for (int k = 0; k < 2; k++) {
            Consumer<LateSessions> made = k == 0 ? RefusedTest::middle : RefusedTest::full;
            asked("source", made, x -> x.source(0, 5));
            asked("session", made, x -> x.session(0, 6));
            asked("at", made, x -> x.at(0, 50));
            asked("message", made, x -> x.message(x.count(7) - 1, 0));
            asked("finals", made, x -> thrown(() -> x.finals(0, 0)));
            asked("stands", made, LateSessions::stands);
            asked("closed", made, x -> x.closed(0));
            asked("kinds", made, x -> x.kinds(0));
            asked("slow", made, LateSessions::slow);
            asked("span", made, x -> x.span(0, 9999));
            asked("taken", made, LateSessions::taken);
            asked("holds", made, LateSessions::holds);
            asked("next", made, LateSessions::next);
            asked("ahead", made, x -> x.ahead(20000));
            asked("would", made, x -> x.would(0, x.count(4), 1, 0));
            asked("would rise", made, x -> x.would(0, 9999, 1, x.count(0) - 1));
            asked("batch", made, x -> x.batch(0));
            asked("latest", made, LateSessions::latest);
            asked("parts", made, x -> x.parts(0, 2));
            asked("again", made, x -> x.again(99, 0, 9));
            asked("without", made, x -> x.without(1));
            asked("input", made, x -> x.input(0, 0));
            asked("years", made, x -> x.years(77, 40));
            asked("count", made, x -> x.count(0));
            asked("row", made, x -> x.row(0));
        }
    }

    /** An empty text comes to nothing: only the row is told. */
    static void q_emptyTexts() {
        like("events", x -> { middle(x); x.end(0); }, x -> { x.events(); x.sent(0); }, x -> x.sent(0));
        like("day", x -> { middle(x); x.end(0); }, x -> { x.day(); x.sent(0); }, x -> x.sent(0));
    }

    // -- what is undone, or brought back, is as if it had not been

    static void undone(String what, Consumer<LateSessions> call) {
        Consumer<LateSessions> made = x -> {
            middle(x);
            x.keep(1);
            x.back(1);
        };
        like(what, made, x -> { call.accept(x); x.undo(); x.end(0); x.sent(0); }, x -> { x.end(0); x.sent(0); });
        like(what + " and back()", made, x -> { call.accept(x); x.back(1); x.end(0); x.sent(0); },
                x -> { x.end(0); x.sent(0); });
    }

    static void u_undone() {
        undone("start", x -> x.start(4, 1, 0, 1));
        undone("event", x -> x.event(3, 300, 7, 1));
        undone("a late event", x -> x.event(1, x.count(4) - 1, 7, 1));
        undone("events", x -> events(x, "d0300+010e0301+011a0076-550"));
        undone("marks", x -> x.marks(1, 5000));
        undone("idles", x -> x.idles(1));
        undone("day", x -> day(x, "m020000i1ef9999+992m120000i0i0"));
        Consumer<LateSessions> none = x -> x.start(2, 9, 8, 7);
        like("delays", x -> { none.accept(x); x.keep(1); x.back(1); }, x -> { x.delays(1, 7); x.undo(); },
                x -> { });
    }

    public static void main(String[] args) {
        runAll(RefusedTest.class);
    }
}
