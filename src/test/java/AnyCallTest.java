import java.util.NoSuchElementException;
import java.util.Random;

/** Any arguments in any state: no call throws but what the document names, and each ends. */
public final class AnyCallTest extends Check {
    private static final int[] EDGES = {Integer.MIN_VALUE, Integer.MIN_VALUE + 1, -20001, -10000, -101, -100, -99, -3,
        -2, -1, 0, 1, 2, 3, 4, 5, 6, 7, 8, 9, 10, 11, 20, 31, 32, 33, 39, 40, 41, 59, 60, 61, 79, 80, 81, 98, 99, 100,
        101, 159, 160, 161, 998, 999, 1000, 9998, 9999, 10000, 19999, 20000, 20001, 65536, Integer.MAX_VALUE - 1,
        Integer.MAX_VALUE};
    private static final String[] ACTS = {"ea0010+050", "ef9999-993", "m000500", "m320000", "i0", "i3", "ec0300+991",
        "m019999", "x", "e", "ea", "m0", "i", "ed0700+1", "i9", "m099999", "eb0400-012"};
    private static final String[] TOLD = {"a0010+050", "f9999-993", "c0300+991", "d0700+000", "b0401-990", "g", "a",
        "a0010+05", "e0500+002"};

    private static final Random CHANCE = new Random(20261118);

    static int any() {
        return EDGES[CHANCE.nextInt(EDGES.length)];
    }

    static int small(int n) {
        return CHANCE.nextInt(8) == 0 ? any() : CHANCE.nextInt(n);
    }

    static int time() {
        return CHANCE.nextInt(8) == 0 ? any() : CHANCE.nextInt(CHANCE.nextBoolean() ? 300 : 10000);
    }

    static String text(String[] of) {
        StringBuilder text = new StringBuilder();
        int n = CHANCE.nextInt(6);
        for (int i = 0; i < n; i++) {
            text.append(of[CHANCE.nextInt(CHANCE.nextInt(3) == 0 ? of.length : 5)]);
        }
        if (CHANCE.nextInt(10) == 0) {
            text.append((char) CHANCE.nextInt(256));
        }
        return text.substring(0, Math.min(80, text.length()));
    }

    static void comes(LateSessions x, int which) {
        switch (which) {
            case 0: x.start(small(5), small(100), small(100), small(10)); break;
            case 1: x.delays(small(4), time()); break;
            case 2: events(x, text(TOLD)); break;
            case 3: x.marks(small(4), time()); break;
            case 4: x.idles(small(4)); break;
            case 5: day(x, text(ACTS)); break;
            case 6: x.undo(); break;
            case 7: x.keep(small(2)); break;
            case 8: x.back(small(2)); break;
            case 9: x.sign(CHANCE.nextInt()); break;
            case 10: x.end(small(80)); break;
            case 11: x.years(CHANCE.nextInt(), small(41)); break;
            case 12: x.sign(any()); x.events(); break;
            case 13: x.sign(any()); x.day(); break;
            default: x.event(small(6), time(), small(100), small(4)); break;
        }
    }

    static void isAsked(LateSessions x, int which) {
        switch (which) {
            case 0: x.at(small(6), time()); break;
            case 1: x.sent(small(4)); break;
            case 2: x.stands(); break;
            case 3: x.closed(small(6)); break;
            case 4: x.kinds(small(6)); break;
            case 5: x.slow(); break;
            case 6: x.span(time(), time()); break;
            case 7: x.taken(); break;
            case 8: x.holds(); break;
            case 9: x.next(); break;
            case 10: x.ahead(time()); break;
            case 11: x.would(small(6), time(), small(100), small(4)); break;
            case 12: x.batch(small(6)); break;
            case 13: x.latest(); break;
            case 14: x.parts(small(6), small(61)); break;
            case 15: x.again(small(100), small(100), small(10)); break;
            case 16: x.without(small(4)); break;
            default: x.count(small(11)); break;
        }
    }

    static void isLookedUp(LateSessions x, int which) {
        try {
            switch (which) {
                case 0: x.source(small(4), small(6)); break;
                case 1: x.session(small(10), small(8)); break;
                case 2: x.message(CHANCE.nextInt(1 + x.count(7)), small(6)); break;
                case 3: x.message(any(), any()); break;
                case 4: x.finals(small(60), small(7)); break;
                case 5: x.input(small(160), small(4)); break;
                default: x.row(small(6)); break;
            }
        } catch (NoSuchElementException due) {
            return;
        }
    }

    static void calls(int n, int inputs) {
        LateSessions x = new LateSessions();
        for (int i = 0; i < n; i++) {
            int part = CHANCE.nextInt(3);
            if (part == 0) {
                comes(x, CHANCE.nextInt(inputs));
            } else if (part == 1) {
                isAsked(x, CHANCE.nextInt(18));
            } else {
                isLookedUp(x, CHANCE.nextInt(7));
            }
        }
    }

    static void any_callsOfEachKind() {
        for (int i = 0; i < 1500; i++) {
            calls(400, 16);
        }
    }

    /** Mostly events: 160 inputs are reached. */
    static void any_callsMostlyEvents() {
        for (int i = 0; i < 500; i++) {
            calls(800, 300);
        }
    }

    /** The 512th call is answered as the first ones are. */
    static void any_512thCall() {
        LateSessions x = new LateSessions();
        for (int i = 0; i < 255; i++) {
            is("an event", x.event(0, 20 + i % 7, 1, 0), 0);
            is("undone", x.undo(), 0);
        }
        is("call 511", x.event(1, 1000, 7, 0), 0);
        is("call 512", x.row(1), 980);
    }

    public static void main(String[] args) {
        runAll(AnyCallTest.class);
    }
}
