/** The edges that promises 32 to 38 name, a test each. */
public final class KeptEdgeTest extends Check {
    private static final int[] FAR = {Integer.MIN_VALUE, Integer.MAX_VALUE};

    // -- promise 32

    static void p32_empty() {
        LateSessions x = started(1, 10, 5, 0);
        int undo = x.count(8);
        is("0", day(x, ""), 0);
        row(x, "nothing", 0, 0);
        is("nothing to undo by it", x.count(8), undo);
    }

    static void p32_emptyWith160Inputs() {
        LateSessions x = withInputs(160);
        is("0", day(x, ""), 0);
        row(x, "nothing", 0, 0);
    }

    static void p32_lettersOfActs() {
        LateSessions x = started(1, 10, 5, 0);
        is("e", day(x, "ea0000+000"), 1);
        is("m", day(x, "m000001"), 1);
        is("i", day(x, "i0"), 1);
        String beside = "dfhjlnEMI0 ";
        for (int k = 0; k < beside.length(); k++) {
            is("" + beside.charAt(k), day(x, beside.charAt(k) + "000001"), -1);
        }
        is("229 is no e", day(x, "\u00e5a0000+000"), -1);
        is("three", x.count(6), 3);
    }

    static void p32_lettersOfKeys() {
        LateSessions x = started(1, 10, 5, 0);
        is("a", day(x, "ea0000+000"), 1);
        is("f", day(x, "ef0000+000"), 1);
        is("g", day(x, "eg0000+000"), -2);
        is("ahead of a", day(x, "e`0000+000"), -2);
        is("A", day(x, "eA0000+000"), -2);
        is("f is 5", x.input(1, 3), 5);
        is("two", x.count(6), 2);
    }

    static void p32_digitsOfAnEvent() {
        String good = "ea0000+000";
        for (int place = 2; place < 10; place++) {
            if (place == 6) {
                continue;
            }
            LateSessions x = started(1, 10, 5, 0);
            StringBuilder text = new StringBuilder(good);
            text.setCharAt(place, ':');
            is(": at " + place, day(x, text.toString()), -1 - place);
            text.setCharAt(place, '/');
            is("/ at " + place, day(x, text.toString()), -1 - place);
            text.setCharAt(place, '9');
            is("9 at " + place, day(x, text.toString()), place == 9 ? 0 : 1);
        }
    }

    static void p32_signsOfAValue() {
        LateSessions x = started(1, 10, 5, 0);
        is("+", day(x, "ea0000+990"), 1);
        is("-", day(x, "eb0000-990"), 1);
        is("*", day(x, "ea0000*990"), -7);
        is(",", day(x, "ea0000,990"), -7);
        is(".", day(x, "ea0000.990"), -7);
        is("99", x.session(0, 4), 20099);
        is("-99", x.session(1, 4), 19901);
    }

    static void p32_digitsOfAMark() {
        String good = "m000000";
        for (int place = 1; place < 7; place++) {
            LateSessions x = started(1, 10, 5, 0);
            StringBuilder text = new StringBuilder(good);
            text.setCharAt(place, ':');
            is(": at " + place, day(x, text.toString()), -1 - place);
            text.setCharAt(place, '/');
            is("/ at " + place, day(x, text.toString()), -1 - place);
            text.setCharAt(place, '1');
            is("1 at " + place, day(x, text.toString()), place == 1 ? 0 : 1);
            int[] due = {0, 0, 10000, 1000, 100, 10, 1};
            is("its mark", x.source(0, 0), due[place]);
        }
    }

    static void p32_digitOfAnIdleOne() {
        LateSessions x = started(2, 10, 5, 0);
        is("/", day(x, "i/"), -2);
        is(":", day(x, "i:"), -2);
        is("1", day(x, "i1"), 1);
        is("idle", x.source(1, 2), 1);
    }

    static void p32_endsTooEarly() {
        String text = "ec0100+121m100150i1";
        for (int n = 0; n <= 19; n++) {
            LateSessions x = started(2, 10, 5, 0);
            int acts = n == 0 ? 0 : n == 10 ? 1 : n == 17 ? 2 : n == 19 ? 3 : -1;
            is("ends at " + n, day(x, text.substring(0, n)), acts >= 0 ? acts : -1 - n);
            is("what came", x.count(6), Math.max(0, acts));
            is("the text is empty", x.count(10), 0);
        }
    }

    static void p32_nothingIsDoneByAMisfitBehind() {
        LateSessions x = started(1, 10, 5, 0);
        int undo = x.count(8);
        is("the third can't stand", day(x, "m000001i0x"), -10);
        is("none came", x.count(6), 0);
        is("nothing to undo", x.count(8), undo);
        is("a misfit behind one that can't be done", day(x, "i9x"), -3);
        is("none came", x.count(6), 0);
    }

    static void p32_sourcesThatThereAreNot() {
        LateSessions x = started(2, 10, 5, 0);
        is("e", day(x, "ea0000+002"), 0);
        row(x, "refused", 1, 0);
        is("m", day(x, "m200001"), 0);
        row(x, "refused", 1, 0);
        is("i", day(x, "i2"), 0);
        row(x, "refused", 1, 0);
        is("e 9", day(x, "ea0000+009"), 0);
        is("m 9", day(x, "m900001"), 0);
        is("i 9", day(x, "i9"), 0);
        is("none came", x.count(6), 0);
        is("there are", day(x, "ea0000+001m100001i1"), 3);
    }

    static void p32_times20000And20001() {
        LateSessions x = started(1, 10, 5, 0);
        is("20001", day(x, "m020001"), 0);
        row(x, "refused", 1, 0);
        is("99999", day(x, "m099999"), 0);
        row(x, "refused", 1, 0);
        is("20000", day(x, "m020000"), 1);
        row(x, "done", 0, 0);
    }

    static void p32_marksNotLess() {
        LateSessions x = started(1, 10, 5, 0);
        is("0", day(x, "m000000"), 0);
        row(x, "refused", 1, 0);
        is("5, then 5", day(x, "m000005m000005m000006"), 1);
        row(x, "refused", 1, 0);
        is("what comes behind is not done", x.source(0, 0), 5);
    }

    static void p32_idleAlready() {
        LateSessions x = started(2, 10, 5, 0);
        is("twice", day(x, "i0i0i1"), 1);
        row(x, "refused", 1, 0);
        is("what comes behind is not done", x.source(1, 2), 0);
    }

    static void p32_160InputsAndOneMore() {
        LateSessions x = withInputs(158);
        is("two of three", day(x, "m100001m100002m100003"), 2);
        row(x, "one could not be", 1, 0);
        is("160", x.count(6), 160);
        is("none of one", day(x, "i1"), 0);
        row(x, "it could not be", 1, 0);
        is("wrong signs all the same", day(x, "ix"), -2);
    }

    static void p32_messagesOfAllThatAreDone() {
        LateSessions x = started(1, 10, 5, 1);
        is("two of three", day(x, "ea0100+000m000111m000111"), 2);
        row(x, "early, taken back, on time", 1, 3);
        is("two", day(x, "ea0111+000i0"), 2);
        row(x, "only of these", 0, 1);
    }

    static void p32_whatTheSignsMean() {
        LateSessions x = started(4, 10, 5, 0);
        is("three", day(x, "ec1234-563m205678i1"), 3);
        input(x, 0, 0, 3, 1234, 2);
        input(x, 1, 1, 2, 5678, -1);
        input(x, 2, 2, 1, 0, -1);
        session(x, 0, 2, 1234, 1234, 1, 19944, 43);
        source(x, 2, 5678, 0, 0, 0, 0);
        source(x, 3, 1234, 0, 0, 1, 0);
        source(x, 1, 0, 0, 1, 0, 0);
    }

    static void p32_40ActsFillTheText() {
        LateSessions x = started(1, 10, 5, 0);
        is("eight events", day(x, "ea0000+000".repeat(8)), 8);
        row(x, "all", 0, 0);
        is("an act of each", day(x, "i0ea0000+000".repeat(6) + "i0"), 13);
        is("the end at 80", day(x, "i0".repeat(39) + "i"), -80);
        is("40 acts are read", day(x, "i0".repeat(40)), 0);
    }

    static void p32_endAt80() {
        LateSessions x = started(1, 10, 5, 0);
        is("80 signs", day(x, "m000001".repeat(10) + "m000001".repeat(2).substring(0, 10)), -81);
        is("none came", x.count(6), 0);
    }

    // -- promise 33

    static void p33_none() {
        LateSessions x = new LateSessions();
        is("none", x.undo(), -1);
        x.delays(0, 1);
        is("one", x.undo(), 0);
        is("none any more", x.undo(), -1);
        is("the delay", x.source(0, 1), 20);
    }

    static void p33_sixAndTheOneBefore() {
        LateSessions x = new LateSessions();
        for (int v = 1; v <= 6; v++) {
            x.delays(0, v);
            is("can be undone", x.count(8), v);
        }
        for (int v = 5; v >= 1; v--) {
            is("left", x.undo(), v);
            is("as it was", x.source(0, 1), v);
        }
        is("the sixth", x.undo(), 0);
        is("as at first", x.source(0, 1), 20);
        is("none", x.undo(), -1);
    }

    static void p33_sevenAndTheOneBefore() {
        LateSessions x = new LateSessions();
        for (int v = 1; v <= 7; v++) {
            x.delays(0, v);
        }
        is("six", x.count(8), 6);
        for (int left = 5; left >= 0; left--) {
            is("left", x.undo(), left);
            is("as it was", x.source(0, 1), left + 1);
        }
        is("the first is not kept", x.undo(), -1);
        is("it stays", x.source(0, 1), 1);
    }

    static void p33_manyTimesRound() {
        LateSessions x = new LateSessions();
        for (int v = 1; v <= 20; v++) {
            x.delays(0, 100 + v);
        }
        for (int k = 1; k <= 3; k++) {
            is("left", x.undo(), 6 - k);
        }
        is("as it was", x.source(0, 1), 117);
        for (int v = 1; v <= 5; v++) {
            x.delays(0, 200 + v);
        }
        is("six", x.count(8), 6);
        int[] due = {204, 203, 202, 201, 117, 116};
        for (int k = 0; k < 6; k++) {
            is("left", x.undo(), 5 - k);
            is("as it was", x.source(0, 1), due[k]);
        }
        is("none", x.undo(), -1);
    }

    static void p33_start() {
        LateSessions x = started(2, 11, 6, 3);
        x.event(0, 100, 1, 0);
        x.start(4, 1, 0, 9);
        is("undone", x.undo(), 4);
        counts(x, 0, 2, 11, 6, 3, 0, 1, 1, 0);
        source(x, 0, 100, 0, 0, 1, 0, 100);
    }

    static void p33_event() {
        LateSessions x = started(1, 10, 5, 1);
        x.event(0, 100, 1, 0);
        x.event(0, 111, 2, 0);
        is("undone", x.undo(), 3);
        counts(x, 4, 100, 1, 1, 1);
        session(x, 0, 0, 100, 100, 1, 20001, 100, 0, 1);
        source(x, 0, 100, 0, 0, 1, 0, 0);
        none("its message", () -> x.message(1, 0));
    }

    static void p33_aDroppedEvent() {
        LateSessions x = started(1, 10, 5, 1);
        x.marks(0, 100);
        x.event(0, 94, 1, 0);
        is("dropped", x.source(0, 4), 1);
        is("undone", x.undo(), 3);
        is("no more", x.source(0, 4), 0);
        is("one input", x.count(6), 1);
    }

    static void p33_marksAndIdles() {
        LateSessions x = started(1, 10, 0, 0);
        x.event(0, 100, 1, 0);
        x.marks(0, 111);
        is("closed", x.closed(0), 1);
        x.idles(0);
        is("idles()", x.undo(), 4);
        is("not idle", x.source(0, 2), 0);
        is("marks()", x.undo(), 3);
        is("not closed", x.closed(0), 0);
        session(x, 0, 0, 100, 100, 1, 20001, 100, 0, 0);
        is("nothing was sent", x.count(7), 0);
    }

    static void p33_eventsAsOne() {
        LateSessions x = new LateSessions();
        events(x, "a0000+000a0000+000a0000+000");
        is("one", x.count(8), 1);
        is("undone", x.undo(), 0);
        is("none came", x.count(6), 0);
    }

    static void p33_eventsOfOneDroppedOne() {
        LateSessions x = started(1, 10, 5, 0);
        x.marks(0, 100);
        is("none is taken", events(x, "a0000+000"), 0);
        is("it came all the same", x.count(8), 4);
        is("undone", x.undo(), 3);
        is("one input", x.count(6), 1);
    }

    static void p33_eventsOfNone() {
        LateSessions x = new LateSessions();
        events(x, "");
        events(x, "x");
        is("none", x.count(8), 0);
    }

    static void p33_dayAsOne() {
        LateSessions x = new LateSessions();
        day(x, "ea0000+000m000001i0");
        is("one", x.count(8), 1);
        is("undone", x.undo(), 0);
        is("none came", x.count(6), 0);
    }

    static void p33_dayOfOneDoneOneNot() {
        LateSessions x = new LateSessions();
        is("one", day(x, "i0i0"), 1);
        is("one to undo", x.count(8), 1);
        is("undone", x.undo(), 0);
        is("not idle", x.source(0, 2), 0);
    }

    static void p33_dayOfNoneDone() {
        LateSessions x = new LateSessions();
        is("none", day(x, "i1i0"), 0);
        is("none to undo", x.count(8), 0);
    }

    static void p33_suchAsWereDone() {
        LateSessions x = new LateSessions();
        x.start(0, 1, 1, 1);
        x.delays(0, 20);
        x.delays(0, 1000);
        x.event(6, 0, 0, 0);
        x.marks(0, 0);
        x.marks(0, 20001);
        x.idles(1);
        is("none was done", x.count(8), 0);
        is("refused", x.undo(), -1);
    }

    static void p33_othersAreNotUndone() {
        LateSessions x = new LateSessions();
        x.sign(0);
        x.end(2);
        x.keep(0);
        x.years(1, 5);
        x.would(0, 0, 0, 0);
        x.again(10, 5, 0);
        is("none", x.undo(), -1);
        is("the text stays", x.count(10), 2);
    }

    static void p33_backForgets() {
        LateSessions x = new LateSessions();
        x.delays(0, 1);
        x.keep(0);
        x.delays(0, 2);
        no("refused", x.back(1));
        no("refused", x.back(2));
        is("two still", x.count(8), 2);
        yes("back", x.back(0));
        is("none", x.count(8), 0);
        is("refused", x.undo(), -1);
        is("as it was kept", x.source(0, 1), 1);
    }

    static void p33_sixAfterBack() {
        LateSessions x = new LateSessions();
        for (int v = 1; v <= 4; v++) {
            x.delays(0, v);
        }
        x.keep(0);
        x.back(0);
        for (int v = 11; v <= 17; v++) {
            x.delays(0, v);
        }
        int[] due = {16, 15, 14, 13, 12, 11};
        for (int k = 0; k < 6; k++) {
            is("left", x.undo(), 5 - k);
            is("as it was", x.source(0, 1), due[k]);
        }
        is("none", x.undo(), -1);
    }

    static void p33_leavesRoomForInputs() {
        LateSessions x = withInputs(160);
        is("no more", x.event(0, 500, 1, 0), -3);
        x.undo();
        is("159", x.count(6), 159);
        is("one more", x.event(0, 500, 1, 0), 0);
        is("no more", x.event(0, 500, 1, 0), -3);
    }

    static void p33_messagesFinalsMelted() {
        LateSessions x = started(1, 10, 50, 1);
        x.event(3, 100, 7, 0);
        x.event(3, 120, 8, 0);
        x.event(3, 110, 9, 0);
        x.marks(0, 200);
        x.start(1, 10, 50, 1);
        x.delays(0, 0);
        day(x, "ea0200+010ea0220+010ea0240+010ea0210+010ea0230+010m000400");
        is("three undone", x.undo() + x.undo() + x.undo(), 5 + 4 + 3);
        message(x, 0, 0, 3, 100, 100, 1, 20007);
        message(x, 2, 3, 3, 100, 100, 1, 20007);
        message(x, 3, 1, 3, 100, 100, 1, 20007);
        finals(x, 0, 3, 100, 120, 3, 20024, 108, 1);
        input(x, 0, 0, 0, 100, 3);
        x.taken();
        row(x, "one late, one melted", 1, 0, 1);
    }

    /** The latest 60 messages and the latest 40 that were closed are those of that time. */
    static void p33_theLatest60And40() {
        LateSessions x = started(1, 10, 0, 0);
        for (int i = 0; i < 61; i++) {
            x.event(i % 6, 20 * i, 1, 0);
        }
        is("60 are sent", x.count(7), 60);
        x.event(5, 1220, 1, 0);
        none("message 0", () -> x.message(0, 0));
        none("final 20", () -> x.finals(20, 0));
        x.undo();
        message(x, 0, 1, 0, 0, 0, 1, 20001);
        finals(x, 20, 2, 400, 400, 1, 20001, 100, 1);
        none("message 60", () -> x.message(60, 0));
        none("final 60", () -> x.finals(60, 0));
    }

    // -- promise 34

    /** What the draws of a seed do, by event() itself. */
    static void drawn(LateSessions x, LateSessions twin, int seed, int n, int come) {
        int sources = twin.count(0);
        int before = twin.count(7);
        int r = seed;
        int taken = 0;
        for (int k = 0; k < come; k++) {
            int[] of = {6, 100, 199, sources};
            for (int d = 0; d < 4; d++) {
                r = r * 1103515245 + 12345;
                of[d] = (int) ((r & 0xffffffffL) / 65536 % of[d]);
            }
            int time = Math.max(0, Math.min(9999, twin.count(4) - twin.count(2) + of[1]));
            taken += twin.event(of[0], time, of[2] - 99, of[3]) == 2 ? 0 : 1;
        }
        is("taken of seed " + seed, x.years(seed, n), taken);
        row(x, "years of seed " + seed, twin.count(7) - before, twin.count(4));
    }

    static void p34_n1And40() {
        LateSessions x = new LateSessions();
        is("0", x.years(7, 0), -1);
        is("-1", x.years(7, -1), -1);
        is("41", x.years(7, 41), -1);
        for (int v : FAR) {
            is("far out", x.years(7, v), -1);
        }
        is("no row", x.count(9), 0);
        drawn(x, new LateSessions(), 7, 1, 1);
        drawn(x, new LateSessions(), 7, 40, 40);
        drawn(x, new LateSessions(), 7, 39, 39);
    }

    static void p34_asManyAsThereMayBe() {
        drawn(withInputs(120), withInputs(120), 5, 40, 40);
        drawn(withInputs(121), withInputs(121), 5, 40, 39);
        drawn(withInputs(159), withInputs(159), 5, 40, 1);
        drawn(withInputs(159), withInputs(159), 5, 1, 1);
        drawn(withInputs(160), withInputs(160), 5, 40, 0);
        is("none of 160", withInputs(160).years(5, 1), 0);
    }

    static void p34_seeds() {
        int[] seeds = {0, 1, -1, 12345, Integer.MAX_VALUE, Integer.MIN_VALUE, 1 << 16, 0x55555555};
        for (int seed : seeds) {
            drawn(started(3, 10, 5, 2), started(3, 10, 5, 2), seed, 40, 40);
            drawn(started(4, 3, 60, 1), started(4, 3, 60, 1), seed, 25, 25);
        }
    }

    /** By delay 0 and one event, progress then is the time that was drawn. */
    static void p34_time0AtLeast() {
        LateSessions x = started(1, 10, 99, 0);
        for (int seed = 0; seed < 100; seed++) {
            is("taken", x.years(seed, 1), 1);
            is("0 less 99 and 99 at most, of seed " + seed, x.row(1), 0);
        }
    }

    static void p34_timeOfTheDraw() {
        LateSessions x = started(1, 10, 98, 0);
        int ones = 0;
        for (int seed = 0; seed < 200; seed++) {
            int r = seed * 1103515245 + 12345;
            r = r * 1103515245 + 12345;
            int draw = (r >>> 16) % 100;
            is("taken", x.years(seed, 1), 1);
            is("progress of seed " + seed, x.row(1), draw == 99 ? 1 : 0);
            ones += draw == 99 ? 1 : 0;
        }
        yes("some draws are 99", ones > 0);
    }

    static void p34_time9999AtMost() {
        LateSessions x = started(1, 10, 0, 0);
        x.event(0, 9950, 1, 0);
        int most = 0;
        for (int seed = 0; seed < 100; seed++) {
            int r = seed * 1103515245 + 12345;
            r = r * 1103515245 + 12345;
            int due = Math.min(9999, 9950 + (r >>> 16) % 100);
            is("taken", x.years(seed, 1), 1);
            is("progress of seed " + seed, x.row(1), due);
            most += due == 9999 ? 1 : 0;
        }
        yes("some are at most", most > 10);
    }

    static void p34_beyond9999TheyAreDropped() {
        LateSessions x = started(1, 10, 99, 0);
        x.marks(0, 10098);
        is("9999 is 99 less", x.years(3, 40), 40);
        x.marks(0, 10099);
        is("9999 is 100 less", x.years(3, 40), 0);
        row(x, "none", 0, 10099);
    }

    static void p34_valuesByMost() {
        for (int seed = 0; seed < 30; seed++) {
            drawn(started(1, 99, 99, 1), started(1, 99, 99, 1), seed, 40, 40);
        }
    }

    static LateSessions afterMessages() {
        LateSessions x = started(2, 10, 5, 1);
        x.event(0, 100, 1, 0);
        x.event(0, 104, 1, 0);
        x.event(0, 100, 1, 1);
        return x;
    }

    static void p34_onlyWhatTheseSend() {
        is("five were sent", afterMessages().count(7), 5);
        drawn(afterMessages(), afterMessages(), 11, 20, 20);
    }

    static void p34_theyAreForgotten() {
        LateSessions x = started(2, 10, 5, 1);
        x.event(0, 100, 1, 0);
        x.event(0, 100, 1, 1);
        int undo = x.count(8);
        x.years(9, 40);
        counts(x, 4, 100, 1, 2, 3);
        is("undo", x.count(8), undo);
        is("no input", x.taken(), 2);
        source(x, 0, 100, 0, 0, 1, 0, 0);
        none("no message", () -> x.message(3, 0));
        is("the same once more", x.years(9, 40), x.years(9, 40));
    }

    // -- promise 35

    static void p35_numbers0And1() {
        LateSessions x = new LateSessions();
        yes("0", x.keep(0));
        yes("1", x.keep(1));
        no("2", x.keep(2));
        no("-1", x.keep(-1));
        for (int v : FAR) {
            no("far out", x.keep(v));
        }
        no("32 is not 0", x.keep(32));
    }

    static void p35_oneDoesNotKeepTheOther() {
        LateSessions x = new LateSessions();
        x.keep(0);
        no("1", x.back(1));
        yes("0", x.back(0));
        LateSessions y = new LateSessions();
        y.keep(1);
        no("0", y.back(0));
        yes("1", y.back(1));
    }

    static void p35_latestOfANumber() {
        LateSessions x = new LateSessions();
        x.delays(0, 1);
        x.keep(0);
        x.delays(0, 2);
        x.keep(1);
        x.delays(0, 3);
        x.keep(0);
        x.delays(0, 4);
        x.back(1);
        is("1", x.source(0, 1), 2);
        x.back(0);
        is("0", x.source(0, 1), 3);
        x.back(1);
        is("1 still", x.source(0, 1), 2);
    }

    static void p35_refusedKeepsNothing() {
        LateSessions x = new LateSessions();
        no("2", x.keep(2));
        no("-1", x.keep(-1));
        no("0 is not kept", x.back(0));
        no("1 is not kept", x.back(1));
    }

    static void p35_staysThroughStartAndUndo() {
        LateSessions x = started(2, 10, 5, 0);
        x.keep(0);
        x.start(1, 1, 1, 1);
        x.undo();
        x.undo();
        yes("back", x.back(0));
        is("two sources", x.count(0), 2);
        is("their delays", x.source(1, 1), 0);
    }

    // -- promise 36

    static void p36_nothingKept() {
        LateSessions x = new LateSessions();
        x.delays(0, 1);
        no("0", x.back(0));
        no("1", x.back(1));
        no("2", x.back(2));
        no("-1", x.back(-1));
        for (int v : FAR) {
            no("far out", x.back(v));
        }
        is("one to undo still", x.count(8), 1);
        is("the delay stays", x.source(0, 1), 1);
    }

    static void p36_numbersBeyond() {
        LateSessions x = new LateSessions();
        x.keep(0);
        x.keep(1);
        x.delays(0, 1);
        no("2", x.back(2));
        no("-1", x.back(-1));
        no("32 is not 0", x.back(32));
        no("33 is not 1", x.back(33));
        is("the delay stays", x.source(0, 1), 1);
    }

    static void p36_asItWasKept() {
        LateSessions x = started(2, 10, 5, 1);
        x.event(0, 100, 7, 0);
        x.event(0, 120, 8, 1);
        x.marks(0, 111);
        x.event(1, 90, 8, 0);
        x.idles(1);
        x.keep(0);
        x.start(4, 1, 0, 0);
        yes("back", x.back(0));
        counts(x, 0, 2, 10, 5, 1, 111, 2, 5, 4, 0);
        source(x, 0, 111, 0, 0, 2, 1, 0);
        source(x, 1, 120, 0, 1, 1, 0, 9);
        session(x, 0, 0, 100, 100, 1, 20007, 106, 1, 1);
        session(x, 1, 0, 120, 120, 1, 20008, 107, 0, 1);
        input(x, 3, 0, 0, 90, 1);
        message(x, 3, 1, 0, 100, 100, 1, 20007);
    }

    static void p36_moreThanOnce() {
        LateSessions x = new LateSessions();
        x.event(0, 5, 1, 0);
        x.keep(1);
        for (int i = 0; i < 3; i++) {
            x.event(0, 6, 1, 0);
            yes("back", x.back(1));
            is("one input", x.count(6), 1);
        }
    }

    /** The latest 60 messages and the latest 40 that were closed are those of that time. */
    static void p36_theLatest60And40() {
        LateSessions x = started(1, 10, 0, 0);
        for (int i = 0; i < 61; i++) {
            x.event(i % 6, 20 * i, 1, 0);
        }
        x.keep(0);
        for (int i = 61; i < 90; i++) {
            x.event(5 - i % 6, 20 * i, 2, 0);
        }
        yes("back", x.back(0));
        is("60 were sent", x.count(7), 60);
        message(x, 0, 1, 0, 0, 0, 1, 20001);
        message(x, 25, 1, 1, 500, 500, 1, 20001);
        finals(x, 20, 2, 400, 400, 1, 20001, 100, 1);
        finals(x, 59, 5, 1180, 1180, 1, 20001, 100, 1);
        none("message 60", () -> x.message(60, 0));
        none("final 60", () -> x.finals(60, 0));
        none("final 19", () -> x.finals(19, 0));
    }

    // -- promise 37

    static void p37_whats0And10() {
        LateSessions x = new LateSessions();
        x.sign(0);
        is("0", x.count(0), 1);
        is("10", x.count(10), 4);
        is("11", x.count(11), -1);
        is("-1", x.count(-1), -1);
        for (int v : FAR) {
            is("far out", x.count(v), -1);
        }
    }

    static void p37_each() {
        LateSessions x = started(3, 99, 98, 1);
        x.event(0, 200, 1, 0);
        x.event(1, 201, 1, 1);
        x.event(1, 202, 1, 2);
        x.sign(0);
        x.end(3);
        x.kinds(0);
        counts(x, 0, 3, 99, 98, 1, 200, 2, 3, 4, 6, 5, 3);
    }

    static void p37_messagesBeyond60() {
        LateSessions x = started(2, 10, 5, 1);
        for (int i = 0; i < 62; i++) {
            x.event(0, 11 * i, 1, 0);
        }
        is("62", x.count(7), 62);
    }

    static void p37_tellsNoRow() {
        LateSessions x = new LateSessions();
        x.taken();
        x.count(0);
        x.count(11);
        is("three still", x.count(9), 3);
    }

    // -- promise 38

    static void p38_numbers() {
        LateSessions x = new LateSessions();
        none("0 of none", () -> x.row(0));
        x.sent(0);
        is("0 of one", x.row(0), 0);
        none("1 of one", () -> x.row(1));
        x.again(10, 5, 0);
        is("5 of six", x.row(5), 0);
        none("6 of six", () -> x.row(6));
        none("-1", () -> x.row(-1));
        for (int v : FAR) {
            none("far out", () -> x.row(v));
        }
    }

    static void p38_aShorterRow() {
        LateSessions x = new LateSessions();
        x.again(10, 5, 0);
        x.taken();
        is("2 of three", x.row(2), 0);
        none("3 of three", () -> x.row(3));
    }

    static void p38_staysThroughOthers() {
        LateSessions x = started(2, 10, 5, 0);
        x.event(0, 100, 1, 0);
        x.taken();
        x.sign(0);
        x.end(0);
        x.source(0, 0);
        x.session(0, 0);
        x.input(0, 0);
        x.parts(0, 1);
        x.keep(0);
        x.undo();
        x.back(0);
        x.count(0);
        x.start(1, 10, 5, 0);
        x.delays(0, 0);
        row(x, "taken()", 0, 0, 0);
    }

    public static void main(String[] args) {
        runAll(KeptEdgeTest.class);
    }
}
