/** The edges that promises 1 to 9 name, a test each. */
public final class ComesEdgeTest extends Check {

    // -- promise 1

    static void p01_allAsAtFirst() {
        LateSessions x = new LateSessions();
        counts(x, 0, 1, 10, 5, 0, 0, 0, 0, 0, 0, 0, 0);
        source(x, 0, 0, 20, 0, 0, 0, 0);
    }

    static void p01_oneSourceAlone() {
        LateSessions x = new LateSessions();
        none("a second one", () -> x.source(1, 0));
        is("an event of it", x.event(0, 0, 0, 1), -1);
        is("its mark", x.marks(1, 1), -1);
    }

    static void p01_nothingWasSentNorCame() {
        LateSessions x = new LateSessions();
        none("a message", () -> x.message(0, 0));
        none("a final one", () -> x.finals(0, 0));
        none("a session", () -> x.session(0, 0));
        none("an input", () -> x.input(0, 0));
    }

    static void p01_nothingToUndoNothingKept() {
        LateSessions x = new LateSessions();
        is("undo()", x.undo(), -1);
        no("back(0)", x.back(0));
        no("back(1)", x.back(1));
    }

    static void p01_theTextIsEmpty() {
        LateSessions x = new LateSessions();
        no("end(1)", x.end(1));
        is("events()", x.events(), 0);
        is("day()", x.day(), 0);
    }

    // -- promise 2

    static void p02_80SignsAndOneMore() {
        LateSessions x = new LateSessions();
        for (int i = 1; i <= 20; i++) {
            is("sign " + i, x.sign(i), 4 * i);
        }
        is("more than 80", x.sign(21), -1);
        is("80 stay", x.count(10), 80);
        yes("all 80 are there", x.end(80));
    }

    static void p02_76And77Signs() {
        LateSessions x = new LateSessions();
        for (int i = 0; i < 20; i++) {
            x.sign(0);
        }
        x.end(77);
        is("77 and 4", x.sign(0), -1);
        is("77 stay", x.count(10), 77);
        x.end(76);
        is("76 and 4", x.sign(0), 80);
    }

    static void p02_refusedLeavesTheSigns() {
        LateSessions x = started(1, 10, 5, 0);
        for (int i = 0; i < 20; i++) {
            x.sign(0);
        }
        write(x, "m000001m000002m000003m000004m000005m000006m000007m000008m000009m000010i0xxxxxxxx");
        is("refused", x.sign(0x69306930), -1);
        x.end(72);
        is("eleven acts", x.day(), 11);
    }

    static void p02_highestByteFirst() {
        LateSessions x = new LateSessions();
        is("m000", x.sign(0x6d303030), 4);
        is("123", x.sign(0x31323300), 8);
        yes("seven of them", x.end(7));
        is("one act", x.day(), 1);
        is("the mark", x.source(0, 0), 123);
    }

    static void p02_highestBitIsNoSign() {
        LateSessions x = new LateSessions();
        is("225 is no a", x.sign(0xe1303030), 4);
        is("it can't stand", x.events(), -1);
        is("all bits", x.sign(-1), 4);
        is("it can't stand", x.day(), -1);
    }

    static void p02_comesBehindWhatIsCut() {
        LateSessions x = new LateSessions();
        x.sign(0x6d303030);
        x.sign(0x39393939);
        x.end(4);
        x.sign(0x31323300);
        x.end(7);
        is("one act", x.day(), 1);
        is("the mark", x.source(0, 0), 123);
    }

    // -- promise 3

    static void p03_ofAnEmptyOne() {
        LateSessions x = new LateSessions();
        yes("0", x.end(0));
        no("1", x.end(1));
        no("below 0", x.end(-1));
    }

    static void p03_notSoMany() {
        LateSessions x = new LateSessions();
        x.sign(0);
        no("5 of 4", x.end(5));
        is("4 stay", x.count(10), 4);
        yes("4 of 4", x.end(4));
        is("4 still", x.count(10), 4);
    }

    static void p03_below0() {
        LateSessions x = new LateSessions();
        x.sign(0);
        no("-1", x.end(-1));
        no("the least", x.end(Integer.MIN_VALUE));
        is("4 stay", x.count(10), 4);
    }

    static void p03_toNone() {
        LateSessions x = new LateSessions();
        x.sign(0);
        yes("0 of 4", x.end(0));
        is("none", x.count(10), 0);
        no("what is cut does not come again", x.end(1));
    }

    static void p03_80() {
        LateSessions x = new LateSessions();
        for (int i = 0; i < 20; i++) {
            x.sign(0);
        }
        no("81", x.end(81));
        no("the most", x.end(Integer.MAX_VALUE));
        yes("80", x.end(80));
        yes("79", x.end(79));
        no("80 no more", x.end(80));
    }

    // -- promise 4

    static void p04_sources1And4() {
        LateSessions x = new LateSessions();
        is("4", x.start(4, 10, 5, 0), 4);
        source(x, 3, 0, 20, 0, 0, 0, 0);
        none("no fifth", () -> x.source(4, 0));
        is("5", x.start(5, 10, 5, 0), -1);
        is("1", x.start(1, 10, 5, 0), 1);
        none("no second", () -> x.source(1, 0));
        is("0", x.start(0, 10, 5, 0), -1);
        is("1 stays", x.count(0), 1);
    }

    static void p04_gap1And99() {
        LateSessions x = new LateSessions();
        is("99", x.start(1, 99, 5, 0), 1);
        is("100", x.start(1, 100, 5, 0), -1);
        is("99 stays", x.count(1), 99);
        is("1", x.start(1, 1, 5, 0), 1);
        is("0", x.start(1, 0, 5, 0), -1);
        is("1 stays", x.count(1), 1);
    }

    static void p04_lateness0And99() {
        LateSessions x = new LateSessions();
        is("99", x.start(1, 10, 99, 0), 1);
        is("100", x.start(1, 10, 100, 0), -1);
        is("99 stays", x.count(2), 99);
        is("0", x.start(1, 10, 0, 0), 1);
        is("-1", x.start(1, 10, -1, 0), -1);
        is("0 stays", x.count(2), 0);
    }

    static void p04_early0And9() {
        LateSessions x = new LateSessions();
        is("9", x.start(1, 10, 5, 9), 1);
        is("10", x.start(1, 10, 5, 10), -1);
        is("9 stays", x.count(3), 9);
        is("0", x.start(1, 10, 5, 0), 1);
        is("-1", x.start(1, 10, 5, -1), -1);
        is("0 stays", x.count(3), 0);
    }

    static void p04_allAnew() {
        LateSessions x = started(2, 10, 50, 1);
        x.event(0, 100, 7, 0);
        x.event(0, 200, 7, 1);
        x.marks(0, 300);
        x.event(1, 149, 7, 1);
        x.event(2, 220, 7, 1);
        x.event(2, 240, 7, 1);
        x.event(2, 230, 7, 1);
        x.event(2, 239, 7, 1);
        x.idles(0);
        x.taken();
        row(x, "late, dropped, melted", 2, 1, 1);
        x.start(2, 10, 5, 1);
        counts(x, 0, 2, 10, 5, 1, 0, 0, 0, 0);
        source(x, 0, 0, 20, 0, 0, 0, 0);
        source(x, 1, 0, 20, 0, 0, 0, 0);
        is("taken", x.taken(), 0);
        row(x, "taken", 0, 0, 0);
        is("stands", x.stands(), 0);
        row(x, "stands", 0, 0);
        is("latest", x.latest(), 0);
        row(x, "latest", -1);
        none("messages", () -> x.message(0, 0));
        none("finals", () -> x.finals(0, 0));
        none("inputs", () -> x.input(0, 0));
        none("sessions", () -> x.session(0, 0));
        for (int key = 0; key < 6; key++) {
            is("closed", x.closed(key), 0);
            row(x, "closed", 0, 0, -1);
            is("kinds", x.kinds(key), 0);
            row(x, "kinds", 0, 0, 0, 0, 0);
        }
    }

    static void p04_numbersBeginAt0Again() {
        LateSessions x = started(1, 10, 0, 1);
        x.event(3, 100, 1, 0);
        x.event(3, 200, 1, 0);
        x.start(1, 10, 0, 1);
        x.delays(0, 0);
        x.event(4, 50, 2, 0);
        message(x, 0, 0, 4, 50, 50, 1, 20002);
        x.marks(0, 70);
        finals(x, 0, 4, 50, 50, 1, 20002, 101, 1);
        input(x, 0, 0, 0, 50, 4);
    }

    // -- promise 5

    static void p05_delay0And999() {
        LateSessions x = new LateSessions();
        is("999", x.delays(0, 999), 20);
        is("1000", x.delays(0, 1000), -1);
        is("999 stays", x.source(0, 1), 999);
        is("0", x.delays(0, 0), 999);
        is("-1", x.delays(0, -1), -1);
        is("0 stays", x.source(0, 1), 0);
    }

    static void p05_itIsSo() {
        LateSessions x = new LateSessions();
        is("20", x.delays(0, 20), -2);
        is("nothing to undo", x.count(8), 0);
        is("19", x.delays(0, 19), 20);
        is("19 once more", x.delays(0, 19), -2);
        is("one to undo", x.count(8), 1);
    }

    static void p05_thereAreInputs() {
        LateSessions x = new LateSessions();
        is("none yet", x.delays(0, 30), 20);
        x.event(0, 0, 0, 0);
        is("one", x.delays(0, 20), -3);
        is("it stays", x.source(0, 1), 30);
        is("it is so", x.delays(0, 30), -2);
        x.undo();
        is("none any more", x.delays(0, 20), 30);
    }

    static void p05_noSuchSource() {
        LateSessions x = new LateSessions();
        x.start(4, 10, 5, 0);
        is("3", x.delays(3, 0), 20);
        is("4", x.delays(4, 0), -1);
        is("-1", x.delays(-1, 0), -1);
        x.start(1, 10, 5, 0);
        is("1 of one", x.delays(1, 0), -1);
        is("0 of one", x.delays(0, 0), 20);
    }

    // -- promise 6

    static void p06_keys0And5() {
        LateSessions x = started(1, 10, 5, 0);
        is("5", x.event(5, 0, 0, 0), 0);
        is("6", x.event(6, 0, 0, 0), -1);
        is("0", x.event(0, 0, 0, 0), 0);
        is("-1", x.event(-1, 0, 0, 0), -1);
        is("two came", x.count(6), 2);
    }

    static void p06_times0And9999() {
        LateSessions x = started(1, 10, 5, 0);
        is("0", x.event(0, 0, 0, 0), 0);
        is("-1", x.event(0, -1, 0, 0), -1);
        is("9999", x.event(0, 9999, 0, 0), 0);
        is("10000", x.event(0, 10000, 0, 0), -1);
        is("two came", x.count(6), 2);
        is("progress", x.count(4), 9999);
    }

    static void p06_valuesMinus99And99() {
        LateSessions x = started(1, 10, 5, 0);
        is("-99", x.event(0, 0, -99, 0), 0);
        is("-100", x.event(0, 0, -100, 0), -1);
        is("99", x.event(1, 0, 99, 0), 0);
        is("100", x.event(1, 0, 100, 0), -1);
        is("the sum of a", x.session(0, 4), 19901);
        is("the most of a", x.session(0, 5), 0);
        is("the sum of b", x.session(1, 4), 20099);
        is("the most of b", x.session(1, 5), 198);
    }

    static void p06_sources() {
        LateSessions x = started(3, 10, 5, 0);
        is("2", x.event(0, 0, 0, 2), 0);
        is("3", x.event(0, 0, 0, 3), -1);
        is("0", x.event(0, 0, 0, 0), 0);
        is("-1", x.event(0, 0, 0, -1), -1);
        is("two came", x.count(6), 2);
    }

    static void p06_farOut() {
        LateSessions x = started(1, 10, 5, 0);
        int[] far = {Integer.MIN_VALUE, Integer.MAX_VALUE};
        for (int v : far) {
            is("key", x.event(v, 0, 0, 0), -1);
            is("time", x.event(0, v, 0, 0), -1);
            is("value", x.event(0, 0, v, 0), -1);
            is("source", x.event(0, 0, 0, v), -1);
        }
        is("none came", x.count(6), 0);
    }

    static void p06_160InputsAndOneMore() {
        LateSessions x = withInputs(159);
        is("the 160th", x.event(0, 200, 1, 0), 0);
        is("one more", x.event(0, 200, 1, 0), -3);
        is("wrong ones are wrong all the same", x.event(0, 10000, 1, 0), -1);
        is("160", x.count(6), 160);
        input(x, 159, 0, 0, 200, 0);
    }

    static void p06_rowOfMessagesAndProgress() {
        LateSessions x = started(1, 10, 5, 1);
        x.event(0, 100, 1, 0);
        row(x, "an early one", 1, 100);
        x.event(0, 105, 1, 0);
        row(x, "taken back, told anew", 2, 105);
        x.event(1, 120, 1, 0);
        row(x, "an early one, a's taken back and on time", 3, 120);
        x.event(0, 110, 1, 0);
        row(x, "dropped: none", 0, 120);
    }

    // -- promise 7

    static void p07_empty() {
        LateSessions x = started(1, 10, 5, 0);
        x.marks(0, 7);
        int undo = x.count(8);
        is("0", events(x, ""), 0);
        row(x, "an empty one", 0, 7);
        is("nothing to undo by it", x.count(8), undo);
    }

    static void p07_emptyWith160Inputs() {
        LateSessions x = withInputs(160);
        is("0", events(x, ""), 0);
        row(x, "an empty one", 0, 0);
    }

    static void p07_lettersAToF() {
        LateSessions x = started(1, 10, 5, 0);
        is("a", events(x, "a0000+000"), 1);
        is("f", events(x, "f0000+000"), 1);
        is("g", events(x, "g0000+000"), -1);
        is("ahead of a", events(x, "`0000+000"), -1);
        is("A", events(x, "A0000+000"), -1);
        is("225", events(x, "\u00e10000+000"), -1);
        is("two came", x.count(6), 2);
        is("a is 0", x.input(0, 3), 0);
        is("f is 5", x.input(1, 3), 5);
    }

    static void p07_digits0To9() {
        for (int place = 1; place <= 4; place++) {
            LateSessions x = started(1, 10, 5, 0);
            StringBuilder text = new StringBuilder("a0000+000");
            text.setCharAt(place, '9');
            is("9 at " + place, events(x, text.toString()), 1);
            text.setCharAt(place, ':');
            is(": at " + place, events(x, text.toString()), -1 - place);
            text.setCharAt(place, '/');
            is("/ at " + place, events(x, text.toString()), -1 - place);
            is("one came", x.count(6), 1);
            int[] ten = {0, 9000, 900, 90, 9};
            is("its time", x.input(0, 2), ten[place]);
        }
    }

    static void p07_signsOfAValue() {
        LateSessions x = started(1, 10, 5, 0);
        is("+", events(x, "a0000+990"), 1);
        is("-", events(x, "b0000-990"), 1);
        is("*", events(x, "a0000*990"), -6);
        is(",", events(x, "a0000,990"), -6);
        is(".", events(x, "a0000.990"), -6);
        is("a digit", events(x, "a00000990"), -6);
        is("99", x.session(0, 4), 20099);
        is("-99", x.session(1, 4), 19901);
    }

    static void p07_digitsOfAValue() {
        LateSessions x = started(1, 10, 5, 0);
        is("10", events(x, "a0000+100"), 1);
        is("01", events(x, "b0000+010"), 1);
        is(":0", events(x, "a0000+:00"), -7);
        is("/0", events(x, "a0000+/00"), -7);
        is("0:", events(x, "a0000+0:0"), -8);
        is("0/", events(x, "a0000+0/0"), -8);
        is("10", x.session(0, 4), 20010);
        is("1", x.session(1, 4), 20001);
    }

    static void p07_minus0() {
        LateSessions x = started(1, 10, 5, 0);
        is("-00", events(x, "a0000-000"), 1);
        is("it is 0", x.session(0, 4), 20000);
    }

    static void p07_digitOfASource() {
        LateSessions x = started(3, 10, 5, 0);
        is("2", events(x, "a0000+002"), 1);
        is("3: there is not", events(x, "a0000+003"), -9);
        is("9: there is not", events(x, "a0000+009"), -9);
        is("/", events(x, "a0000+00/"), -9);
        is("one came", x.count(6), 1);
        is("its source", x.input(0, 1), 2);
        LateSessions y = started(4, 10, 5, 0);
        is("3", events(y, "a0000+003"), 1);
        is("4: there is not", events(y, "a0000+004"), -9);
    }

    static void p07_endsTooEarly() {
        String text = "a0100+050f0120-990";
        for (int n = 0; n <= 18; n++) {
            LateSessions x = started(1, 10, 50, 0);
            int due = n % 9 == 0 ? n / 9 : -1 - n;
            is("ends at " + n, events(x, text.substring(0, n)), due);
            is("what came", x.count(6), n % 9 == 0 ? n / 9 : 0);
            is("the text is empty", x.count(10), 0);
        }
    }

    static void p07_nothingComesByAMisfitBehind() {
        LateSessions x = started(1, 10, 5, 0);
        int undo = x.count(8);
        is("the second can't stand", events(x, "a0100+050x"), -10);
        is("none came", x.count(6), 0);
        is("nothing to undo", x.count(8), undo);
        is("no session", x.count(5), 0);
    }

    static void p07_signsBetweenCantStand() {
        LateSessions x = started(1, 10, 5, 0);
        is("a blank", events(x, "a0100+050 a0100+050"), -10);
        is("a sign 0", events(x, "a0100+050\u0000"), -10);
    }

    static void p07_eightFillTheText() {
        LateSessions x = started(1, 10, 5, 0);
        is("72 signs", events(x, "a0000+010".repeat(8)), 8);
        is("80 signs end too early", events(x, "a0000+010".repeat(8) + "a0000+01"), -81);
        is("eight came", x.count(6), 8);
    }

    static void p07_160InputsAndOneMore() {
        LateSessions x = withInputs(158);
        is("161", events(x, "a0000+000".repeat(3)), -3);
        is("none came", x.count(6), 158);
        is("160", events(x, "a0000+000".repeat(2)), 2);
        is("160 came", x.count(6), 160);
        is("161", events(x, "a0000+000"), -3);
    }

    static void p07_aMisfitWith160Inputs() {
        LateSessions x = withInputs(160);
        is("it can't stand", events(x, "a0000+002"), -9);
        is("its end", events(x, "a0000+00"), -9);
    }

    static void p07_onlyTakenOnesCount() {
        LateSessions x = started(1, 10, 5, 0);
        is("dropped, late, on time", events(x, "a0100+000a0094+000a0095+000a0100+000"), 3);
        row(x, "none sent", 0, 100);
        is("all came", x.count(6), 4);
    }

    static void p07_oneByOne() {
        LateSessions x = started(1, 10, 5, 1);
        is("three", events(x, "a0100+010a0105+010b0116+010"), 3);
        row(x, "three early ones, two taken back, one on time", 6, 116);
        message(x, 1, 3, 0, 100, 100, 1, 20001);
        message(x, 5, 1, 0, 100, 105, 2, 20002);
    }

    static void p07_onlyWhatTheseSend() {
        LateSessions x = started(1, 10, 5, 1);
        x.event(0, 100, 1, 0);
        is("one was sent", x.count(7), 1);
        events(x, "b0100+000");
        row(x, "one more", 1, 100);
    }

    // -- promise 8

    static void p08_marks0And20000() {
        LateSessions x = started(2, 10, 5, 0);
        is("0: it is not less", x.marks(0, 0), -2);
        is("-1", x.marks(0, -1), -1);
        is("1", x.marks(0, 1), 0);
        is("20001", x.marks(0, 20001), -1);
        is("1 stays", x.source(0, 0), 1);
        is("20000", x.marks(0, 20000), 0);
        is("20000 stands", x.source(0, 0), 20000);
        is("20000 once more", x.marks(0, 20000), -2);
        is("two inputs", x.count(6), 2);
    }

    static void p08_notLessThanT() {
        LateSessions x = started(2, 10, 5, 0);
        x.marks(0, 50);
        is("as much", x.marks(0, 50), -2);
        is("less", x.marks(0, 49), -2);
        is("more", x.marks(0, 51), 0);
        is("two inputs", x.count(6), 2);
    }

    static void p08_sources() {
        LateSessions x = started(3, 10, 5, 0);
        is("2", x.marks(2, 5), 0);
        is("3", x.marks(3, 5), -1);
        is("-1", x.marks(-1, 5), -1);
        is("the least", x.marks(Integer.MIN_VALUE, 5), -1);
        is("the most", x.marks(Integer.MAX_VALUE, 5), -1);
    }

    static void p08_160InputsAndOneMore() {
        LateSessions x = withInputs(159);
        is("the 160th", x.marks(1, 1), 0);
        is("one more", x.marks(1, 2), -3);
        is("it stays", x.source(1, 0), 1);
        is("160", x.count(6), 160);
        is("not less than t", x.marks(1, 1), -2);
        is("wrong", x.marks(1, 20001), -1);
    }

    static void p08_asIdleAsItWas() {
        LateSessions x = started(2, 10, 5, 0);
        x.idles(0);
        x.marks(0, 50);
        is("idle still", x.source(0, 2), 1);
        is("its mark", x.source(0, 0), 50);
        x.marks(1, 60);
        is("not idle still", x.source(1, 2), 0);
        is("progress", x.count(4), 60);
    }

    static void p08_howManyAreSent() {
        LateSessions x = started(1, 10, 5, 1);
        x.event(0, 100, 1, 0);
        x.event(1, 101, 1, 0);
        is("none", x.marks(0, 110), 0);
        row(x, "none", 110);
        is("a's taken back and on time", x.marks(0, 111), 2);
        row(x, "a's", 111);
        is("b's taken back and on time", x.marks(0, 20000), 2);
        row(x, "b's", 20000);
    }

    // -- promise 9

    static void p09_itIsIdle() {
        LateSessions x = started(2, 10, 5, 0);
        is("once", x.idles(0), 0);
        is("once more", x.idles(0), -2);
        is("one input", x.count(6), 1);
    }

    static void p09_sources() {
        LateSessions x = started(3, 10, 5, 0);
        is("3", x.idles(3), -1);
        is("-1", x.idles(-1), -1);
        is("the least", x.idles(Integer.MIN_VALUE), -1);
        is("the most", x.idles(Integer.MAX_VALUE), -1);
        is("2", x.idles(2), 0);
        is("only that one", x.source(0, 2) * 100 + x.source(1, 2) * 10 + x.source(2, 2), 1);
    }

    static void p09_160InputsAndOneMore() {
        LateSessions x = withInputs(159);
        is("the 160th", x.idles(1), 0);
        is("one more", x.idles(0), -3);
        is("it is not idle", x.source(0, 2), 0);
        is("160", x.count(6), 160);
        is("it is idle", x.idles(1), -2);
        is("wrong", x.idles(2), -1);
    }

    static void p09_progressRises() {
        LateSessions x = started(2, 10, 5, 0);
        x.event(0, 100, 1, 0);
        x.marks(0, 111);
        is("one gets ripe", x.idles(1), 1);
        row(x, "progress", 111);
        is("all idle: none", x.idles(0), 0);
        row(x, "it stays", 111);
    }

    public static void main(String[] args) {
        runAll(ComesEdgeTest.class);
    }
}
