/** One method a promise: ordinary inputs, the edges that the document names, wrong inputs. */
public final class PromiseTest extends Check {
    static LateSessions full() {
        return withInputs(160);
    }

    static void p1() {
        LateSessions x = new LateSessions();
        int[] due = {1, 10, 5, 0, 0, 0, 0, 0, 0, 0, 0};
        for (int what = 0; what < due.length; what++) {
            is("count(" + what + ")", x.count(what), due[what]);
        }
        is("mark", x.source(0, 0), 0);
        is("delay", x.source(0, 1), 20);
        is("idle", x.source(0, 2), 0);
        none("a second source", () -> x.source(1, 0));
        no("nothing is kept", x.back(0) || x.back(1));
        is("nothing to undo", x.undo(), -1);
    }

    static void p2() {
        LateSessions x = new LateSessions();
        is("four signs", x.sign(0x61303130), 4);
        is("eight signs", x.sign(0x302b3130), 8);
        x.sign(0x30000000);
        x.end(9);
        is("the highest byte comes first", x.events(), 1);
        is("a0100+100 is an event of 100", x.input(0, 2), 100);
        for (int i = 1; i <= 20; i++) {
            is("sign " + i, x.sign(-1), 4 * i);
        }
        is("more than 80", x.sign(0), -1);
        is("80 stay", x.count(10), 80);
        yes("77 are room for none", x.end(77));
        is("81 would be too many", x.sign(0), -1);
        yes("76", x.end(76));
        is("80 are not too many", x.sign(0), 80);
    }

    static void p3() {
        LateSessions x = new LateSessions();
        yes("none of none", x.end(0));
        no("one of none", x.end(1));
        x.sign(0x61303130);
        no("below 0", x.end(-1));
        no("more than there are", x.end(5));
        is("all stay", x.count(10), 4);
        yes("all", x.end(4));
        yes("three", x.end(3));
        is("three stay", x.count(10), 3);
        no("what is cut is gone", x.end(4));
        no("far below", x.end(Integer.MIN_VALUE));
    }

    static void p4() {
        LateSessions x = started(2, 10, 5, 1);
        x.event(0, 100, 1, 0);
        x.event(0, 100, 1, 1);
        x.event(0, 200, 1, 0);
        x.event(0, 200, 1, 1);
        x.idles(1);
        is("start", x.start(3, 99, 99, 9), 3);
        int[] due = {3, 99, 99, 9, 0, 0, 0, 0};
        for (int what = 0; what < due.length; what++) {
            is("count(" + what + ")", x.count(what), due[what]);
        }
        for (int s = 0; s < 3; s++) {
            int[] source = {0, 20, 0, 0, 0, 0};
            for (int what = 0; what < 6; what++) {
                is("source(" + s + ", " + what + ")", x.source(s, what), source[what]);
            }
        }
        is("closed", x.closed(0), 0);
        row(x, "closed", 0, 0, -1);
        is("kinds", x.kinds(0), 0);
        row(x, "kinds", 0, 0, 0, 0, 0);
        is("taken", x.taken(), 0);
        row(x, "taken", 0, 0, 0);
        none("messages", () -> x.message(0, 0));
        none("finals", () -> x.finals(0, 0));
        none("inputs", () -> x.input(0, 0));
        is("least of all", x.start(1, 1, 0, 0), 1);
        is("most of all", x.start(4, 99, 99, 9), 4);
        int[][] bad = {{0, 1, 0, 0}, {5, 1, 0, 0}, {1, 0, 0, 0}, {1, 100, 0, 0}, {1, 1, -1, 0}, {1, 1, 100, 0},
            {1, 1, 0, -1}, {1, 1, 0, 10}};
        for (int[] b : bad) {
            is("out of bounds", x.start(b[0], b[1], b[2], b[3]), -1);
        }
        is("refused ones change nothing", x.count(0) * 1000 + x.count(1), 4099);
    }

    static void p5() {
        LateSessions x = new LateSessions();
        x.start(2, 10, 5, 0);
        is("it is so", x.delays(1, 20), -2);
        is("what it was", x.delays(1, 999), 20);
        is("what it was then", x.delays(1, 0), 999);
        is("only that one", x.source(0, 1) * 1000 + x.source(1, 1), 20000);
        is("too much", x.delays(0, 1000), -1);
        is("too little", x.delays(0, -1), -1);
        is("no such source", x.delays(2, 5), -1);
        is("no such source below", x.delays(-1, 5), -1);
        x.event(0, 100, 1, 0);
        is("mark by delay", x.source(0, 0), 80);
        is("there are inputs", x.delays(0, 5), -3);
        is("it is so, though there are inputs", x.delays(0, 20), -2);
        is("wrong, though there are inputs", x.delays(0, 1000), -1);
    }

    static void p6() {
        LateSessions x = started(1, 10, 5, 0);
        is("on time", x.event(0, 100, 5, 0), 0);
        row(x, "on time", 0, 100);
        is("on time at progress", x.event(0, 100, 5, 0), 0);
        is("late", x.event(0, 99, 5, 0), 1);
        is("late at the edge", x.event(1, 95, 5, 0), 1);
        is("dropped", x.event(1, 94, 5, 0), 2);
        is("joins at the gap's edge", x.event(0, 110, 5, 0), 0);
        row(x, "b gets ripe", 1, 110);
        is("sessions", x.count(5), 2);
        is("by itself behind it", x.event(0, 121, 5, 0), 0);
        row(x, "a gets ripe, b is closed", 1, 121);
        message(x, 0, 1, 1, 95, 95, 1, 20005);
        message(x, 1, 1, 0, 99, 110, 4, 20020);
        is("b is closed", x.closed(1), 1);
        is("melts two", x.event(0, 116, -99, 0), 1);
        row(x, "what was told is taken back", 1, 121);
        message(x, 2, 3, 0, 99, 110, 4, 20020);
        session(x, 0, 0, 99, 121, 6, 19926, 104, 0, 0);
        is("key", x.event(6, 0, 0, 0), -1);
        is("key below", x.event(-1, 0, 0, 0), -1);
        is("time", x.event(0, 10000, 0, 0), -1);
        is("time below", x.event(0, -1, 0, 0), -1);
        is("value", x.event(0, 0, 100, 0), -1);
        is("value below", x.event(0, 0, -100, 0), -1);
        is("source", x.event(0, 0, 0, 1), -1);
        is("source below", x.event(0, 0, 0, -1), -1);
        row(x, "refused ones leave the row", 1, 121);
        LateSessions y = full();
        is("160 inputs", y.event(0, 500, 1, 0), -3);
        is("wrong with 160 inputs", y.event(0, 500, 1, 2), -1);
        lateResults();
        earlyResults();
        droppedWakes();
    }

    static void lateResults() {
        LateSessions x = started(1, 10, 50, 0);
        x.event(2, 100, 3, 0);
        x.marks(0, 140);
        is("late into a ripe session", x.event(2, 105, 4, 0), 1);
        row(x, "taken back, told late", 2, 140);
        message(x, 0, 1, 2, 100, 100, 1, 20003);
        message(x, 1, 3, 2, 100, 100, 1, 20003);
        message(x, 2, 2, 2, 100, 105, 2, 20007);
        is("late by itself, ripe at once", x.event(3, 129, 4, 0), 1);
        row(x, "told late", 1, 140);
        is("late by itself, not ripe", x.event(4, 130, 4, 0), 1);
        row(x, "not told", 0, 140);
        x.event(2, 125, 1, 0);
        is("two ripe ones melt", x.event(2, 115, 1, 0), 1);
        row(x, "both are taken back by first, one is told late", 3, 140);
        int n = x.count(7);
        message(x, n - 3, 3, 2, 100, 105, 2, 20007);
        message(x, n - 2, 3, 2, 125, 125, 1, 20001);
        message(x, n - 1, 2, 2, 100, 125, 4, 20009);
        x.marks(0, 200);
        is("closed by a late result", x.finals(0, 6), 2);
    }

    static void earlyResults() {
        LateSessions x = started(2, 10, 5, 2);
        x.event(0, 100, 1, 0);
        is("not a multiple", x.count(7), 0);
        x.event(0, 101, 1, 0);
        message(x, 0, 0, 0, 100, 101, 2, 20002);
        x.event(0, 102, 1, 0);
        message(x, 1, 3, 0, 100, 101, 2, 20002);
        is("three are no multiple", x.count(7), 2);
        x.event(0, 103, 1, 0);
        message(x, 2, 0, 0, 100, 103, 4, 20004);
        x.marks(0, 200);
        x.marks(1, 114);
        message(x, 3, 3, 0, 100, 103, 4, 20004);
        message(x, 4, 1, 0, 100, 103, 4, 20004);
        is("all told", x.count(7), 5);
        LateSessions y = started(1, 10, 5, 1);
        y.event(0, 100, 1, 0);
        row(y, "early 1 tells each", 1, 100);
    }

    static void droppedWakes() {
        LateSessions x = started(2, 10, 5, 0);
        x.event(0, 40, 1, 0);
        x.marks(1, 100);
        x.idles(1);
        x.marks(0, 45);
        x.idles(0);
        is("all are idle", x.count(4), 45);
        is("dropped", x.event(0, 39, 1, 1), 2);
        row(x, "a dropped one wakes its source all the same", 1, 100);
        is("not idle", x.source(1, 2), 0);
        is("its mark stays", x.source(1, 0), 100);
    }

    static void p7() {
        LateSessions x = started(2, 10, 5, 0);
        is("empty", events(x, ""), 0);
        row(x, "empty", 0, 0);
        is("nothing to undo by an empty one", x.count(8), 3);
        is("two", events(x, "a0100+050f0120-991"), 2);
        row(x, "two", 0, 100);
        is("value", x.session(0, 4), 20005);
        is("value below 0", x.session(1, 4), 19901);
        is("key", x.session(1, 0), 5);
        is("source", x.input(1, 1), 1);
        is("the text is empty then", x.count(10), 0);
        is("undone as one", x.undo(), 3);
        is("undone both", x.count(6), 0);
        events(x, "a0100+050f0120-991");
        is("one is dropped", events(x, "a0094+010b0130+000b0130+001"), 2);
        row(x, "a gets ripe and closed", 1, 130);
        is("one more", events(x, "c0130+000"), 1);
        row(x, "only what these send", 0, 130);
        x.undo();
        events(x, "a0124+010");
        x.undo();
        String[] bad = {"A", "g", "`", "a", "a01", "a0x", "a0100", "a0100*", "a0100 ", "a0100+", "a0100+1", "a0100+1a",
            "a0100+10", "a0100+102", "a0100+10a", "a0100+101a", "a0100+101x", "a0100+101a0100+10"};
        int[] at = {0, 0, 0, 1, 3, 2, 5, 5, 5, 6, 7, 7, 8, 8, 8, 10, 9, 17};
        for (int i = 0; i < bad.length; i++) {
            is(bad[i], events(x, bad[i]), -1 - at[i]);
            is("emptied by " + bad[i], x.count(10), 0);
        }
        is("nothing came", x.count(6), 5);
        row(x, "the row stays", 0, 130);
        LateSessions y = started(1, 10, 5, 0);
        for (int i = 0; i < 158; i++) {
            y.event(0, 0, 1, 0);
        }
        is("161 would be too many", events(y, "a0000+000a0000+000a0000+000"), -3);
        is("none came", y.count(6), 158);
        is("a misfit comes ahead", events(y, "a0000+000a0000+000a0000+001"), -27);
        is("160 are not", events(y, "a0000+000a0000+000"), 2);
        is("nor none behind", events(y, ""), 0);
        is("one more", events(y, "a0000+000"), -3);
    }

    static void p8() {
        LateSessions x = started(2, 10, 5, 0);
        x.event(0, 10, 1, 0);
        x.event(1, 10, 1, 0);
        x.event(2, 8, 1, 0);
        is("nothing rises", x.marks(0, 50), 0);
        row(x, "nothing rises", 0);
        is("three get ripe", x.marks(1, 50), 3);
        row(x, "three get ripe", 50);
        is("by last first", x.message(0, 1), 2);
        is("of equal ones by keys", x.message(1, 1), 0);
        is("of equal ones by keys then", x.message(2, 1), 1);
        is("closed in that order", x.finals(0, 0) * 100 + x.finals(1, 0) * 10 + x.finals(2, 0), 201);
        is("not less than 0", x.marks(0, 0), -2);
        is("not less than t", x.marks(0, 50), -2);
        is("more than t", x.marks(0, 49), -2);
        is("far on", x.marks(0, 20000), 0);
        is("too far", x.marks(1, 20001), -1);
        is("below 0", x.marks(1, -1), -1);
        is("no such source", x.marks(2, 60), -1);
        is("no such source below", x.marks(-1, 60), -1);
        row(x, "the row stays", 50);
        x.idles(1);
        is("of an idle one", x.marks(1, 70), 0);
        is("it is as idle as it was", x.source(1, 2), 1);
        is("its mark is told", x.source(1, 0), 70);
        LateSessions y = full();
        is("160 inputs", y.marks(1, 60), -3);
        is("-2 with 160 inputs", y.marks(0, 60), -2);
        is("wrong with 160 inputs", y.marks(2, 60), -1);
        LateSessions z = started(1, 10, 5, 0);
        z.event(0, 100, 1, 0);
        is("not yet ripe", z.marks(0, 110), 0);
        is("ripe, one more", z.marks(0, 111), 1);
        z.marks(0, 115);
        is("not yet closed", z.closed(0), 0);
        z.marks(0, 116);
        is("closed, one more", z.closed(0), 1);
    }

    static void p9() {
        LateSessions x = started(2, 10, 5, 0);
        x.event(0, 100, 1, 0);
        is("nothing rises", x.idles(0), 0);
        row(x, "nothing rises", 0);
        x.event(0, 101, 1, 0);
        is("it is idle no more", x.source(0, 2), 0);
        x.marks(0, 120);
        is("one gets ripe", x.idles(1), 1);
        row(x, "one gets ripe", 120);
        is("it is idle", x.idles(1), -2);
        is("no such source", x.idles(2), -1);
        is("no such source below", x.idles(-1), -1);
        is("all idle: it stays", x.idles(0), 0);
        row(x, "all idle: it stays", 120);
        x.event(0, 115, 1, 1);
        is("progress does not go back", x.count(4), 120);
        is("the mark is lower", x.source(1, 0), 115);
        LateSessions y = full();
        is("160 inputs", y.idles(1), -3);
        is("wrong with 160 inputs", y.idles(2), -1);
        LateSessions z = started(2, 10, 5, 0);
        z.idles(1);
        for (int i = 0; i < 159; i++) {
            z.event(0, 1, 1, 0);
        }
        is("-2 with 160 inputs", z.idles(1), -2);
    }

    static void p10() {
        LateSessions x = started(2, 10, 5, 0);
        x.event(0, 100, 1, 0);
        x.event(0, 90, 1, 1);
        x.event(0, 84, 1, 0);
        x.idles(1);
        int[][] due = {{100, 0, 0, 2, 1, 0}, {90, 0, 1, 1, 0, -1}};
        for (int s = 0; s < 2; s++) {
            for (int what = 0; what < 6; what++) {
                is("source(" + s + ", " + what + ")", x.source(s, what), due[s][what]);
            }
        }
        x.marks(1, 130);
        is("more than progress", x.source(1, 5), 30);
        none("no such source", () -> x.source(2, 0));
        none("no such source below", () -> x.source(-1, 0));
        none("another what", () -> x.source(0, 6));
        none("another what below", () -> x.source(0, -1));
    }

    static void p11() {
        LateSessions x = started(1, 10, 50, 2);
        x.event(3, 100, -5, 0);
        x.event(1, 130, -7, 0);
        x.event(1, 95, 99, 0);
        x.event(1, 97, -99, 0);
        x.event(1, 132, -8, 0);
        session(x, 0, 1, 95, 97, 2, 20000, 198, 1, 1);
        session(x, 1, 1, 130, 132, 2, 19985, 92, 0, 1);
        session(x, 2, 3, 100, 100, 1, 19995, 94, 1, 1);
        x.event(1, 133, 0, 0);
        session(x, 1, 1, 130, 133, 3, 19985, 99, 0, 0);
        none("no such session", () -> x.session(3, 0));
        none("no such session below", () -> x.session(-1, 0));
        none("another what", () -> x.session(0, 8));
        none("another what below", () -> x.session(0, -1));
    }

    static void p12() {
        LateSessions x = started(1, 10, 50, 0);
        x.event(1, 100, 1, 0);
        x.event(1, 120, 1, 0);
        x.event(0, 100, 1, 0);
        is("ahead of it", x.at(1, 89), -2);
        is("at the gap's edge", x.at(1, 90), 1);
        row(x, "one", 1);
        is("between two", x.at(1, 110), 1);
        row(x, "two", 2);
        is("behind the first", x.at(1, 111), 2);
        row(x, "one alone", 1);
        is("at the edge behind", x.at(1, 130), 2);
        is("behind all", x.at(1, 131), -2);
        is("of another key", x.at(0, 110), 0);
        is("of a key without", x.at(5, 100), -2);
        row(x, "the row stays with -2", 1);
        is("no such key", x.at(6, 100), -1);
        is("no such key below", x.at(-1, 100), -1);
        is("no such time", x.at(0, 10000), -1);
        is("no such time below", x.at(0, -1), -1);
        is("all times", x.at(0, 9999), -2);
    }

    static void p13() {
        LateSessions x = started(1, 10, 5, 1);
        for (int i = 0; i < 40; i++) {
            x.event(4, i, -1, 0);
        }
        is("1 and 39 times two", x.count(7), 79);
        none("not of the latest 60", () -> x.message(18, 0));
        message(x, 19, 3, 4, 0, 9, 10, 19990);
        message(x, 20, 0, 4, 0, 10, 11, 19989);
        message(x, 78, 0, 4, 0, 39, 40, 19960);
        none("none such", () -> x.message(79, 0));
        none("none below", () -> x.message(-1, 0));
        none("another what", () -> x.message(78, 6));
        none("another what below", () -> x.message(78, -1));
    }

    static void p14() {
        LateSessions x = started(1, 10, 50, 1);
        x.event(0, 100, 1, 0);
        x.event(1, 120, 1, 0);
        x.event(0, 95, 1, 0);
        int[] due = {2, 1, 1, 2};
        for (int kind = 0; kind < 4; kind++) {
            is("sent(" + kind + ")", x.sent(kind), due[kind]);
            row(x, "sent", 6);
        }
        is("another kind", x.sent(4), -1);
        is("another kind below", x.sent(-1), -1);
    }

    static void p15() {
        LateSessions x = started(1, 10, 5, 2);
        is("none", x.stands(), 0);
        row(x, "none", 0, 0);
        x.event(0, 100, -4, 0);
        x.event(1, 101, 9, 0);
        x.event(1, 101, 9, 0);
        is("early ones too", x.stands(), 1);
        row(x, "early", 2, 18);
        x.event(2, 116, 1, 0);
        is("final and ripe ones", x.stands(), 2);
        row(x, "final and ripe", 3, 14);
        is("one is final", x.closed(0), 1);
        x.event(1, 111, 9, 0);
        is("what is taken back does not", x.stands(), 1);
        row(x, "taken back", 1, -4);
    }

    static void p16() {
        LateSessions x = started(1, 10, 0, 0);
        is("none", x.closed(2), 0);
        row(x, "none", 0, 0, -1);
        x.event(2, 100, -4, 0);
        x.event(2, 107, -5, 0);
        x.event(2, 200, 30, 0);
        is("one", x.closed(2), 1);
        row(x, "one", 2, -9, 7);
        x.event(2, 300, 1, 0);
        is("two", x.closed(2), 2);
        row(x, "two", 3, 21, 7);
        is("of another key", x.closed(3), 0);
        row(x, "of another key", 0, 0, -1);
        is("no such key", x.closed(6), -1);
        is("no such key below", x.closed(-1), -1);
        row(x, "the row stays", 0, 0, -1);
        LateSessions y = started(1, 10, 0, 0);
        y.event(0, 5, 1, 0);
        y.event(0, 50, 1, 0);
        y.closed(0);
        row(y, "of length 0", 1, 1, 0);
    }

    static void p17() {
        LateSessions x = started(1, 10, 5, 0);
        for (int i = 0; i < 45; i++) {
            x.event(i % 6, 100 * i, i - 30, 0);
        }
        none("not of the latest 40", () -> x.finals(3, 0));
        int[][] due = {{4, 400, 400, 1, 19974, 73, 1}, {1, 4300, 4300, 1, 20013, 112, 1}};
        for (int what = 0; what < 7; what++) {
            is("finals(4, " + what + ")", x.finals(4, what), due[0][what]);
            is("finals(43, " + what + ")", x.finals(43, what), due[1][what]);
        }
        none("none such", () -> x.finals(44, 0));
        none("none below", () -> x.finals(-1, 0));
        none("another what", () -> x.finals(43, 7));
        none("another what below", () -> x.finals(43, -1));
    }

    static void p18() {
        LateSessions x = started(1, 10, 50, 1);
        x.event(0, 100, 1, 0);
        x.event(1, 120, 1, 0);
        x.event(0, 95, 1, 0);
        is("of a", x.kinds(0), 5);
        row(x, "of a", 1, 1, 1, 2, 1);
        is("of b", x.kinds(1), 1);
        row(x, "of b", 1, 0, 0, 0, 1);
        x.marks(0, 300);
        x.kinds(0);
        row(x, "final ones stand", 1, 1, 1, 2, 1);
        x.event(3, 290, 1, 0);
        x.event(4, 290, 1, 0);
        x.event(4, 290, 1, 0);
        x.kinds(3);
        row(x, "of d", 1, 0, 0, 0, 1);
        x.kinds(0);
        row(x, "others' are not a's", 1, 1, 1, 2, 1);
        is("of c", x.kinds(2), 0);
        row(x, "of c", 0, 0, 0, 0, 0);
        is("no such key", x.kinds(6), -1);
        is("no such key below", x.kinds(-1), -1);
    }

    static void p19() {
        LateSessions x = started(3, 10, 5, 0);
        is("none by none", x.slow(), -2);
        x.marks(1, 50);
        is("two hold it", x.slow(), -2);
        x.marks(2, 80);
        is("the first", x.slow(), 0);
        row(x, "by 50", 50, 0);
        x.event(3, 39, 1, 1);
        x.event(3, 60, 1, 1);
        is("one more gets ripe", x.slow(), 0);
        row(x, "by 60", 60, 1);
        x.idles(0);
        is("of the others", x.slow(), 1);
        row(x, "b", 20, 1);
        x.idles(1);
        is("one alone", x.slow(), -2);
        row(x, "the row stays", 80);
        x.idles(2);
        is("all idle", x.slow(), -2);
        LateSessions y = started(2, 10, 5, 0);
        y.marks(1, 1);
        is("by one", y.slow(), 0);
        row(y, "by one", 1, 0);
    }

    static void p20() {
        LateSessions x = started(1, 10, 5, 0);
        x.event(3, 100, -7, 0);
        x.event(2, 110, 5, 0);
        x.event(2, 104, 50, 0);
        x.event(3, 106, 1, 0);
        x.event(2, 107, 1, 0);
        is("dropped ones are not", x.count(6), 5);
        is("all", x.span(0, 9999), 4);
        row(x, "all; of equal ones the first", 0, 2, 2);
        is("edges", x.span(100, 106), 2);
        row(x, "edges", -6, 3, 2);
        is("one", x.span(107, 107), 1);
        row(x, "one", 1, 2, 1);
        is("none", x.span(101, 105), 0);
        row(x, "none", 0, -1, 0);
        is("the second one is less", x.span(101, 100), -1);
        is("below", x.span(-1, 100), -1);
        is("above", x.span(0, 10000), -1);
        is("both above", x.span(10000, 10000), -1);
        x.marks(0, 5000);
        is("closed ones too", x.span(0, 9999), 4);
        x.event(0, 5000, 9, 0);
        x.event(5, 5000, 9, 0);
        is("of a and f", x.span(5000, 5000), 2);
        row(x, "of a and f", 18, 0, 1);
    }

    static void p21() {
        LateSessions x = started(1, 10, 50, 0);
        x.event(0, 100, 1, 0);
        x.event(0, 120, 1, 0);
        is("two", x.taken(), 2);
        row(x, "two", 0, 0, 0);
        x.event(0, 110, 1, 0);
        x.event(0, 69, 1, 0);
        x.event(0, 119, 1, 0);
        is("four", x.taken(), 4);
        row(x, "late, dropped, melted", 2, 1, 1);
    }

    static void p22() {
        LateSessions x = started(3, 10, 5, 0);
        is("all hold it", x.holds(), 7);
        row(x, "all hold it", 0, 0);
        x.marks(1, 30);
        is("two", x.holds(), 5);
        row(x, "two", 0, 30);
        x.idles(0);
        x.idles(2);
        is("one", x.holds(), 2);
        row(x, "one", 30, 0);
        x.marks(2, 90);
        is("the greatest mark is of all", x.holds(), 2);
        row(x, "the greatest mark is of all", 30, 60);
        x.idles(1);
        is("all idle", x.holds(), 0);
        row(x, "all idle", -1, 60);
        x.event(0, 28, 1, 0);
        is("behind progress", x.holds(), 1);
        row(x, "behind progress", 28, 60);
    }

    static void p23() {
        LateSessions x = started(1, 10, 50, 0);
        is("none", x.next(), -2);
        x.event(4, 100, 1, 0);
        x.event(2, 100, 1, 0);
        x.event(3, 99, 1, 0);
        is("the least last", x.next(), 1);
        row(x, "the least last", 10);
        x.event(3, 101, 1, 0);
        is("of equal ones the first key", x.next(), 0);
        row(x, "of equal ones", 10);
        x.marks(0, 111);
        is("ripe ones are not", x.next(), 1);
        row(x, "ripe ones are not", 1);
        x.marks(0, 112);
        is("none any more", x.next(), -2);
        row(x, "the row stays", 112);
    }

    static void p24() {
        LateSessions x = started(1, 10, 5, 0);
        is("0", x.ahead(0), 0);
        x.event(0, 100, 1, 0);
        x.event(1, 105, 1, 0);
        is("as it is", x.ahead(105), 0);
        row(x, "as it is", 0);
        is("at a's edge", x.ahead(110), 0);
        is("a", x.ahead(111), 1);
        row(x, "a", 0);
        is("both", x.ahead(116), 2);
        row(x, "a is closed", 1);
        is("far on", x.ahead(20000), 2);
        row(x, "both are closed", 2);
        is("it is more already", x.ahead(104), -2);
        is("too far", x.ahead(20001), -1);
        is("below", x.ahead(-1), -1);
        row(x, "the row stays", 2);
        x.marks(0, 112);
        is("what is ripe gets it no more", x.ahead(116), 1);
        row(x, "but is closed", 1);
    }

    static void p25() {
        LateSessions x = started(2, 10, 20, 1);
        x.marks(1, 500);
        x.event(0, 100, 1, 0);
        x.event(0, 120, 1, 0);
        int sent = x.count(7);
        is("on time", x.would(0, 125, 1, 0), 0);
        row(x, "taken back, early", 1, 2);
        is("late", x.would(0, 110, 1, 0), 1);
        row(x, "melts two: two taken back, an early one", 2, 3);
        is("dropped", x.would(0, 99, 1, 0), 2);
        row(x, "dropped", 0, 0);
        is("progress rises", x.would(3, 400, 1, 0), 0);
        row(x, "an early one, and two by progress", 0, 3);
        is("nothing changes", x.count(7), sent);
        is("nothing comes", x.count(6), 3);
        is("no progress", x.count(4), 120);
        is("key", x.would(6, 0, 0, 0), -1);
        is("time", x.would(0, 10000, 0, 0), -1);
        is("value", x.would(0, 0, 100, 0), -1);
        is("value below", x.would(0, 0, -100, 0), -1);
        is("source", x.would(0, 0, 0, 2), -1);
        row(x, "the row stays", 0, 3);
        LateSessions y = full();
        is("no -3", y.would(5, 9999, 1, 0), 0);
        LateSessions z = started(1, 1, 0, 0);
        z.delays(0, 999);
        for (int i = 0; i < 160; i++) {
            z.event(0, 2 * i, 1, 0);
        }
        is("160 sessions", z.count(5), 160);
        is("one by itself beyond 160", z.would(0, 1500, 1, 0), 0);
        row(z, "all get ripe by it", 0, 160);
    }

    static void p26() {
        LateSessions x = started(1, 10, 99, 0);
        is("none", x.batch(0), 0);
        row(x, "none", -1, -1, -1);
        x.event(0, 100, -3, 0);
        is("one", x.batch(0), 1);
        row(x, "one", 1, -3, -1);
        x.event(0, 150, -9, 0);
        x.event(0, 110, -3, 0);
        x.event(0, 162, 2, 0);
        x.event(1, 130, 99, 0);
        is("three", x.batch(0), 3);
        row(x, "three", 2, 2, 40);
        x.marks(0, 5000);
        is("closed ones too", x.batch(0), 3);
        x.event(0, 130, 9, 0);
        is("dropped ones not", x.batch(0), 3);
        LateSessions w = started(1, 10, 99, 0);
        w.event(0, 100, 1, 0);
        w.event(0, 120, 1, 0);
        w.event(0, 170, 1, 0);
        is("the last hole counts", w.batch(0), 3);
        row(w, "the last hole counts", 1, 1, 50);
        is("no such key", x.batch(6), -1);
        is("no such key below", x.batch(-1), -1);
        LateSessions y = started(1, 10, 99, 0);
        y.event(0, 100, 1, 0);
        y.event(0, 50, -5, 0);
        y.event(0, 75, -5, 0);
        y.event(0, 75, -5, 0);
        is("late ones too", y.batch(0), 3);
        row(y, "late ones too", 2, 1, 25);
    }

    static void p27() {
        LateSessions x = started(1, 10, 5, 0);
        is("none", x.latest(), 0);
        row(x, "none", -1);
        x.event(0, 200, 1, 0);
        is("on time", x.latest(), 0);
        row(x, "on time", -1);
        x.event(0, 197, 1, 0);
        is("late", x.latest(), 3);
        row(x, "late", 1);
        x.event(0, 50, 1, 0);
        x.event(1, 50, 1, 0);
        x.marks(0, 203);
        x.event(1, 53, 1, 0);
        is("above 99, dropped ones too", x.latest(), 150);
        row(x, "of equal ones the first", 2);
        x.event(1, 52, 1, 0);
        is("later", x.latest(), 151);
        row(x, "later", 6);
    }

    static void p28() {
        LateSessions x = started(1, 10, 99, 0);
        is("of no events", x.parts(0, 1), -2);
        x.event(0, 500, 1, 0);
        is("one", x.parts(0, 1), 99);
        is("two of one", x.parts(0, 2), -2);
        x.event(0, 599, 1, 0);
        is("by 99", x.parts(0, 2), 98);
        x.event(0, 570, 1, 0);
        is("by 70", x.parts(0, 2), 69);
        is("by 29", x.parts(0, 3), 28);
        x.event(0, 571, 1, 0);
        is("no gap below 1", x.parts(0, 4), -2);
        x.event(0, 700, 1, 0);
        is("no gap above 99", x.parts(0, 2), 99);
        is("equal times", x.event(0, 700, 1, 0), 0);
        is("are no part", x.parts(0, 5), -2);
        x.event(1, 700, 1, 0);
        x.event(1, 702, 1, 0);
        is("by 2", x.parts(1, 2), 1);
        is("60", x.parts(0, 60), -2);
        is("61", x.parts(0, 61), -1);
        is("0", x.parts(0, 0), -1);
        is("no such key", x.parts(6, 1), -1);
        is("no such key below", x.parts(-1, 1), -1);
    }

    static void p29() {
        LateSessions x = started(2, 10, 5, 0);
        LateSessions y = started(2, 20, 40, 2);
        LateSessions[] both = {x, y};
        for (LateSessions z : both) {
            z.event(0, 100, 1, 0);
            z.marks(1, 120);
            z.event(0, 115, 1, 0);
            z.event(0, 90, 1, 0);
            z.idles(1);
            z.event(3, 150, 1, 1);
            z.event(0, 112, 1, 0);
            z.event(3, 160, 1, 0);
            z.marks(1, 190);
        }
        is("by the same settings", x.again(10, 5, 0), 1);
        row(x, "by the same settings", 0, 2, 0, 0, 1, 2);
        is("by others", x.again(20, 40, 2), 0);
        row(x, "by others", 3, 1, 0, 2, 2, 0);
        is("so it is by others", y.sent(0) * 1000 + y.sent(1) * 100 + y.sent(2) * 10 + y.sent(3), 3102);
        is("sessions by others", y.count(5), 2);
        is("nothing changes", x.count(1) * 100 + x.count(2), 1005);
        is("nothing is sent", x.count(7), x.sent(0) + x.sent(1) + x.sent(2) + x.sent(3));
        int[][] bad = {{0, 0, 0}, {100, 0, 0}, {1, -1, 0}, {1, 100, 0}, {1, 0, -1}, {1, 0, 10}};
        for (int[] b : bad) {
            is("out of bounds", x.again(b[0], b[1], b[2]), -1);
        }
        is("the edges", x.again(99, 99, 9), 0);
    }

    static void p30() {
        LateSessions one = started(1, 10, 5, 0);
        is("one alone", one.without(0), -2);
        is("none such, one alone", one.without(1), -1);
        LateSessions x = started(3, 10, 5, 0);
        x.event(0, 100, 1, 0);
        x.event(0, 120, 1, 1);
        x.event(0, 60, 1, 0);
        x.event(2, 20, 1, 2);
        is("progress", x.count(4), 20);
        is("without the last", x.without(2), 100);
        row(x, "without the last", 1, 2, 0);
        is("without the first", x.without(0), 20);
        row(x, "without the first", 0, 2, 0);
        x.idles(2);
        x.marks(0, 200);
        is("without b", x.without(1), 200);
        row(x, "without b", 0, 0, 3);
        is("none such", x.without(3), -1);
        is("none below", x.without(-1), -1);
        row(x, "the row stays", 0, 0, 3);
        is("nothing changes", x.count(4), 120);
        is("nor inputs", x.count(6), 6);
    }

    static void p31() {
        LateSessions x = started(2, 10, 5, 0);
        x.event(3, 100, 7, 1);
        x.marks(0, 50);
        x.idles(1);
        x.event(0, 1, 7, 0);
        int[][] due = {{0, 1, 100, 3}, {1, 0, 50, -1}, {2, 1, 0, -1}, {0, 0, 1, 0}};
        for (int i = 0; i < 4; i++) {
            for (int what = 0; what < 4; what++) {
                is("input(" + i + ", " + what + ")", x.input(i, what), due[i][what]);
            }
        }
        none("none such", () -> x.input(4, 0));
        none("none below", () -> x.input(-1, 0));
        none("another what", () -> x.input(0, 4));
        none("another what below", () -> x.input(0, -1));
    }

    static void p32() {
        LateSessions x = started(2, 10, 5, 0);
        is("empty", day(x, ""), 0);
        row(x, "empty", 0, 0);
        is("nothing to undo by it", x.count(8), 3);
        is("all three acts", day(x, "ec0100+121m100150i1"), 3);
        row(x, "all done", 0, 0);
        is("inputs", x.count(6), 3);
        is("the mark", x.source(1, 0), 150);
        session(x, 0, 2, 100, 100, 1, 20012, 111, 0, 0);
        is("the event's source", x.input(0, 1), 1);
        is("the mark's source", x.input(1, 1), 1);
        is("the idle one", x.source(1, 2), 1);
        is("undone as one", x.undo(), 3);
        is("no inputs", x.count(6), 0);
        day(x, "ec0100+121m100150i1");
        is("till one can't be", day(x, "m000120i1m000130"), 1);
        row(x, "one could not be", 1, 1);
        is("what came ahead is done", x.source(0, 0), 120);
        is("what came behind is not", x.count(6), 4);
        int undo = x.count(8);
        is("the first one can't be", day(x, "i1"), 0);
        row(x, "the first one can't be", 1, 0);
        is("that is nothing to undo", x.count(8), undo);
        is("sources that there are not are read", day(x, "i9"), 0);
        is("sources that there are not are read: e", day(x, "ea0500+002"), 0);
        is("times above 20000 are read", day(x, "m020001"), 0);
        row(x, "and refused", 1, 0);
        is("20000", day(x, "m020000"), 1);
        String[] bad = {"x", "E", "e", "eg", "ea", "ea010", "ea010x", "ea0100", "ea0100x", "ea0100+1", "ea0100+1x",
            "ea0100+10", "ea0100+10x", "m", "mx", "m1", "m11234", "m1123x5", "i", "ix", "i0x", "i0m", "i0m012345e",
            "i0i1ea0100+10+"};
        int[] at = {0, 0, 1, 1, 2, 5, 5, 6, 6, 8, 8, 9, 9, 1, 1, 2, 6, 5, 1, 1, 2, 3, 10, 13};
        int inputs = x.count(6);
        for (int i = 0; i < bad.length; i++) {
            is(bad[i], day(x, bad[i]), -1 - at[i]);
            is("emptied by " + bad[i], x.count(10), 0);
        }
        row(x, "the row stays", 0, 0);
        is("nothing is done", x.count(6), inputs);
        LateSessions y = started(1, 10, 5, 0);
        for (int i = 0; i < 159; i++) {
            y.event(0, 0, 1, 0);
        }
        is("till there are 160", day(y, "ea0000+010ea0000+010"), 1);
        row(y, "till there are 160", 1, 0);
    }

    static void p33() {
        LateSessions x = new LateSessions();
        is("none", x.undo(), -1);
        x.start(2, 10, 0, 0);
        x.delays(0, 0);
        x.event(0, 100, 1, 0);
        x.marks(1, 200);
        x.idles(0);
        day(x, "ea0300+011");
        is("six", x.count(8), 6);
        events(x, "a0400+011");
        is("six are kept", x.count(8), 6);
        x.event(9, 9, 9, 9);
        x.undo();
        is("what was refused is not undone", x.count(6), 4);
        is("five are left", x.count(8), 5);
        is("day()", x.undo(), 4);
        is("a is a session no more", x.count(5), 0);
        is("idles()", x.undo(), 3);
        is("not idle", x.source(0, 2), 0);
        is("progress", x.count(4), 100);
        is("a is not closed", x.count(5), 1);
        is("nothing was sent", x.count(7), 0);
        is("marks()", x.undo(), 2);
        is("mark", x.source(1, 0), 0);
        is("event()", x.undo(), 1);
        is("no inputs", x.count(6), 0);
        is("delays()", x.undo(), 0);
        is("delay", x.source(0, 1), 20);
        is("start() is too far back", x.undo(), -1);
        is("two sources", x.count(0), 2);
        LateSessions y = started(1, 20, 5, 0);
        y.event(0, 100, 1, 0);
        y.start(3, 30, 6, 1);
        y.undo();
        is("start() undone", y.count(0) * 10000 + y.count(1) * 100 + y.count(6), 12001);
        is("delays too", y.source(0, 1), 0);
        y.keep(0);
        y.event(0, 200, 1, 0);
        no("a refused back()", y.back(1));
        is("forgets none", y.count(8), 4);
        y.back(0);
        is("back() forgets", y.undo(), -1);
        y.event(0, 300, 1, 0);
        is("one again", y.count(8), 1);
    }

    static void p34() {
        for (int seed = -3; seed < 200; seed++) {
            LateSessions x = started(3, 10, 5, 2);
            x.event(0, 100, 1, 0);
            x.event(0, 100, 1, 1);
            x.event(0, 100, 1, 2);
            LateSessions y = started(3, 10, 5, 2);
            y.event(0, 100, 1, 0);
            y.event(0, 100, 1, 1);
            y.event(0, 100, 1, 2);
            int sent = y.count(7);
            int n = 1 + (seed + 3) % 40;
            int r = seed * 7919;
            int taken = 0;
            for (int k = 0; k < n; k++) {
                int[] of = {6, 100, 199, 3};
                for (int d = 0; d < 4; d++) {
                    r = r * 1103515245 + 12345;
                    of[d] = (int) ((r & 0xffffffffL) / 65536 % of[d]);
                }
                taken += y.event(of[0], y.count(4) - 5 + of[1], of[2] - 99, of[3]) == 2 ? 0 : 1;
            }
            is("taken", x.years(seed * 7919, n), taken);
            row(x, "years", y.count(7) - sent, y.count(4));
            is("they are forgotten", x.count(6), 3);
            is("nothing is sent", x.count(7), x.kinds(0));
        }
        LateSessions z = new LateSessions();
        is("0", z.years(1, 0), -1);
        is("41", z.years(1, 41), -1);
        is("below", z.years(1, -1), -1);
        is("one", z.years(1, 1), 1);
        is("40", z.years(1, 40), 40);
        z.delays(0, 0);
        for (int seed = 0; seed < 50; seed++) {
            z.years(seed, 1);
            int drawn = seed * 1103515245 + 12345;
            drawn = drawn * 1103515245 + 12345;
            row(z, "of one source, 0 at least", 0, Math.max(0, (drawn >>> 16) % 100 - 5));
        }
        for (int i = 0; i < 157; i++) {
            z.event(0, 10, 1, 0);
        }
        is("as many as there may be", z.years(5, 40), 3);
        LateSessions f = full();
        is("none", f.years(5, 40), 0);
        row(f, "none", 0, 0);
        LateSessions far = started(1, 10, 0, 0);
        far.marks(0, 20000);
        is("9999 at most", far.years(5, 1), 0);
    }

    static void p35() {
        LateSessions x = started(2, 10, 5, 1);
        x.event(0, 100, 1, 0);
        yes("0", x.keep(0));
        yes("1", x.keep(1));
        no("2", x.keep(2));
        no("below", x.keep(-1));
        x.event(0, 105, 1, 0);
        yes("1 once more", x.keep(1));
        x.start(1, 5, 5, 5);
        x.back(0);
        is("0 is as it was", x.count(6), 1);
        x.back(1);
        is("1 is the later one", x.count(6), 2);
        x.event(0, 106, 1, 0);
        is("keep() is no act", x.count(8), 1);
        x.keep(0);
        is("keep() forgets none", x.count(8), 1);
    }

    static void p36() {
        LateSessions x = started(2, 10, 5, 1);
        no("nothing kept", x.back(0));
        x.event(0, 100, 7, 0);
        x.event(0, 110, 8, 1);
        x.event(1, 130, 8, 0);
        x.event(1, 140, 8, 1);
        x.keep(1);
        no("nothing kept under 0", x.back(0));
        no("none such", x.back(2));
        no("none below", x.back(-1));
        x.start(3, 5, 6, 1);
        for (int i = 0; i < 12; i++) {
            x.event(5, 500 + 100 * i, 9, i % 3);
        }
        write(x, "abc");
        x.sent(0);
        yes("back", x.back(1));
        int[] due = {2, 10, 5, 1, 130, 1, 4, 8};
        for (int what = 0; what < due.length; what++) {
            is("count(" + what + ")", x.count(what), due[what]);
        }
        is("nothing to undo", x.count(8), 0);
        is("the row stays", x.count(9), 1);
        is("the text stays", x.count(10), 3);
        session(x, 0, 1, 130, 140, 2, 20016, 107, 0, 1);
        message(x, 5, 0, 1, 130, 140, 2, 20016);
        message(x, 7, 1, 0, 100, 110, 2, 20015);
        is("finals", x.finals(0, 4), 20015);
        is("closed", x.closed(0), 1);
        is("inputs", x.input(3, 2), 140);
        is("taken", x.taken(), 4);
        is("marks", x.source(1, 0), 140);
        is("delays", x.source(1, 1), 0);
        x.event(1, 141, 1, 0);
        yes("back once more", x.back(1));
        is("what is kept stays as it was", x.count(6), 4);
    }

    static void p37() {
        LateSessions x = started(2, 11, 6, 1);
        x.event(0, 100, 1, 0);
        x.event(1, 90, 1, 1);
        x.sign(0);
        x.taken();
        int[] due = {2, 11, 6, 1, 90, 2, 2, 2, 5, 3, 4};
        for (int what = 0; what < due.length; what++) {
            is("count(" + what + ")", x.count(what), due[what]);
        }
        is("another", x.count(11), -1);
        is("another below", x.count(-1), -1);
    }

    static void p38() {
        LateSessions x = started(1, 10, 5, 0);
        none("of an empty row", () -> x.row(0));
        x.kinds(0);
        is("five", x.count(9), 5);
        is("the last", x.row(4), 0);
        none("none such", () -> x.row(5));
        none("none below", () -> x.row(-1));
        x.event(0, 100, 1, 0);
        is("two", x.row(1), 100);
        none("the row before is gone", () -> x.row(2));
        x.delays(0, 5);
        x.count(3);
        x.source(0, 0);
        x.session(0, 0);
        x.keep(0);
        x.parts(0, 1);
        x.undo();
        x.start(2, 5, 5, 5);
        is("calls that tell none leave it", x.row(1), 100);
    }

    public static void main(String[] args) {
        Runnable[] all = {PromiseTest::p1, PromiseTest::p2, PromiseTest::p3, PromiseTest::p4, PromiseTest::p5,
            PromiseTest::p6, PromiseTest::p7, PromiseTest::p8, PromiseTest::p9, PromiseTest::p10, PromiseTest::p11,
            PromiseTest::p12, PromiseTest::p13, PromiseTest::p14, PromiseTest::p15, PromiseTest::p16,
            PromiseTest::p17, PromiseTest::p18, PromiseTest::p19, PromiseTest::p20, PromiseTest::p21,
            PromiseTest::p22, PromiseTest::p23, PromiseTest::p24, PromiseTest::p25, PromiseTest::p26,
            PromiseTest::p27, PromiseTest::p28, PromiseTest::p29, PromiseTest::p30, PromiseTest::p31,
            PromiseTest::p32, PromiseTest::p33, PromiseTest::p34, PromiseTest::p35, PromiseTest::p36,
            PromiseTest::p37, PromiseTest::p38};
        for (int i = 0; i < all.length; i++) {
            test = "promise " + (i + 1);
            all[i].run();
        }
        System.out.println(wrong == 0 ? "all promises hold" : wrong + " answers are not as due");
        if (wrong != 0) {
            System.exit(1);
        }
    }
}
