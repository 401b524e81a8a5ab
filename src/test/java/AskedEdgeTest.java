/** The edges that promises 10 to 25 name, a test each. */
public final class AskedEdgeTest extends Check {
    private static final int[] FAR = {Integer.MIN_VALUE, Integer.MAX_VALUE};

    // -- promise 10

    static void p10_whats0And5() {
        LateSessions x = started(2, 10, 5, 0);
        x.marks(0, 7);
        is("0", x.source(0, 0), 7);
        is("5", x.source(0, 5), 7);
        none("6", () -> x.source(0, 6));
        none("-1", () -> x.source(0, -1));
        for (int v : FAR) {
            none("far out", () -> x.source(0, v));
        }
    }

    static void p10_sources() {
        LateSessions x = started(4, 10, 5, 0);
        is("3", x.source(3, 0), 0);
        none("4", () -> x.source(4, 0));
        none("-1", () -> x.source(-1, 0));
        for (int v : FAR) {
            none("far out", () -> x.source(v, 0));
        }
        x.start(3, 10, 5, 0);
        none("3 of three", () -> x.source(3, 0));
        is("2 of three", x.source(2, 1), 20);
    }

    static void p10_moreThanProgress() {
        LateSessions x = started(2, 10, 5, 0);
        x.marks(0, 31);
        x.marks(1, 30);
        is("more", x.source(0, 5), 1);
        is("as much", x.source(1, 5), 0);
        x.idles(1);
        is("one less", x.source(1, 5), -1);
        x.marks(0, 50);
        is("much less", x.source(1, 5), -1);
    }

    static void p10_eventsThatCame() {
        LateSessions x = started(2, 10, 5, 0);
        x.marks(1, 100);
        x.event(0, 100, 1, 0);
        source(x, 0, 100, 0, 0, 1, 0);
        x.event(0, 95, 1, 0);
        source(x, 0, 100, 0, 0, 2, 0);
        x.event(0, 94, 1, 0);
        source(x, 0, 100, 0, 0, 3, 1);
        source(x, 1, 100, 0, 0, 0, 0);
    }

    // -- promise 11

    static void p11_whats0And7() {
        LateSessions x = started(1, 10, 5, 1);
        x.event(5, 100, 1, 0);
        is("0", x.session(0, 0), 5);
        is("7", x.session(0, 7), 1);
        none("8", () -> x.session(0, 8));
        none("-1", () -> x.session(0, -1));
        for (int v : FAR) {
            none("far out", () -> x.session(0, v));
        }
    }

    static void p11_numbers() {
        LateSessions x = started(2, 10, 5, 0);
        none("none is there", () -> x.session(0, 0));
        x.event(0, 100, 1, 0);
        x.event(1, 100, 1, 0);
        is("the last", x.session(1, 0), 1);
        none("one more", () -> x.session(2, 0));
        none("-1", () -> x.session(-1, 0));
        for (int v : FAR) {
            none("far out", () -> x.session(v, 0));
        }
    }

    static void p11_byKeysThenByFirst() {
        LateSessions x = started(2, 10, 5, 0);
        x.event(1, 50, 1, 0);
        x.event(0, 90, 1, 0);
        x.event(1, 30, 1, 0);
        x.event(0, 10, 1, 0);
        x.event(0, 50, 1, 0);
        int[][] due = {{0, 10}, {0, 50}, {0, 90}, {1, 30}, {1, 50}};
        for (int i = 0; i < 5; i++) {
            is("key of " + i, x.session(i, 0), due[i][0]);
            is("first of " + i, x.session(i, 1), due[i][1]);
        }
    }

    static void p11_160Sessions() {
        LateSessions x = started(2, 1, 5, 0);
        for (int i = 159; i >= 0; i--) {
            x.event(i % 6, 2 * i, 1, 0);
        }
        is("160", x.count(5), 160);
        session(x, 0, 0, 0, 0);
        session(x, 26, 0, 312, 312);
        session(x, 27, 1, 2, 2);
        session(x, 159, 5, 310, 310);
        none("160", () -> x.session(160, 0));
    }

    static void p11_sumsBelow0() {
        LateSessions x = started(2, 10, 5, 0);
        x.event(0, 100, -1, 0);
        is("sum", x.session(0, 4), 19999);
        is("most", x.session(0, 5), 98);
        x.event(0, 100, 0, 0);
        is("sum", x.session(0, 4), 19999);
        is("most", x.session(0, 5), 99);
    }

    // -- promise 12

    static void p12_atTheEdges() {
        LateSessions x = started(2, 10, 5, 0);
        x.event(0, 100, 1, 0);
        x.event(0, 105, 1, 0);
        is("89", x.at(0, 89), -2);
        is("90", x.at(0, 90), 0);
        row(x, "one", 1);
        is("115", x.at(0, 115), 0);
        is("116", x.at(0, 116), -2);
        row(x, "it stays", 1);
    }

    static void p12_ofTwoTheFirst() {
        LateSessions x = started(2, 10, 5, 0);
        x.event(0, 50, 1, 0);
        x.event(1, 100, 1, 0);
        x.event(1, 120, 1, 0);
        is("two", x.at(1, 110), 1);
        row(x, "two", 2);
        is("the first alone", x.at(1, 109), 1);
        row(x, "one", 1);
        is("the second alone", x.at(1, 111), 2);
        row(x, "one", 1);
    }

    static void p12_times0And9999() {
        LateSessions x = started(2, 10, 5, 0);
        x.event(0, 0, 1, 0);
        x.event(0, 9999, 1, 0);
        is("0", x.at(0, 0), 0);
        is("9999", x.at(0, 9999), 1);
        is("-1", x.at(0, -1), -1);
        is("10000", x.at(0, 10000), -1);
        for (int v : FAR) {
            is("far out", x.at(0, v), -1);
        }
    }

    static void p12_keys0And5() {
        LateSessions x = started(2, 10, 5, 0);
        x.event(0, 0, 1, 0);
        x.event(5, 0, 1, 0);
        is("0", x.at(0, 0), 0);
        is("5", x.at(5, 0), 1);
        is("4", x.at(4, 0), -2);
        is("6", x.at(6, 0), -1);
        is("-1", x.at(-1, 0), -1);
        for (int v : FAR) {
            is("far out", x.at(v, 0), -1);
        }
    }

    static void p12_closedOnesAreNone() {
        LateSessions x = started(1, 10, 0, 0);
        x.event(0, 100, 1, 0);
        x.marks(0, 110);
        is("there", x.at(0, 110), 0);
        x.marks(0, 111);
        is("closed", x.at(0, 110), -2);
    }

    // -- promise 13

    static void p13_exactly60() {
        LateSessions x = started(2, 10, 5, 1);
        for (int i = 0; i < 60; i++) {
            x.event(i % 6, 11 * i + 11, i, 0);
        }
        is("60", x.count(7), 60);
        message(x, 0, 0, 0, 11, 11, 1, 20000);
        message(x, 59, 0, 5, 660, 660, 1, 20059);
        none("60", () -> x.message(60, 0));
    }

    static void p13_61() {
        LateSessions x = started(2, 10, 5, 1);
        for (int i = 0; i < 61; i++) {
            x.event(i % 6, 11 * i + 11, i, 0);
        }
        none("the one before the latest 60", () -> x.message(0, 0));
        message(x, 1, 0, 1, 22, 22, 1, 20001);
        message(x, 60, 0, 0, 671, 671, 1, 20060);
        none("61", () -> x.message(61, 0));
    }

    static void p13_120And121() {
        LateSessions x = started(2, 10, 5, 1);
        for (int i = 0; i < 120; i++) {
            x.event(i % 6, 11 * i + 11, i % 90, 0);
        }
        none("59", () -> x.message(59, 0));
        message(x, 60, 0, 0, 671, 671, 1, 20060);
        message(x, 119, 0, 5, 1320, 1320, 1, 20029);
        x.event(0, 1331, 30, 0);
        none("60", () -> x.message(60, 0));
        message(x, 61, 0, 1, 682, 682, 1, 20061);
        message(x, 120, 0, 0, 1331, 1331, 1, 20030);
        none("121", () -> x.message(121, 0));
    }

    static void p13_numbersAndWhats() {
        LateSessions x = started(2, 10, 5, 1);
        none("none was sent", () -> x.message(0, 0));
        x.event(3, 100, -5, 0);
        message(x, 0, 0, 3, 100, 100, 1, 19995);
        none("what 6", () -> x.message(0, 6));
        none("what -1", () -> x.message(0, -1));
        none("1", () -> x.message(1, 0));
        none("-1", () -> x.message(-1, 0));
        for (int v : FAR) {
            none("far out", () -> x.message(v, 0));
            none("what far out", () -> x.message(0, v));
        }
    }

    // -- promise 14

    static void p14_kinds0And3() {
        LateSessions x = started(1, 10, 50, 1);
        x.event(0, 100, 1, 0);
        x.event(0, 101, 1, 0);
        is("0", x.sent(0), 2);
        row(x, "all", 3);
        is("3", x.sent(3), 1);
        row(x, "all", 3);
        is("1", x.sent(1), 0);
        is("2", x.sent(2), 0);
        is("4", x.sent(4), -1);
        is("-1", x.sent(-1), -1);
        for (int v : FAR) {
            is("far out", x.sent(v), -1);
        }
        row(x, "it stays", 3);
    }

    static void p14_beyond60() {
        LateSessions x = started(2, 10, 5, 1);
        for (int i = 0; i < 61; i++) {
            x.event(0, 11 * i, 1, 0);
        }
        is("all 61 count", x.sent(0), 61);
        row(x, "all 61 count", 61);
    }

    // -- promise 15

    static void p15_withoutAny() {
        LateSessions x = started(1, 10, 5, 0);
        is("none", x.stands(), 0);
        row(x, "none", 0, 0);
        x.event(0, 100, 1, 0);
        is("none was sent", x.stands(), 0);
        row(x, "none was sent", 0, 0);
    }

    static void p15_finalOnesBeyond40() {
        LateSessions x = started(1, 10, 0, 0);
        for (int i = 0; i < 42; i++) {
            x.event(i % 6, 100 * i, -2, 0);
        }
        is("41 are final", x.stands(), 41);
        row(x, "41", 41, -82);
    }

    static void p15_takenBackOnesDoNot() {
        LateSessions x = started(1, 10, 50, 2);
        x.event(0, 100, 3, 0);
        x.event(0, 100, 3, 0);
        is("one", x.stands(), 1);
        row(x, "one", 2, 6);
        x.event(0, 100, 3, 0);
        is("none", x.stands(), 0);
        row(x, "none", 0, 0);
    }

    static void p15_togetherOfAll() {
        LateSessions x = started(1, 10, 5, 1);
        x.event(0, 100, 3, 0);
        x.event(1, 116, 4, 0);
        x.event(2, 117, -9, 0);
        x.event(2, 118, 1, 0);
        is("a final one and two", x.stands(), 3);
        row(x, "a final one and two", 4, -1);
        is("a is final", x.closed(0), 1);
    }

    // -- promise 16

    static void p16_keys0And5() {
        LateSessions x = started(1, 10, 0, 0);
        x.event(0, 100, 1, 0);
        x.event(5, 100, 2, 0);
        x.marks(0, 111);
        is("0", x.closed(0), 1);
        row(x, "0", 1, 1, 0);
        is("5", x.closed(5), 1);
        row(x, "5", 1, 2, 0);
        is("6", x.closed(6), -1);
        is("-1", x.closed(-1), -1);
        for (int v : FAR) {
            is("far out", x.closed(v), -1);
        }
        row(x, "it stays", 1, 2, 0);
    }

    static void p16_longestIsNoneWithout() {
        LateSessions x = started(1, 10, 0, 0);
        x.event(0, 100, 1, 0);
        x.marks(0, 110);
        is("ripe is not closed", x.closed(0), 0);
        row(x, "none", 0, 0, -1);
    }

    static void p16_longestOfLength0() {
        LateSessions x = started(1, 10, 0, 0);
        x.event(0, 100, 1, 0);
        x.marks(0, 111);
        is("one", x.closed(0), 1);
        row(x, "length 0", 1, 1, 0);
    }

    static void p16_theLongestOfMany() {
        LateSessions x = started(1, 10, 0, 0);
        x.event(0, 100, 1, 0);
        x.event(0, 103, 1, 0);
        x.event(0, 200, 1, 0);
        x.event(0, 204, -7, 0);
        x.event(0, 300, 1, 0);
        x.event(0, 302, 1, 0);
        x.marks(0, 20000);
        is("three", x.closed(0), 3);
        row(x, "the second is the longest", 6, -2, 4);
    }

    static void p16_beyond40() {
        LateSessions x = started(1, 10, 0, 0);
        x.event(0, 0, 1, 0);
        x.event(0, 9, 1, 0);
        for (int i = 1; i <= 42; i++) {
            x.event(0, 100 * i, 1, 0);
        }
        is("42", x.closed(0), 42);
        row(x, "the first counts still", 43, 43, 9);
    }

    // -- promise 17

    static LateSessions closed(int n) {
        LateSessions x = started(1, 10, 0, 0);
        for (int i = 0; i < n; i++) {
            x.event(i % 6, 20 * i, i % 90 - 50, 0);
        }
        x.marks(0, 20000);
        return x;
    }

    static void p17_exactly40() {
        LateSessions x = closed(40);
        finals(x, 0, 0, 0, 0, 1, 19950, 49, 1);
        finals(x, 39, 3, 780, 780, 1, 19989, 88, 1);
        none("40", () -> x.finals(40, 0));
    }

    static void p17_41() {
        LateSessions x = closed(41);
        none("the one before the latest 40", () -> x.finals(0, 0));
        finals(x, 1, 1, 20, 20, 1, 19951, 50, 1);
        finals(x, 40, 4, 800, 800, 1, 19990, 89, 1);
        none("41", () -> x.finals(41, 0));
    }

    static void p17_80And81() {
        LateSessions x = closed(80);
        none("39", () -> x.finals(39, 0));
        finals(x, 40, 4, 800, 800, 1, 19990, 89, 1);
        finals(x, 79, 1, 1580, 1580, 1, 20029, 128, 1);
        LateSessions y = closed(81);
        none("40", () -> y.finals(40, 0));
        finals(y, 41, 5, 820, 820, 1, 19991, 90, 1);
        finals(y, 80, 2, 1600, 1600, 1, 20030, 129, 1);
    }

    static void p17_160() {
        LateSessions x = started(1, 10, 0, 0);
        for (int i = 0; i < 160; i++) {
            x.event(i % 6, 20 * i, 1, 0);
        }
        is("159", x.stands(), 159);
        none("118", () -> x.finals(118, 0));
        finals(x, 119, 5, 2380, 2380);
        finals(x, 158, 2, 3160, 3160);
        none("159", () -> x.finals(159, 0));
    }

    static void p17_numbersAndWhats() {
        LateSessions x = started(1, 10, 0, 0);
        none("none was closed", () -> x.finals(0, 0));
        x.event(4, 100, -99, 0);
        x.marks(0, 111);
        finals(x, 0, 4, 100, 100, 1, 19901, 0, 1);
        none("what 7", () -> x.finals(0, 7));
        none("what -1", () -> x.finals(0, -1));
        none("1", () -> x.finals(1, 0));
        none("-1", () -> x.finals(-1, 0));
        for (int v : FAR) {
            none("far out", () -> x.finals(v, 0));
            none("what far out", () -> x.finals(0, v));
        }
    }

    static void p17_kinds1And2() {
        LateSessions x = started(1, 10, 50, 0);
        x.event(0, 100, 1, 0);
        x.event(1, 101, 1, 0);
        x.marks(0, 120);
        x.event(0, 100, 1, 0);
        x.marks(0, 20000);
        is("told late", x.finals(0, 6), 2);
        is("told on time", x.finals(1, 6), 1);
    }

    // -- promise 18

    static void p18_keys0And5() {
        LateSessions x = started(1, 10, 50, 1);
        x.event(0, 100, 1, 0);
        x.event(5, 100, 1, 0);
        x.event(5, 101, 1, 0);
        is("0", x.kinds(0), 1);
        row(x, "0", 1, 0, 0, 0, 1);
        is("5", x.kinds(5), 3);
        row(x, "5", 2, 0, 0, 1, 1);
        is("6", x.kinds(6), -1);
        is("-1", x.kinds(-1), -1);
        for (int v : FAR) {
            is("far out", x.kinds(v), -1);
        }
        row(x, "it stays", 2, 0, 0, 1, 1);
    }

    static void p18_standingOnesFinalToo() {
        LateSessions x = started(1, 10, 50, 2);
        x.event(0, 100, 1, 0);
        x.event(1, 100, 1, 0);
        x.marks(0, 161);
        x.event(0, 170, 1, 0);
        x.event(0, 170, 1, 0);
        is("on time, early", x.kinds(0), 2);
        row(x, "a final one and an early one", 1, 1, 0, 0, 2);
        x.event(0, 170, 1, 0);
        is("taken back", x.kinds(0), 3);
        row(x, "the final one", 1, 1, 0, 1, 1);
    }

    static void p18_beyond60() {
        LateSessions x = started(2, 10, 5, 1);
        for (int i = 0; i < 61; i++) {
            x.event(2, 11 * i, 1, 0);
        }
        is("all 61 count", x.kinds(2), 61);
        row(x, "all 61 count", 61, 0, 0, 0, 61);
    }

    // -- promise 19

    static void p19_byNone() {
        LateSessions x = started(1, 10, 5, 0);
        is("one alone", x.slow(), -2);
        LateSessions y = started(2, 10, 5, 0);
        is("both at 0", y.slow(), -2);
        y.marks(0, 5);
        y.marks(1, 5);
        is("both at 5", y.slow(), -2);
        row(y, "it stays", 5);
    }

    static void p19_byOne() {
        LateSessions x = started(2, 10, 5, 0);
        x.marks(0, 6);
        x.marks(1, 5);
        is("the second", x.slow(), 1);
        row(x, "by one", 1, 0);
    }

    static void p19_onlyTheOneThatHoldsIt() {
        LateSessions x = started(4, 10, 5, 0);
        x.marks(0, 5);
        x.marks(1, 4);
        x.marks(2, 3);
        is("the last", x.slow(), 3);
        row(x, "by 3", 3, 0);
    }

    static void p19_theFirstOfAll() {
        LateSessions x = started(3, 10, 5, 0);
        x.marks(1, 9);
        x.marks(2, 8);
        is("the first", x.slow(), 0);
        row(x, "by 8", 8, 0);
    }

    static void p19_thoseThatGetRipe() {
        LateSessions x = started(2, 10, 5, 0);
        x.event(0, 89, 1, 0);
        x.event(1, 90, 1, 0);
        x.event(2, 100, 1, 0);
        is("the second", x.slow(), 1);
        row(x, "99 is below 100, 100 is not", 100, 1);
    }

    static void p19_whatIsRipeDoesNotGetRipe() {
        LateSessions x = started(2, 10, 99, 0);
        x.event(0, 50, 1, 0);
        x.event(1, 80, 1, 0);
        x.marks(0, 100);
        x.marks(1, 61);
        is("the second", x.slow(), 1);
        row(x, "the second session alone", 39, 1);
    }

    static void p19_behindProgressByNone() {
        LateSessions x = started(2, 10, 5, 0);
        x.idles(1);
        x.marks(0, 50);
        x.event(0, 45, 1, 1);
        is("it holds nothing up", x.slow(), -2);
        x.marks(0, 51);
        is("now it does", x.slow(), 1);
        row(x, "by one", 1, 0);
    }

    static void p19_ifAllAreIdle() {
        LateSessions x = started(2, 10, 5, 0);
        x.marks(0, 50);
        x.idles(0);
        x.idles(1);
        is("none", x.slow(), -2);
    }

    // -- promise 20

    static void p20_times0And9999() {
        LateSessions x = started(2, 10, 5, 0);
        x.event(0, 0, 1, 0);
        x.event(0, 9999, 2, 0);
        is("all", x.span(0, 9999), 2);
        row(x, "all", 3, 0, 2);
        is("0", x.span(0, 0), 1);
        is("9999", x.span(9999, 9999), 1);
        is("-1", x.span(-1, 9999), -1);
        is("10000", x.span(0, 10000), -1);
        is("10000 both", x.span(10000, 10000), -1);
        is("-1 both", x.span(-1, -1), -1);
        for (int v : FAR) {
            is("far out", x.span(v, 9999), -1);
            is("far out", x.span(0, v), -1);
        }
        row(x, "it stays", 2, 0, 1);
    }

    static void p20_theSecondIsLess() {
        LateSessions x = started(2, 10, 5, 0);
        x.event(0, 50, 1, 0);
        is("as much", x.span(50, 50), 1);
        is("one less", x.span(50, 49), -1);
        is("one more", x.span(50, 51), 1);
    }

    static void p20_fromAndToAreIn() {
        LateSessions x = started(2, 10, 5, 0);
        x.event(0, 50, 1, 0);
        x.event(0, 60, 2, 0);
        is("both", x.span(50, 60), 2);
        is("not the first", x.span(51, 60), 1);
        row(x, "the second", 2, 0, 1);
        is("not the second", x.span(50, 59), 1);
        row(x, "the first", 1, 0, 1);
        is("neither", x.span(51, 59), 0);
    }

    static void p20_without() {
        LateSessions x = started(2, 10, 5, 0);
        is("none", x.span(0, 9999), 0);
        row(x, "none", 0, -1, 0);
        x.marks(0, 100);
        x.idles(0);
        is("marks are no events", x.span(0, 9999), 0);
        row(x, "none", 0, -1, 0);
    }

    static void p20_ofEqualOnesTheFirst() {
        LateSessions x = started(2, 10, 5, 0);
        x.event(5, 50, 1, 0);
        x.event(4, 60, 1, 0);
        x.span(0, 9999);
        row(x, "one each", 2, 4, 1);
        x.event(5, 50, 1, 0);
        x.span(0, 9999);
        row(x, "f has two", 3, 5, 2);
    }

    static void p20_droppedOnesAreNot() {
        LateSessions x = started(1, 10, 5, 0);
        x.event(0, 100, 1, 0);
        x.event(0, 95, 2, 0);
        x.event(0, 94, 4, 0);
        is("two", x.span(0, 9999), 2);
        row(x, "two", 3, 0, 2);
    }

    // -- promise 21

    static void p21_each() {
        LateSessions x = started(1, 10, 5, 0);
        is("none", x.taken(), 0);
        row(x, "none", 0, 0, 0);
        x.event(0, 100, 1, 0);
        is("on time", x.taken(), 1);
        row(x, "on time", 0, 0, 0);
        x.event(0, 99, 1, 0);
        is("late", x.taken(), 2);
        row(x, "late", 1, 0, 0);
        x.event(0, 94, 1, 0);
        is("dropped", x.taken(), 2);
        row(x, "dropped", 1, 1, 0);
    }

    static void p21_meltedTwo() {
        LateSessions x = started(2, 10, 5, 0);
        x.event(0, 100, 1, 0);
        x.event(0, 121, 1, 0);
        x.event(0, 110, 1, 0);
        x.taken();
        row(x, "with one", 0, 0, 0);
        x.event(0, 111, 1, 0);
        x.taken();
        row(x, "with two", 0, 0, 1);
    }

    static void p21_moreThanOne() {
        LateSessions x = started(1, 10, 50, 0);
        x.event(0, 100, 1, 0);
        x.event(0, 120, 1, 0);
        x.event(0, 140, 1, 0);
        x.event(0, 110, 1, 0);
        x.event(0, 130, 1, 0);
        x.event(0, 150, 1, 0);
        x.event(0, 99, 1, 0);
        x.event(0, 98, 1, 0);
        is("six", x.taken(), 6);
        row(x, "two each", 2, 2, 2);
    }

    // -- promise 22

    static void p22_allHold() {
        LateSessions x = started(4, 10, 5, 0);
        is("four bits", x.holds(), 15);
        row(x, "four", 0, 0);
        x.marks(3, 1);
        is("three bits", x.holds(), 7);
        row(x, "three", 0, 1);
        x.marks(0, 1);
        is("two bits", x.holds(), 6);
    }

    static void p22_allAreIdle() {
        LateSessions x = started(2, 10, 5, 0);
        x.marks(0, 30);
        x.marks(1, 40);
        x.idles(0);
        is("the second", x.holds(), 2);
        row(x, "the second", 40, 0);
        x.idles(1);
        is("none", x.holds(), 0);
        row(x, "none", -1, 0);
        x.marks(0, 41);
        is("none still", x.holds(), 0);
        row(x, "the greatest is one more", -1, 1);
    }

    static void p22_behindProgress() {
        LateSessions x = started(2, 10, 5, 0);
        x.idles(1);
        x.marks(0, 50);
        x.event(0, 45, 1, 1);
        is("the second", x.holds(), 2);
        row(x, "its mark is behind", 45, 0);
    }

    // -- promise 23

    static void p23_byHowMuch() {
        LateSessions x = started(2, 10, 5, 0);
        x.marks(1, 500);
        x.event(0, 100, 1, 0);
        is("it", x.next(), 0);
        row(x, "11 from 100", 11);
        x.marks(0, 110);
        is("it still", x.next(), 0);
        row(x, "one more", 1);
        x.marks(0, 111);
        is("none", x.next(), -2);
        row(x, "it stays", 111);
    }

    static void p23_ofEqualOnesTheFirstKey() {
        LateSessions x = started(2, 10, 5, 0);
        x.event(4, 100, 1, 0);
        x.event(3, 100, 1, 0);
        x.event(0, 101, 1, 0);
        is("d", x.next(), 1);
        row(x, "d", 111);
    }

    static void p23_byLastNotByFirst() {
        LateSessions x = started(2, 10, 5, 0);
        x.event(0, 90, 1, 0);
        x.event(0, 100, 1, 0);
        x.event(1, 99, 1, 0);
        is("b", x.next(), 1);
        row(x, "b", 110);
    }

    static void p23_theFirstOfAll() {
        LateSessions x = started(2, 10, 5, 0);
        x.event(0, 99, 1, 0);
        x.event(1, 100, 1, 0);
        x.event(2, 101, 1, 0);
        is("a", x.next(), 0);
        row(x, "a", 110);
    }

    static void p23_lastAt0() {
        LateSessions x = started(2, 1, 5, 0);
        x.event(0, 0, 1, 0);
        is("a", x.next(), 0);
        row(x, "a", 2);
    }

    static void p23_none() {
        LateSessions x = started(2, 10, 5, 0);
        is("none", x.next(), -2);
        is("no row", x.count(9), 0);
    }

    // -- promise 24

    static void p24_progress0And20000() {
        LateSessions x = started(1, 10, 5, 0);
        is("0", x.ahead(0), 0);
        row(x, "0", 0);
        is("-1", x.ahead(-1), -1);
        is("20000", x.ahead(20000), 0);
        is("20001", x.ahead(20001), -1);
        for (int v : FAR) {
            is("far out", x.ahead(v), -1);
        }
        x.marks(0, 20000);
        is("20000 as it is", x.ahead(20000), 0);
        is("19999", x.ahead(19999), -2);
        is("20001 is no such one", x.ahead(20001), -1);
    }

    static void p24_notBelowWhatItIs() {
        LateSessions x = started(1, 10, 5, 0);
        x.marks(0, 50);
        is("as it is", x.ahead(50), 0);
        is("one below", x.ahead(49), -2);
        is("0", x.ahead(0), -2);
        is("-1", x.ahead(-1), -1);
    }

    static void p24_ripe() {
        LateSessions x = started(1, 10, 5, 0);
        x.event(0, 100, 1, 0);
        is("110", x.ahead(110), 0);
        is("111", x.ahead(111), 1);
        row(x, "none would be closed", 0);
    }

    static void p24_closed() {
        LateSessions x = started(1, 10, 5, 0);
        x.event(0, 100, 1, 0);
        x.ahead(115);
        row(x, "115", 0);
        x.ahead(116);
        row(x, "116", 1);
    }

    static void p24_ripeAlready() {
        LateSessions x = started(1, 10, 5, 0);
        x.event(0, 100, 1, 0);
        x.marks(0, 111);
        is("it is", x.ahead(115), 0);
        row(x, "none closed", 0);
        is("it is still", x.ahead(116), 0);
        row(x, "closed", 1);
    }

    // -- promise 25

    static void p25_keysTimesValuesSources() {
        LateSessions x = started(2, 10, 5, 0);
        is("the least", x.would(0, 0, -99, 0), 0);
        is("the most", x.would(5, 9999, 99, 1), 0);
        int[][] bad = {{-1, 0, 0, 0}, {6, 0, 0, 0}, {0, -1, 0, 0}, {0, 10000, 0, 0}, {0, 0, -100, 0}, {0, 0, 100, 0},
            {0, 0, 0, -1}, {0, 0, 0, 2}};
        for (int[] b : bad) {
            is("no such one", x.would(b[0], b[1], b[2], b[3]), -1);
        }
        for (int v : FAR) {
            is("far key", x.would(v, 0, 0, 0), -1);
            is("far time", x.would(0, v, 0, 0), -1);
            is("far value", x.would(0, 0, v, 0), -1);
            is("far source", x.would(0, 0, 0, v), -1);
        }
    }

    static void p25_with160Inputs() {
        LateSessions x = withInputs(160);
        is("no -3", x.would(0, 160, 1, 0), 0);
        row(x, "it would melt with one", 1, 0);
        is("no -3", x.would(0, 9999, 1, 0), 0);
        row(x, "one by itself", 0, 0);
        is("160", x.count(6), 160);
    }

    static LateSessions with160Sessions() {
        LateSessions x = started(2, 1, 5, 1);
        for (int i = 0; i < 160; i++) {
            x.event(0, 2 * i, 1, 0);
        }
        return x;
    }

    static void p25_with160Sessions() {
        LateSessions x = with160Sessions();
        is("160", x.count(5), 160);
        is("one by itself", x.would(5, 0, 1, 0), 0);
        row(x, "it would be told", 0, 1);
        is("with the first and the second", x.would(0, 1, 1, 0), 0);
        row(x, "two taken back, one told", 2, 3);
        is("with the last", x.would(0, 319, 1, 0), 0);
        row(x, "one taken back, one told", 1, 2);
        is("160 still", x.count(5), 160);
    }

    static void p25_meltsWithNoneOneTwo() {
        LateSessions x = started(2, 10, 5, 1);
        x.event(0, 100, 1, 0);
        x.event(0, 120, 1, 0);
        x.would(0, 89, 1, 0);
        row(x, "none", 0, 1);
        x.would(0, 90, 1, 0);
        row(x, "one", 1, 2);
        x.would(0, 110, 1, 0);
        row(x, "two", 2, 3);
        x.would(0, 130, 1, 0);
        row(x, "the second", 1, 2);
        x.would(0, 131, 1, 0);
        row(x, "none behind", 0, 1);
    }

    static void p25_dropped() {
        LateSessions x = started(1, 10, 5, 1);
        x.event(0, 95, 1, 0);
        x.event(0, 100, 1, 0);
        is("taken", x.would(0, 95, 1, 0), 1);
        row(x, "one", 1, 2);
        is("dropped", x.would(0, 94, 1, 0), 2);
        row(x, "with none, none is sent", 0, 0);
    }

    static void p25_messagesByProgress() {
        LateSessions x = started(1, 10, 5, 0);
        x.event(0, 100, 1, 0);
        x.would(1, 110, 1, 0);
        row(x, "not yet ripe", 0, 0);
        x.would(1, 111, 1, 0);
        row(x, "ripe by that", 0, 1);
        is("progress is as it was", x.count(4), 100);
    }

    static void p25_wakesNoOne() {
        LateSessions x = started(2, 10, 5, 0);
        x.idles(1);
        x.would(0, 100, 1, 1);
        source(x, 1, 0, 0, 1, 0, 0);
    }

    public static void main(String[] args) {
        runAll(AskedEdgeTest.class);
    }
}
