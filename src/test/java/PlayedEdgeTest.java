/** The edges that promises 26 to 31 name, a test each. */
public final class PlayedEdgeTest extends Check {
    private static final int[] FAR = {Integer.MIN_VALUE, Integer.MAX_VALUE};

    // -- promise 26

    static void p26_keys0And5() {
        LateSessions x = started(2, 10, 5, 0);
        x.event(0, 100, 1, 0);
        x.event(5, 100, 2, 0);
        is("0", x.batch(0), 1);
        row(x, "0", 1, 1, -1);
        is("5", x.batch(5), 1);
        row(x, "5", 1, 2, -1);
        is("6", x.batch(6), -1);
        is("-1", x.batch(-1), -1);
        for (int v : FAR) {
            is("far out", x.batch(v), -1);
        }
        row(x, "it stays", 1, 2, -1);
    }

    static void p26_ofNoEvents() {
        LateSessions x = started(2, 10, 5, 0);
        x.event(0, 100, 1, 0);
        x.marks(1, 5);
        is("none", x.batch(1), 0);
        row(x, "three times NONE", -1, -1, -1);
    }

    static void p26_onlyDroppedOnesAreNoEvents() {
        LateSessions x = started(1, 10, 5, 0);
        x.event(0, 100, 1, 0);
        x.event(1, 94, 1, 0);
        is("none", x.batch(1), 0);
        row(x, "three times NONE", -1, -1, -1);
    }

    static void p26_atTheGap() {
        LateSessions x = started(2, 10, 5, 0);
        x.event(0, 100, 1, 0);
        x.event(0, 110, 1, 0);
        is("10 is no hole", x.batch(0), 1);
        row(x, "one", 2, 2, -1);
        x.event(0, 121, 1, 0);
        is("11 is one", x.batch(0), 2);
        row(x, "two", 2, 2, 11);
    }

    static void p26_widestHole() {
        LateSessions x = started(2, 10, 5, 0);
        x.event(0, 1000, 1, 0);
        x.event(0, 0, 1, 0);
        x.event(0, 9999, 1, 0);
        is("three", x.batch(0), 3);
        row(x, "8999", 1, 1, 8999);
        x.event(0, 5000, 1, 0);
        is("four", x.batch(0), 4);
        row(x, "4999", 1, 1, 4999);
    }

    static void p26_widestOfAll() {
        LateSessions x = started(2, 10, 5, 0);
        x.event(0, 0, 1, 0);
        x.event(0, 9999, 1, 0);
        is("two", x.batch(0), 2);
        row(x, "9999", 1, 1, 9999);
    }

    static void p26_greatestSumBelow0() {
        LateSessions x = started(2, 10, 5, 0);
        x.event(0, 100, -99, 0);
        x.event(0, 200, -98, 0);
        x.event(0, 200, -1, 0);
        x.event(0, 300, -97, 0);
        is("three", x.batch(0), 3);
        row(x, "-97 is the greatest sum, two the greatest count", 2, -97, 100);
        LateSessions y = started(2, 10, 5, 0);
        y.event(0, 300, -2, 0);
        is("one", y.batch(0), 1);
        row(y, "below NONE", 1, -2, -1);
    }

    static void p26_byGapAloneNotByProgress() {
        LateSessions x = started(1, 10, 99, 0);
        x.event(0, 100, 1, 0);
        x.marks(0, 205);
        is("late", x.event(0, 120, 1, 0), 1);
        is("two", x.batch(0), 2);
        is("late again", x.event(0, 110, 1, 0), 1);
        is("by gaps alone one", x.batch(0), 1);
        row(x, "one", 3, 3, -1);
    }

    static void p26_160() {
        LateSessions x = started(2, 1, 5, 0);
        for (int i = 159; i >= 0; i--) {
            x.event(0, 2 * i, 1, 0);
        }
        is("160", x.batch(0), 160);
        row(x, "160", 1, 1, 2);
    }

    // -- promise 27

    static void p27_without() {
        LateSessions x = started(1, 10, 5, 0);
        is("no inputs", x.latest(), 0);
        row(x, "none", -1);
        x.marks(0, 100);
        x.event(0, 100, 1, 0);
        is("at progress", x.latest(), 0);
        row(x, "none", -1);
    }

    static void p27_byOne() {
        LateSessions x = started(1, 10, 5, 0);
        x.marks(0, 100);
        x.event(0, 99, 1, 0);
        is("1", x.latest(), 1);
        row(x, "input 1", 1);
    }

    static void p27_ofEqualOnesTheFirst() {
        LateSessions x = started(1, 10, 5, 0);
        x.marks(0, 100);
        x.event(0, 97, 1, 0);
        x.event(0, 96, 1, 0);
        x.event(0, 96, 1, 0);
        x.event(0, 97, 1, 0);
        is("4", x.latest(), 4);
        row(x, "input 2", 2);
    }

    static void p27_above99() {
        LateSessions x = started(1, 10, 99, 0);
        x.marks(0, 100);
        x.event(0, 1, 1, 0);
        is("99", x.latest(), 99);
        row(x, "input 1", 1);
        is("dropped", x.event(0, 0, 1, 0), 2);
        is("100", x.latest(), 100);
        row(x, "input 2", 2);
        x.marks(0, 20000);
        x.event(0, 0, 1, 0);
        is("20000", x.latest(), 20000);
        row(x, "input 4", 4);
    }

    static void p27_byProgressThen() {
        LateSessions x = started(1, 10, 5, 0);
        x.event(0, 0, 1, 0);
        x.marks(0, 500);
        is("it came on time", x.latest(), 0);
        row(x, "none", -1);
    }

    static void p27_byThatLatenessNothingIsDropped() {
        LateSessions x = started(1, 10, 5, 0);
        x.marks(0, 100);
        x.event(0, 60, 1, 0);
        x.event(0, 80, 1, 0);
        is("40", x.latest(), 40);
        is("none by 40", x.again(10, 40, 0), 0);
        is("one by 39", x.again(10, 39, 0), 1);
    }

    static void p27_undoneOnesAreNone() {
        LateSessions x = started(1, 10, 5, 0);
        x.marks(0, 100);
        x.event(0, 50, 1, 0);
        is("50", x.latest(), 50);
        x.undo();
        is("0", x.latest(), 0);
        row(x, "none", -1);
    }

    // -- promise 28

    static void p28_parts1And60() {
        LateSessions x = started(2, 10, 5, 0);
        for (int i = 0; i < 59; i++) {
            x.event(0, 3 * i, 1, 0);
        }
        is("60 of 59", x.parts(0, 60), -2);
        is("59 of 59", x.parts(0, 59), 2);
        x.event(0, 3 * 59, 1, 0);
        is("60 of 60", x.parts(0, 60), 2);
        is("61", x.parts(0, 61), -1);
        is("1", x.parts(0, 1), 99);
        is("0", x.parts(0, 0), -1);
        for (int v : FAR) {
            is("far out", x.parts(0, v), -1);
        }
    }

    static void p28_orMore() {
        LateSessions x = started(2, 10, 5, 0);
        for (int i = 0; i < 61; i++) {
            x.event(0, 3 * i, 1, 0);
        }
        is("60 of 61", x.parts(0, 60), 2);
        is("2 of 61", x.parts(0, 2), 2);
    }

    static void p28_gap1() {
        LateSessions x = started(2, 10, 5, 0);
        x.event(0, 100, 1, 0);
        x.event(0, 101, 1, 0);
        is("by 0 it would be", x.parts(0, 2), -2);
        x.event(1, 100, 1, 0);
        x.event(1, 102, 1, 0);
        is("by 1", x.parts(1, 2), 1);
    }

    static void p28_gap99() {
        LateSessions x = started(2, 10, 5, 0);
        x.event(0, 100, 1, 0);
        x.event(0, 199, 1, 0);
        is("99 between", x.parts(0, 2), 98);
        x.event(1, 100, 1, 0);
        x.event(1, 200, 1, 0);
        is("100 between", x.parts(1, 2), 99);
        x.event(2, 100, 1, 0);
        x.event(2, 201, 1, 0);
        is("101 between", x.parts(2, 2), 99);
        x.event(3, 0, 1, 0);
        x.event(3, 9999, 1, 0);
        is("9999 between", x.parts(3, 2), 99);
    }

    static void p28_ofNoEvents() {
        LateSessions x = started(1, 10, 5, 0);
        is("none", x.parts(0, 1), -2);
        x.event(1, 100, 1, 0);
        x.event(0, 94, 1, 0);
        is("dropped ones are none", x.parts(0, 1), -2);
        is("one", x.parts(1, 1), 99);
        is("two of one", x.parts(1, 2), -2);
    }

    static void p28_ofEqualTimes() {
        LateSessions x = started(2, 10, 5, 0);
        x.event(0, 100, 1, 0);
        x.event(0, 100, 1, 0);
        is("two", x.parts(0, 2), -2);
        is("one", x.parts(0, 1), 99);
    }

    static void p28_keys0And5() {
        LateSessions x = started(2, 10, 5, 0);
        is("0", x.parts(0, 1), -2);
        is("5", x.parts(5, 1), -2);
        is("6", x.parts(6, 1), -1);
        is("-1", x.parts(-1, 1), -1);
        for (int v : FAR) {
            is("far out", x.parts(v, 1), -1);
        }
    }

    static void p28_askedAgain() {
        LateSessions x = started(2, 10, 5, 0);
        x.event(0, 100, 1, 0);
        x.event(0, 200, 1, 0);
        for (int i = 0; i < 3; i++) {
            is("three of two", x.parts(0, 3), -2);
            is("two of two", x.parts(0, 2), 99);
        }
    }

    static void p28_ofOneKeyThenOfAnother() {
        LateSessions x = started(2, 10, 5, 0);
        x.event(0, 0, 1, 0);
        x.event(0, 200, 1, 0);
        x.event(0, 400, 1, 0);
        x.event(1, 100, 1, 0);
        is("three", x.parts(0, 3), 99);
        is("two of one", x.parts(1, 2), -2);
    }

    static void p28_tellsNoRow() {
        LateSessions x = started(2, 10, 5, 0);
        x.event(0, 100, 1, 0);
        is("99", x.parts(0, 1), 99);
        row(x, "of event()", 0, 0);
    }

    // -- promise 29

    static void p29_outOfBounds() {
        LateSessions x = started(2, 10, 5, 0);
        is("the least", x.again(1, 0, 0), 0);
        is("the most", x.again(99, 99, 9), 0);
        int[][] bad = {{0, 5, 0}, {100, 5, 0}, {10, -1, 0}, {10, 100, 0}, {10, 5, -1}, {10, 5, 10}};
        for (int[] b : bad) {
            is("out of bounds", x.again(b[0], b[1], b[2]), -1);
        }
        for (int v : FAR) {
            is("far gap", x.again(v, 5, 0), -1);
            is("far lateness", x.again(10, v, 0), -1);
            is("far early", x.again(10, 5, v), -1);
        }
        row(x, "it stays", 0, 0, 0, 0, 0, 0);
    }

    static void p29_withoutInputs() {
        LateSessions x = started(2, 10, 5, 0);
        is("none", x.again(10, 5, 1), 0);
        row(x, "six times 0", 0, 0, 0, 0, 0, 0);
    }

    static void p29_byGap1And99() {
        LateSessions x = started(2, 10, 5, 0);
        x.event(0, 100, 1, 0);
        x.event(0, 199, 1, 0);
        x.event(1, 100, 1, 0);
        x.event(1, 200, 1, 0);
        x.event(2, 100, 1, 0);
        x.event(2, 101, 1, 0);
        x.event(3, 100, 1, 0);
        x.event(3, 102, 1, 0);
        is("1", x.again(1, 5, 0), 0);
        row(x, "1", 0, 0, 0, 0, 7, 0);
        is("99", x.again(99, 5, 0), 0);
        row(x, "99", 0, 0, 0, 0, 5, 0);
    }

    static void p29_byLateness0() {
        LateSessions x = started(1, 10, 5, 0);
        x.event(0, 100, 1, 0);
        x.event(0, 99, 1, 0);
        x.marks(0, 111);
        is("as it is", x.again(10, 5, 0), 0);
        row(x, "one on time, not closed", 0, 1, 0, 0, 1, 0);
        is("0", x.again(10, 0, 0), 1);
        row(x, "one on time, closed", 0, 1, 0, 0, 0, 1);
    }

    static void p29_byEarly9() {
        LateSessions x = started(2, 10, 5, 0);
        for (int i = 0; i < 9; i++) {
            x.event(0, 100, 1, 0);
        }
        x.again(10, 5, 9);
        row(x, "one", 1, 0, 0, 0, 1, 0);
        x.again(10, 5, 8);
        row(x, "told, taken back", 1, 0, 0, 1, 1, 0);
        x.again(10, 5, 1);
        row(x, "nine times", 9, 0, 0, 8, 1, 0);
        is("nothing was sent", x.count(7), 0);
        is("the settings stay", x.count(3), 0);
    }

    static void p29_lateResults() {
        LateSessions x = started(1, 10, 5, 0);
        x.event(0, 100, 1, 0);
        x.marks(0, 120);
        is("dropped", x.event(0, 100, 1, 0), 2);
        is("none", x.again(10, 20, 0), 0);
        row(x, "on time, taken back, late", 0, 1, 1, 1, 1, 0);
        is("one by 19", x.again(10, 19, 0), 1);
        row(x, "on time", 0, 1, 0, 0, 1, 0);
    }

    static void p29_delaysAsTheyAre() {
        LateSessions x = new LateSessions();
        x.delays(0, 30);
        x.event(0, 100, 1, 0);
        x.event(0, 69, 1, 0);
        is("by 70", x.again(10, 0, 0), 1);
        is("by 1", x.again(10, 1, 0), 0);
    }

    static void p29_idleOnesToo() {
        LateSessions x = started(2, 10, 5, 0);
        x.event(0, 100, 1, 0);
        x.marks(0, 116);
        x.idles(1);
        x.event(0, 105, 1, 0);
        is("dropped", x.again(10, 5, 0), 1);
        row(x, "closed", 0, 1, 0, 0, 0, 1);
    }

    static void p29_marksToo() {
        LateSessions x = started(1, 10, 5, 0);
        x.event(0, 100, 1, 0);
        x.marks(0, 111);
        is("none", x.again(11, 5, 0), 0);
        row(x, "not ripe", 0, 0, 0, 0, 1, 0);
        is("none", x.again(10, 5, 0), 0);
        row(x, "ripe", 0, 1, 0, 0, 1, 0);
    }

    static void p29_160() {
        LateSessions x = started(1, 10, 0, 0);
        for (int i = 0; i < 160; i++) {
            x.event(i % 6, 20 * i, 1, 0);
        }
        is("none", x.again(10, 0, 0), 0);
        row(x, "159 are closed", 0, 159, 0, 0, 1, 159);
        x.again(1, 99, 1);
        row(x, "early ones are taken back", 160, 159, 0, 159, 6, 154);
    }

    // -- promise 30

    static void p30_oneAlone() {
        LateSessions x = started(1, 10, 5, 0);
        is("0", x.without(0), -2);
        is("1", x.without(1), -1);
        is("-1", x.without(-1), -1);
        is("no row", x.count(9), 0);
    }

    static void p30_sources() {
        LateSessions x = started(2, 10, 5, 0);
        is("0", x.without(0), 0);
        is("1", x.without(1), 0);
        row(x, "none", 0, 0, 0);
        is("2", x.without(2), -1);
        is("-1", x.without(-1), -1);
        for (int v : FAR) {
            is("far out", x.without(v), -1);
        }
        row(x, "it stays", 0, 0, 0);
    }

    static void p30_fourSources() {
        LateSessions x = started(4, 10, 5, 0);
        x.marks(0, 10);
        x.marks(1, 20);
        x.marks(2, 30);
        x.marks(3, 40);
        is("0", x.without(0), 20);
        is("1", x.without(1), 10);
        is("2", x.without(2), 10);
        is("3", x.without(3), 10);
        is("4", x.without(4), -1);
        is("progress", x.count(4), 10);
    }

    static void p30_itsInputsHadNotCome() {
        LateSessions x = started(2, 10, 5, 0);
        x.event(0, 100, 1, 0);
        x.event(1, 100, 1, 1);
        x.event(2, 111, 1, 0);
        is("without the second", x.without(1), 111);
        row(x, "a is ripe, not closed", 0, 2, 0);
        is("without the first", x.without(0), 100);
        row(x, "b alone", 0, 1, 0);
    }

    static void p30_dropsMore() {
        LateSessions x = started(2, 10, 5, 0);
        x.event(0, 100, 1, 0);
        x.event(0, 95, 1, 0);
        x.event(1, 94, 1, 0);
        is("none is dropped", x.taken(), 3);
        is("without the second", x.without(1), 100);
        row(x, "one is", 1, 1, 0);
    }

    static void p30_closedAndNot() {
        LateSessions x = started(2, 10, 5, 0);
        x.event(0, 100, 1, 0);
        x.marks(0, 115);
        x.without(1);
        row(x, "not yet", 0, 1, 0);
        x.marks(0, 116);
        x.without(1);
        row(x, "closed", 0, 0, 1);
        is("it is there", x.count(5), 1);
    }

    static void p30_allOthersIdle() {
        LateSessions x = started(2, 10, 5, 0);
        x.marks(0, 50);
        x.idles(1);
        x.idles(0);
        is("the other was idle ahead of its mark", x.without(0), 0);
        is("the first's mark came ahead", x.without(1), 50);
    }

    // -- promise 31

    static void p31_numbers() {
        LateSessions x = started(2, 10, 5, 0);
        none("none came", () -> x.input(0, 0));
        x.event(5, 9999, 1, 1);
        input(x, 0, 0, 1, 9999, 5);
        none("1", () -> x.input(1, 0));
        none("-1", () -> x.input(-1, 0));
        for (int v : FAR) {
            none("far out", () -> x.input(v, 0));
        }
    }

    static void p31_whats0And3() {
        LateSessions x = started(2, 10, 5, 0);
        x.event(0, 0, 1, 0);
        input(x, 0, 0, 0, 0, 0);
        none("4", () -> x.input(0, 4));
        none("-1", () -> x.input(0, -1));
        for (int v : FAR) {
            none("far out", () -> x.input(0, v));
        }
    }

    static void p31_marks() {
        LateSessions x = started(2, 10, 5, 0);
        x.marks(1, 20000);
        input(x, 0, 1, 1, 20000, -1);
    }

    static void p31_idleOnes() {
        LateSessions x = started(2, 10, 5, 0);
        x.marks(1, 20000);
        x.idles(1);
        input(x, 1, 2, 1, 0, -1);
    }

    static void p31_droppedOnes() {
        LateSessions x = started(1, 10, 5, 0);
        x.marks(0, 100);
        x.event(3, 94, 1, 0);
        input(x, 1, 0, 0, 94, 3);
    }

    static void p31_159And160() {
        LateSessions x = withInputs(160);
        x.event(0, 500, 1, 0);
        input(x, 0, 0, 0, 0, 0);
        input(x, 159, 0, 0, 159, 3);
        none("160", () -> x.input(160, 0));
    }

    public static void main(String[] args) {
        runAll(PlayedEdgeTest.class);
    }
}
