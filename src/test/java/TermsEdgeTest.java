/** The edges that sections 1 and 2 of the document name, a test each. */
public final class TermsEdgeTest extends Check {

    // -- progress

    static void progress_isTheLeastMark() {
        LateSessions x = started(3, 10, 5, 0);
        x.marks(0, 50);
        x.marks(1, 40);
        is("the third is at 0", x.count(4), 0);
        x.marks(2, 41);
        is("the least of three", x.count(4), 40);
    }

    static void progress_waitsForNoIdleOne() {
        LateSessions x = started(3, 10, 5, 0);
        x.marks(0, 50);
        x.marks(2, 41);
        x.idles(1);
        is("the least of two", x.count(4), 41);
        x.marks(1, 1);
        is("an idle one's mark holds nothing", x.count(4), 41);
    }

    static void progress_neverGoesBack() {
        LateSessions x = started(2, 10, 5, 0);
        x.idles(1);
        x.marks(0, 50);
        is("it is taken", x.event(0, 45, 1, 1), 1);
        is("the mark is behind", x.source(1, 0), 45);
        is("progress is not", x.count(4), 50);
        x.marks(1, 50);
        is("as much is not more", x.count(4), 50);
        x.marks(1, 51);
        is("the other holds it", x.count(4), 50);
        x.marks(0, 52);
        is("one more", x.count(4), 51);
    }

    static void progress_staysIfAllAreIdle() {
        LateSessions x = started(2, 10, 5, 0);
        x.marks(0, 50);
        x.marks(1, 40);
        x.idles(0);
        is("the other one's", x.count(4), 40);
        x.idles(1);
        is("it stays", x.count(4), 40);
        x.marks(0, 70);
        x.marks(1, 60);
        is("marks of idle ones leave it", x.count(4), 40);
    }

    static void progress_ofOneSourceAlone() {
        LateSessions x = started(1, 10, 5, 0);
        x.idles(0);
        is("it stays", x.count(4), 0);
        x.marks(0, 60);
        is("it stays at 0", x.count(4), 0);
        x.event(0, 0, 1, 0);
        is("it is idle no more, its mark counts", x.count(4), 60);
    }

    static void progress_atTheGreatestMark() {
        LateSessions x = started(4, 10, 5, 0);
        for (int s = 0; s < 4; s++) {
            is("none is sent", x.marks(s, 20000), 0);
        }
        is("20000", x.count(4), 20000);
        is("9999 is dropped then", x.event(0, 9999, 1, 3), 2);
    }

    // -- taken, late, dropped

    static void fate_atProgressLessLateness() {
        LateSessions x = started(1, 10, 5, 0);
        x.marks(0, 100);
        is("at progress", x.would(0, 100, 1, 0), 0);
        is("one below progress", x.would(0, 99, 1, 0), 1);
        is("at progress less lateness", x.would(0, 95, 1, 0), 1);
        is("one below that", x.would(0, 94, 1, 0), 2);
        is("it is taken", x.event(0, 95, 1, 0), 1);
        is("it is dropped", x.event(0, 94, 1, 0), 2);
        is("one is there", x.count(5), 1);
    }

    static void fate_atLatenessZero() {
        LateSessions x = started(1, 10, 0, 0);
        x.marks(0, 100);
        is("at progress", x.event(0, 100, 1, 0), 0);
        is("one below", x.event(0, 99, 1, 0), 2);
    }

    static void fate_atLateness99() {
        LateSessions x = started(1, 10, 99, 0);
        x.marks(0, 100);
        is("at progress less 99", x.event(0, 1, 1, 0), 1);
        is("one below", x.event(0, 0, 1, 0), 2);
    }

    static void fate_belowTime0NoneIsDropped() {
        LateSessions x = started(1, 10, 5, 0);
        x.marks(0, 5);
        is("progress less lateness is 0", x.event(0, 0, 1, 0), 1);
        x.marks(0, 6);
        is("it is 1", x.event(0, 0, 1, 0), 2);
    }

    // -- which sessions melt

    static void melt_atFirstLessGap() {
        LateSessions x = started(1, 10, 50, 0);
        x.event(0, 100, 1, 0);
        x.event(0, 89, 1, 0);
        is("one too far ahead", x.count(5), 2);
        LateSessions y = started(1, 10, 50, 0);
        y.event(0, 100, 1, 0);
        y.event(0, 90, 1, 0);
        is("as far as the gap", y.count(5), 1);
        session(y, 0, 0, 90, 100, 2, 20002);
    }

    static void melt_atLastAndGap() {
        LateSessions x = started(1, 10, 50, 0);
        x.event(0, 100, 1, 0);
        x.event(0, 111, 1, 0);
        is("one too far behind", x.count(5), 2);
        LateSessions y = started(1, 10, 50, 0);
        y.event(0, 100, 1, 0);
        y.event(0, 110, 1, 0);
        is("as far as the gap", y.count(5), 1);
        session(y, 0, 0, 100, 110, 2, 20002);
    }

    static void melt_byGap1() {
        LateSessions x = started(2, 1, 50, 0);
        x.event(0, 100, 1, 0);
        x.event(0, 101, 1, 0);
        is("by one they join", x.count(5), 1);
        x.event(0, 103, 1, 0);
        is("by two they do not", x.count(5), 2);
        x.event(0, 102, 1, 0);
        is("what is between melts both", x.count(5), 1);
    }

    static void melt_byGap99() {
        LateSessions x = started(2, 99, 50, 0);
        x.event(0, 200, 1, 0);
        x.event(0, 299, 1, 0);
        is("by 99 they join", x.count(5), 1);
        x.event(0, 399, 1, 0);
        is("by 100 they do not", x.count(5), 2);
        x.event(0, 101, 1, 0);
        is("by 99 ahead", x.count(5), 2);
        x.event(0, 1, 1, 0);
        is("by 100 ahead", x.count(5), 3);
    }

    static void melt_twoAtBothEdges() {
        LateSessions x = started(2, 10, 50, 0);
        x.event(0, 100, 1, 0);
        x.event(0, 120, 1, 0);
        x.event(0, 110, 1, 0);
        is("both edges at once", x.count(5), 1);
        LateSessions y = started(2, 10, 50, 0);
        y.event(0, 100, 1, 0);
        y.event(0, 121, 1, 0);
        y.event(0, 110, 1, 0);
        is("the first alone", y.count(5), 2);
        session(y, 0, 0, 100, 110, 2);
        session(y, 1, 0, 121, 121, 1);
        LateSessions z = started(2, 10, 50, 0);
        z.event(0, 100, 1, 0);
        z.event(0, 121, 1, 0);
        z.event(0, 111, 1, 0);
        is("the second alone", z.count(5), 2);
        session(z, 0, 0, 100, 100, 1);
        session(z, 1, 0, 111, 121, 2);
    }

    static void melt_betweenTwoWithNeither() {
        LateSessions x = started(2, 10, 50, 0);
        x.event(0, 100, 1, 0);
        x.event(0, 122, 1, 0);
        x.event(0, 111, 1, 0);
        is("one by itself", x.count(5), 3);
        is("it stands between", x.session(1, 1), 111);
    }

    static void melt_insideLeavesFirstAndLast() {
        LateSessions x = started(2, 10, 50, 0);
        x.event(0, 100, 1, 0);
        x.event(0, 110, 1, 0);
        x.event(0, 105, 1, 0);
        session(x, 0, 0, 100, 110, 3);
    }

    static void melt_onlyOfItsKey() {
        LateSessions x = started(2, 10, 50, 0);
        x.event(0, 100, 1, 0);
        x.event(5, 100, 1, 0);
        is("two keys", x.count(5), 2);
    }

    static void melt_countSumMost() {
        LateSessions x = started(2, 10, 50, 0);
        x.event(0, 100, -99, 0);
        session(x, 0, 0, 100, 100, 1, 19901, 0);
        x.event(0, 120, -98, 0);
        x.event(0, 110, -97, 0);
        session(x, 0, 0, 100, 120, 3, 19706, 2);
        x.event(0, 111, 99, 0);
        session(x, 0, 0, 100, 120, 4, 19805, 198);
    }

    static void melt_sumsOfAllInputs() {
        LateSessions x = started(2, 10, 50, 0);
        for (int i = 0; i < 160; i++) {
            x.event(0, 100, 99, 0);
        }
        session(x, 0, 0, 100, 100, 160, 35840, 198);
        LateSessions y = started(2, 10, 50, 0);
        for (int i = 0; i < 160; i++) {
            y.event(0, 100, -99, 0);
        }
        session(y, 0, 0, 100, 100, 160, 4160, 0);
    }

    // -- what is taken back, and told

    static void takenBack_onlyWhatStands() {
        LateSessions x = started(2, 10, 50, 2);
        x.event(0, 100, 1, 0);
        x.event(0, 101, 1, 0);
        x.event(0, 121, 1, 0);
        is("one early result", x.count(7), 1);
        x.event(0, 111, 1, 0);
        is("one is taken back, one is told", x.count(7), 3);
        message(x, 1, 3, 0, 100, 101, 2, 20002);
        message(x, 2, 0, 0, 100, 121, 4, 20004);
    }

    static void takenBack_byFirst() {
        LateSessions x = started(2, 10, 50, 1);
        x.event(0, 120, 2, 0);
        x.event(0, 100, 1, 0);
        x.event(0, 110, 4, 0);
        message(x, 2, 3, 0, 100, 100, 1, 20001);
        message(x, 3, 3, 0, 120, 120, 1, 20002);
        message(x, 4, 0, 0, 100, 120, 3, 20007);
        is("no more", x.count(7), 5);
    }

    static void takenBack_onlyOnce() {
        LateSessions x = started(2, 10, 50, 2);
        x.event(0, 100, 1, 0);
        x.event(0, 101, 1, 0);
        x.event(0, 102, 1, 0);
        is("told, taken back", x.count(7), 2);
        x.event(0, 103, 1, 0);
        is("told anew, nothing stood", x.count(7), 3);
        is("one was taken back", x.sent(3), 1);
    }

    static void ripe_atLastAndGap() {
        LateSessions x = started(1, 10, 50, 0);
        x.event(0, 100, 1, 0);
        is("together as much as progress", x.marks(0, 110), 0);
        is("not ripe", x.session(0, 6), 0);
        is("one below progress", x.marks(0, 111), 1);
        is("ripe", x.session(0, 6), 1);
    }

    static void ripe_newOneIsToldLate() {
        LateSessions x = started(1, 10, 50, 1);
        x.marks(0, 111);
        x.event(0, 100, 1, 0);
        is("late, and no early one", x.count(7), 1);
        message(x, 0, 2, 0, 100, 100, 1, 20001);
        x.event(1, 101, 1, 0);
        message(x, 1, 0, 1, 101, 101, 1, 20001);
        is("its last and gap are not below progress", x.count(7), 2);
    }

    static void ripe_noMoreByAnEventBehind() {
        LateSessions x = started(1, 10, 50, 0);
        x.event(0, 100, 1, 0);
        x.marks(0, 111);
        is("ripe", x.session(0, 6), 1);
        x.event(0, 101, 1, 0);
        session(x, 0, 0, 100, 101, 2, 20002, 100, 0, 0);
        is("taken back, not told anew", x.count(7), 2);
        is("told on time once more", x.marks(0, 112), 1);
        message(x, 2, 1, 0, 100, 101, 2, 20002);
    }

    static void early_zeroTellsNone() {
        LateSessions x = started(2, 10, 50, 0);
        for (int i = 0; i < 20; i++) {
            x.event(0, 100, 1, 0);
        }
        is("none", x.count(7), 0);
    }

    static void early_oneTellsEach() {
        LateSessions x = started(2, 10, 50, 1);
        for (int i = 1; i <= 9; i++) {
            x.event(0, 100, 1, 0);
            is("told " + i, x.sent(0), i);
            is("taken back " + i, x.sent(3), i - 1);
        }
    }

    static void early_nineTellsMultiplesOfNine() {
        LateSessions x = started(2, 10, 50, 9);
        for (int i = 1; i <= 28; i++) {
            x.event(0, 100, 1, 0);
            is("told by " + i, x.sent(0), i / 9);
            is("taken back by " + i, x.sent(3), (i - 1) / 9);
        }
    }

    static void early_countOfWhatMelted() {
        LateSessions x = started(2, 10, 50, 3);
        x.event(0, 100, 1, 0);
        x.event(0, 120, 1, 0);
        is("none by one each", x.count(7), 0);
        x.event(0, 110, 1, 0);
        message(x, 0, 0, 0, 100, 120, 3, 20003);
    }

    // -- marks by events

    static void mark_isTimeLessDelay() {
        LateSessions x = new LateSessions();
        x.event(0, 20, 1, 0);
        is("20 less 20", x.source(0, 0), 0);
        x.event(0, 21, 1, 0);
        is("21 less 20", x.source(0, 0), 1);
    }

    static void mark_neverBelow0() {
        LateSessions x = new LateSessions();
        x.event(0, 0, 1, 0);
        is("0 less 20", x.source(0, 0), 0);
        is("progress", x.count(4), 0);
        x.event(0, 19, 1, 0);
        is("19 less 20", x.source(0, 0), 0);
    }

    static void mark_onlyIfThatIsMore() {
        LateSessions x = started(1, 10, 50, 0);
        x.event(0, 100, 1, 0);
        x.event(0, 100, 1, 0);
        is("as much", x.source(0, 0), 100);
        x.event(0, 99, 1, 0);
        is("less", x.source(0, 0), 100);
        x.event(0, 101, 1, 0);
        is("more", x.source(0, 0), 101);
    }

    static void mark_byTheGreatestDelay() {
        LateSessions x = new LateSessions();
        x.delays(0, 999);
        x.event(0, 999, 1, 0);
        is("999 less 999", x.source(0, 0), 0);
        x.event(0, 9999, 1, 0);
        is("9999 less 999", x.source(0, 0), 9000);
        is("progress", x.count(4), 9000);
    }

    static void mark_atTime9999() {
        LateSessions x = started(1, 10, 50, 0);
        x.event(0, 9999, 1, 0);
        is("9999", x.source(0, 0), 9999);
        x.marks(0, 10009);
        is("not ripe", x.session(0, 6), 0);
        is("ripe", x.marks(0, 10010), 1);
        x.marks(0, 10059);
        is("not closed", x.count(5), 1);
        x.marks(0, 10060);
        is("closed", x.count(5), 0);
    }

    static void mark_byOneThatIsDropped() {
        LateSessions x = started(2, 10, 5, 0);
        x.marks(0, 100);
        x.idles(1);
        is("dropped", x.event(0, 50, 1, 1), 2);
        source(x, 1, 50, 0, 0, 1, 1, -1);
        is("progress", x.count(4), 100);
        is("no session", x.count(5), 0);
    }

    static void mark_droppedOneLetsProgressRise() {
        LateSessions x = started(2, 10, 5, 0);
        x.event(0, 90, 1, 1);
        x.idles(1);
        x.marks(0, 97);
        x.marks(1, 101);
        x.idles(0);
        is("all idle", x.count(4), 97);
        is("dropped", x.event(0, 91, 1, 1), 2);
        row(x, "its source is not idle any more: one gets ripe", 1, 101);
    }

    static void idle_noMoreByAnEvent() {
        LateSessions x = started(2, 10, 5, 0);
        x.idles(1);
        x.event(0, 10, 1, 1);
        is("not idle", x.source(1, 2), 0);
        is("it can be once more", x.idles(1), 0);
    }

    static void order_meltsAheadOfRising() {
        LateSessions x = started(1, 10, 5, 0);
        x.event(0, 100, 1, 0);
        x.event(0, 110, 1, 0);
        is("joined ahead of progress 110", x.count(5), 1);
        x.event(0, 120, 1, 0);
        is("joined ahead of progress 120", x.session(0, 3), 3);
        is("none told", x.count(7), 0);
    }

    // -- progress rises

    static void rises_byLastThenByKeys() {
        LateSessions x = started(2, 10, 5, 0);
        x.event(5, 100, 1, 0);
        x.event(0, 101, 1, 0);
        x.event(4, 101, 1, 0);
        x.event(1, 101, 1, 0);
        x.event(2, 99, 1, 0);
        x.event(2, 102, 1, 0);
        x.marks(0, 500);
        is("all five", x.marks(1, 500), 5);
        int[] keys = {5, 0, 1, 4, 2};
        for (int i = 0; i < 5; i++) {
            is("message " + i, x.message(i, 1), keys[i]);
            is("closed as " + i, x.finals(i, 0), keys[i]);
        }
    }

    static void rises_takesBackEachAheadOfItsOwn() {
        LateSessions x = started(2, 10, 5, 1);
        x.event(1, 100, 1, 0);
        x.event(0, 100, 2, 0);
        x.marks(0, 500);
        is("two times two", x.marks(1, 111), 4);
        message(x, 2, 3, 0, 100, 100, 1, 20002);
        message(x, 3, 1, 0, 100, 100, 1, 20002);
        message(x, 4, 3, 1, 100, 100, 1, 20001);
        message(x, 5, 1, 1, 100, 100, 1, 20001);
    }

    static void rises_whatWasRipeIsNotToldAgain() {
        LateSessions x = started(1, 10, 50, 0);
        x.event(0, 100, 1, 0);
        is("ripe by that", x.marks(0, 111), 1);
        is("it was", x.marks(0, 112), 0);
        is("nor when it is closed", x.marks(0, 161), 0);
        is("closed", x.count(5), 0);
    }

    static void closed_atLastGapLateness() {
        LateSessions x = started(1, 10, 5, 0);
        x.event(0, 100, 1, 0);
        x.marks(0, 115);
        is("together as much as progress", x.count(5), 1);
        x.marks(0, 116);
        is("one below progress", x.count(5), 0);
        finals(x, 0, 0, 100, 100, 1, 20001, 100, 1);
    }

    static void closed_atOnceByLateness0() {
        LateSessions x = started(1, 10, 0, 0);
        x.event(0, 100, 1, 0);
        x.marks(0, 110);
        is("not yet", x.closed(0), 0);
        is("ripe and closed at once", x.marks(0, 111), 1);
        is("closed", x.closed(0), 1);
        finals(x, 0, 0, 100, 100, 1, 20001, 100, 1);
    }

    static void closed_ripeAndOverByOneRise() {
        LateSessions x = started(1, 10, 50, 1);
        x.event(0, 100, 1, 0);
        is("taken back, on time", x.marks(0, 161), 2);
        finals(x, 0, 0, 100, 100, 1, 20001, 100, 1);
        is("it stands", x.stands(), 1);
    }

    static void closed_neverOpensAgain() {
        LateSessions x = started(1, 10, 5, 0);
        x.event(0, 100, 1, 0);
        x.marks(0, 116);
        is("the least time that is taken", x.event(0, 111, 1, 0), 1);
        session(x, 0, 0, 111, 111, 1);
        finals(x, 0, 0, 100, 100, 1);
        is("nothing is taken back", x.sent(3), 0);
    }

    /** By keys the last one is closed first, with as many sessions as there can be. */
    static void closed_160ByOneRise() {
        LateSessions x = started(2, 1, 0, 0);
        for (int i = 0; i < 159; i++) {
            x.event(5 - i / 32, 3 * i, 1, 0);
        }
        is("159 sessions", x.count(5), 159);
        is("the 160th", x.event(0, 9999, 1, 1), 0);
        row(x, "those that are below 473", 158, 474);
        is("two are left", x.count(5), 2);
        session(x, 0, 0, 9999, 9999, 1, 20001, 100, 0, 0);
        session(x, 1, 1, 474, 474, 1, 20001, 100, 0, 0);
        finals(x, 118, 2, 354, 354, 1, 20001, 100, 1);
        finals(x, 157, 1, 471, 471, 1, 20001, 100, 1);
    }

    // -- messages, inputs

    static void messages_takenBackTellWhatWasTold() {
        LateSessions x = started(1, 10, 50, 0);
        x.event(0, 100, 7, 0);
        x.marks(0, 120);
        x.event(0, 95, -3, 0);
        message(x, 0, 1, 0, 100, 100, 1, 20007);
        message(x, 1, 3, 0, 100, 100, 1, 20007);
        message(x, 2, 2, 0, 95, 100, 2, 20004);
    }

    static void inputs_160OfAllKindsTogether() {
        LateSessions x = started(2, 10, 5, 0);
        for (int i = 0; i < 157; i++) {
            x.marks(0, i + 1);
        }
        is("an event", x.event(0, 157, 1, 0), 0);
        is("an idle one", x.idles(0), 0);
        is("the 160th", x.marks(1, 1), 0);
        is("160", x.count(6), 160);
        is("no event", x.event(0, 157, 1, 0), -3);
        is("no mark", x.marks(1, 2), -3);
        is("none idle", x.idles(1), -3);
        is("160 still", x.count(6), 160);
    }

    static void inputs_sinceStart() {
        LateSessions x = withInputs(160);
        is("no more", x.event(0, 500, 1, 0), -3);
        x.start(1, 10, 5, 0);
        is("none", x.count(6), 0);
        for (int i = 0; i < 160; i++) {
            is("input " + i, x.event(0, 0, 1, 0), 0);
        }
        is("no more than 160", x.event(0, 0, 1, 0), -3);
    }

    static void inputs_droppedOnesCount() {
        LateSessions x = started(1, 10, 0, 0);
        x.marks(0, 20000);
        for (int i = 0; i < 159; i++) {
            is("dropped " + i, x.event(0, 9999, 1, 0), 2);
        }
        is("160", x.count(6), 160);
        is("no more", x.event(0, 9999, 1, 0), -3);
    }

    // -- section 2

    static void row_isEmptyAtFirst() {
        LateSessions x = new LateSessions();
        is("no numbers", x.count(9), 0);
        none("row(0)", () -> x.row(0));
    }

    static void row_isOfTheLatestCallAlone() {
        LateSessions x = started(1, 10, 5, 0);
        x.again(10, 5, 0);
        is("six", x.count(9), 6);
        x.sent(0);
        is("one", x.count(9), 1);
        none("no second", () -> x.row(1));
    }

    static void row_staysWithAnswersBelow0() {
        LateSessions x = started(2, 10, 5, 0);
        x.again(10, 5, 0);
        x.next();
        x.slow();
        x.at(0, 0);
        x.parts(0, 1);
        x.marks(0, 0);
        x.idles(0);
        row(x, "idles(), the latest not below 0", 0);
        x.again(10, 5, 0);
        x.idles(0);
        x.delays(1, 0);
        x.delays(1, 1);
        x.ahead(-1);
        x.without(2);
        x.years(1, 0);
        events(x, "x");
        day(x, "x");
        is("six still", x.count(9), 6);
    }

    static void none_aheadOfOtherAnswersBelow0() {
        LateSessions x = withInputs(160);
        is("event()", x.event(6, 0, 0, 0), -1);
        is("delays()", x.delays(0, 1000), -1);
        is("marks() of a time that it is not less than", x.marks(0, -1), -1);
        is("idles()", x.idles(2), -1);
        is("ahead()", x.ahead(-1), -1);
        is("events() at 0", events(x, "x"), -1);
        is("day() at 0", day(x, "x"), -1);
        LateSessions y = started(1, 10, 5, 0);
        is("without()", y.without(1), -1);
        is("at()", y.at(0, 10000), -1);
        is("parts()", y.parts(0, 61), -1);
    }

    public static void main(String[] args) {
        runAll(TermsEdgeTest.class);
    }
}
