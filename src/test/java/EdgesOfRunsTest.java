/**
 * The boundary cases of parts 2 and 3 of the terms and of promises 14 to 28, each sentence with a test of its own that
 * bears it as its comment. Refusals are in RefusalsTest.
 */
public final class EdgesOfRunsTest {
    private static final int NONE = -1, UNKNOWN = -1000001, OUTSIDE = -1000002, STATE = -1000003, LOST = -1000005;

    /** Anchor 0 and tag 1, FLIGHT 50, no SLIP: an EXCHANGE takes 350, and 10 behind it. */
    private static final String PAIR = "a0,0+0@0;t3,4+0@0";
    /** Tag 0, FLIGHT 100 from anchors at one place, so that RANGE is 100 and EXTRA. */
    private static final String ONE_PLACE = "t10,0+0@0" + ";a0,0+0@0".repeat(6);

    private static final Check CHECK = new Check();

    public static void main(String[] args) {
        shortestExchange();
        longestExchange();
        oneSidedFloors();
        twoSidedFloors();
        rangeOfMinusOne();
        rangeFromThenOn();
        exchangeBeyondTheEndOfTime();
        lostAtTheEndOfTime();
        lostLeavesAllElse();
        clocksAtTheEndOfTime();
        idleOnBothSides();
        idleToTheEndOfTime();
        lastOnBothSides();
        heardOfTheLatest();
        misfitOnBothSides();
        misfitByNone();
        fitOfSeveral();
        fitInTheCorners();
        fitAtEachPlace();
        placedByThree();
        threeStay();
        aboveLimit();
        limitsOnBothSides();
        leftOutOfSeveral();
        leftOutByTheFirstPlace();
        leftOutAnchor0();
        leftOutAgainAndAgain();
        leftOutDownToThree();
        placedAnew();
        wants();
        dealtByRisingPeriods();
        dealtToTheLast();
        noRoom();
        dealtAnew();
        slotsOnBothSides();
        frameOfNothing();
        frameOfTheLongest();
        frameSlotsBegin();
        frameNext();
        frameLost();
        frameToTheEndOfTime();
        aboutOnBothSides();
        countOnBothSides();
        digestWithoutAField();
        digestWithAFieldAlone();
        digestOfLostOnly();
        digestOfOnePlaced();
        digestOfTwoNodesToSeven();
        sevenNodesByAnchor0();
        CHECK.end("EdgesOfRunsTest");
    }

    private static void same(String what, long got, long due) {
        CHECK.same(what, got, due);
    }

    private static SlipRanges fieldOf(String text) {
        return Check.fieldOf(text);
    }

    private static void lastIs(String what, SlipRanges r, int... due) {
        for (int i = 0; i < due.length; i++) same(what + ", last " + (i + 1), r.last(i + 1), due[i]);
    }

    private static SlipRanges at(String text, int time) {
        SlipRanges r = fieldOf(text);
        for (int i = 0; i < time / 99999; i++) r.idle(99999);
        same("TIME", r.idle(time % 99999), time);
        return r;
    }

    /** W is 0, DELAYS are 10. */
    private static void shortestExchange() {
        SlipRanges r = fieldOf("a9,9+0@0;t9,9+0@0");
        r.delay(0, 10);
        r.delay(1, 10);
        same("TWO-SIDED", r.exchange(1, 0), 0);
        lastIs("shortest", r, 0, 0, 10, 10, 20, 20, 0, 0, 0, 1, 0);
        same("TIME is T6 + 10", r.about(3), 30);
    }

    /** W is 438 and 150, DELAYS are 300. */
    private static void longestExchange() {
        SlipRanges r = fieldOf("a0,0+0@0;t31,31+0@0");
        longest(r, 1, 0);
        same("TWO-SIDED", r.exchange(1, 0), 588);
        lastIs("longest", r, 0, 588, 888, 1476, 1776, 2364, 588, 588, 438, 1, 0);
        same("TIME is T6 + 10", r.about(3), 2374);
    }

    private static void longest(SlipRanges r, int tag, int anchor) {
        r.delay(tag, 300);
        r.delay(anchor, 300);
        r.block(tag, anchor);
        r.path(tag, anchor, 150, 4);
    }

    private static SlipRanges slipping(String text) {
        SlipRanges r = fieldOf(text);
        r.delay(0, 10);
        for (int anchor = 1; anchor < r.about(0); anchor++) r.delay(anchor, 300);
        return r;
    }

    /** "ONE-SIDED is Math.floorDiv(ROUND A - REPLY A, 2)": here of 297 - 302. */
    private static void oneSidedFloors() {
        SlipRanges r = slipping("t9,9-99@0;a9,9+99@0");
        r.exchange(0, 1);
        lastIs("ONE-SIDED", r, 0, 0, 302, 297, 306, 313, -3);
        SlipRanges s = slipping("t9,9+99@0;a9,9-99@0");
        s.exchange(0, 1);
        lastIs("ONE-SIDED above 0", s, 0, 0, 297, 302, 313, 306, 2);
    }

    /** "TWO-SIDED is Math.floorDiv(..)": here of -549 and 549 by 619. */
    private static void twoSidedFloors() {
        same("below 0", slipping("t9,9+99@0;a9,9-99@0").exchange(0, 1), -1);
        same("above 0", slipping("t9,9-99@0;a9,9+99@0").exchange(0, 1), 0);
    }

    /** "RANGE of a TAG and an ANCHOR (it can be below 0, -1 too); NONE: there is none yet". */
    private static void rangeOfMinusOne() {
        SlipRanges r = slipping("t9,9+99@0;a9,9-99@0;a9,9-99@0;a9,9-99@0;a9,9-99@0");
        for (int anchor = 1; anchor <= 4; anchor++) {
            same("there is none yet", r.range(0, anchor), NONE);
            same("MISFIT by those that have one", r.misfit(0, 9, 9), anchor - 1);
            same("PLACED by three", r.about(7), anchor > 3 ? 1 : 0);
            r.exchange(0, anchor);
            same("it is -1", r.range(0, anchor), -1);
            // At whole ten thousands the CLOCKS slip as they did at 0.
            r.idle(10000 - 320);
        }
        placedIs("RANGES of -1", r, 0, 9, 9, 4, 2 + 4 + 8 + 16, 0);
        r.limit(3);
        placedIs("one of them LEFT OUT", r, 0, 9, 9, 3, 4 + 8 + 16, 2);
    }

    private static void placedIs(String what, SlipRanges r, int tag, int... due) {
        for (int i = 0; i <= 4; i++) same(what + ", placed " + i, r.placed(tag, i), due[i]);
    }

    /** "RANGE of the two is TWO-SIDED from then on". */
    private static void rangeFromThenOn() {
        SlipRanges r = fieldOf("a0,0+0@0;t3,4+0@0;a6,8+0@0;t0,0+0@0");
        r.exchange(1, 0);
        same("of the two", r.range(1, 0), 50);
        same("not of another ANCHOR", r.range(1, 2), NONE);
        same("not of another TAG", r.range(3, 0), NONE);
        same("0 is a RANGE", r.exchange(3, 0), 0);
        same("of these two", r.range(3, 0), 0);
        same("and the first stays", r.range(1, 0), 50);
    }

    /** "it may be beyond 9999999 by that: an EXCHANGE is not refused". */
    private static void exchangeBeyondTheEndOfTime() {
        SlipRanges r = at(PAIR, 9999639);
        same("to the end", r.exchange(1, 0), 50);
        same("TIME at the end", r.about(3), 9999999);
        same("beyond it", r.exchange(1, 0), 50);
        same("TIME beyond", r.about(3), 10000359);
        same("further", r.exchange(1, 0), 50);
        same("TIME further", r.about(3), 10000719);
        same("S6", r.last(6), 10000709);
        same("all else is not refused", r.level(5), 4);
        same("nor this", r.delay(0, 10), 100);
    }

    /** "Without a FIRST PATH it is LOST: TIME is 1 more", there too. */
    private static void lostAtTheEndOfTime() {
        SlipRanges r = at(PAIR, 9999998);
        r.block(1, 0);
        same("LOST", r.exchange(1, 0), LOST);
        same("to the end", r.about(3), 9999999);
        same("LOST again", r.exchange(1, 0), LOST);
        same("beyond", r.about(3), 10000000);
        same("no way back", r.idle(0), OUTSIDE);
    }

    /** "all else stays (RANGE, STAMPS, too)". */
    private static void lostLeavesAllElse() {
        SlipRanges r = fieldOf("a0,0+0@0;t3,4+0@0;a6,8+0@0");
        r.exchange(1, 0);
        same("heard", r.heard(2), 50);
        r.block(1, 0);
        r.block(1, 2);
        same("of the same two", r.exchange(1, 0), LOST);
        same("of another ANCHOR", r.exchange(1, 2), LOST);
        lastIs("stays", r, 0, 50, 150, 200, 300, 350, 50, 50, 50, 1, 0);
        same("RANGE stays", r.range(1, 0), 50);
        same("no RANGE stays none", r.range(1, 2), NONE);
        same("heard, still", r.heard(2), 50);
        same("NEXT stays", r.node(1, 8), 0);
        same("TIME", r.about(3), 362);
        same("EXCHANGES ever", r.count(1), 3);
        same("those that were LOST", r.count(2), 2);
    }

    private static void clocksAtTheEndOfTime() {
        SlipRanges r = at("a0,0+99@9999;t3,4-99@0", 9999999);
        same("on", r.node(0, 6), 9999 + 9999999 + 98999);
        same("back", r.node(1, 6), 9999999 - 99000);
        r.exchange(1, 0);
        same("S1", r.last(1), 9999999 - 99000);
        same("S6", r.last(6), 9999 + 10000349 + 99003);
    }

    /** "OUTSIDE: by (0 to 99999)". */
    private static void idleOnBothSides() {
        SlipRanges r = fieldOf(PAIR);
        same("by nothing", r.idle(0), 0);
        same("by one", r.idle(1), 1);
        same("by most", r.idle(99999), 100000);
        same("by more", r.idle(100000), OUTSIDE);
        same("by less than nothing", r.idle(-1), OUTSIDE);
        same("TIME", r.about(3), 100000);
    }

    /** "or TIME would be above 9999999". */
    private static void idleToTheEndOfTime() {
        SlipRanges r = at(PAIR, 9999990);
        same("above by one", r.idle(10), OUTSIDE);
        same("to the end", r.idle(9), 9999999);
        same("by nothing at the end", r.idle(0), 9999999);
        same("above", r.idle(1), OUTSIDE);
        same("TIME", r.about(3), 9999999);
    }

    /** "what = 1 to 6 STAMPS .. 11 the ANCHOR"; "STATE: there was none". */
    private static void lastOnBothSides() {
        SlipRanges r = fieldOf("t0,0+0@1000;a3,4+0@2000;a0,0+0@0");
        for (int what = 1; what <= 11; what++) same("there was none " + what, r.last(what), STATE);
        r.path(0, 1, 0, 9);
        r.block(0, 1);
        r.path(0, 1, 20, 9);
        r.exchange(0, 1);
        lastIs("all eleven", r, 1000, 2070, 2170, 1240, 1340, 2410, 70, 70, 50, 0, 1);
        same("below", r.last(0), OUTSIDE);
        same("above", r.last(12), OUTSIDE);
    }

    /** "HEARD by another NODE of the latest EXCHANGE that was not LOST". */
    private static void heardOfTheLatest() {
        SlipRanges r = fieldOf("a0,0+0@0;t3,4+0@0;a6,8+0@9999;t3,4+0@0;a0,0+0@7");
        same("there was none", r.heard(2), STATE);
        r.exchange(1, 0);
        same("further behind the TAG", r.heard(2), 100 - 50 + 150 - 100 - 50);
        same("where the TAG is", r.heard(3), 50 + 150 - 100 - 50);
        same("where the ANCHOR is, it can be below 0", r.heard(4), 150 - 50 - 100 - 50);
        same("the TAG", r.heard(1), UNKNOWN);
        same("the ANCHOR", r.heard(0), UNKNOWN);
        r.exchange(3, 4);
        same("the TAG then", r.heard(3), UNKNOWN);
        same("the one before", r.heard(1), 50);
    }

    /** "MISFIT of a TAG at x, y (0 to 31)". */
    private static void misfitOnBothSides() {
        SlipRanges r = fieldOf("t0,0+0@0;a0,0+0@0;a31,31+0@0");
        r.exchange(0, 1);
        same("one ANCHOR, there", r.misfit(0, 0, 0), 0);
        same("x 31", r.misfit(0, 31, 0), 310 * 310);
        same("y 31", r.misfit(0, 0, 31), 310 * 310);
        same("both", r.misfit(0, 31, 31), 438 * 438);
        r.exchange(0, 2);
        same("both ANCHORS", r.misfit(0, 31, 31), 438 * 438 + 438 * 438);
        same("together", r.misfit(0, 31, 0), 310 * 310 + (438 - 310) * (438 - 310));
    }

    /** "(0: none has)". */
    private static void misfitByNone() {
        SlipRanges r = fieldOf("t5,5+0@0;a0,0+0@0;t0,0+0@0");
        same("none has", r.misfit(0, 31, 31), 0);
        r.exchange(2, 1);
        same("another TAG's", r.misfit(2, 31, 31), 438 * 438);
        same("another TAG's is not its own", r.misfit(0, 31, 31), 0);
        r.block(0, 1);
        r.exchange(0, 1);
        same("one that was LOST is none", r.misfit(0, 31, 31), 0);
    }

    private static SlipRanges ranged(String text, int tag, int... anchors) {
        SlipRanges r = fieldOf(text);
        for (int anchor : anchors) r.exchange(tag, anchor);
        return r;
    }

    /** "of several the least y, of these the least x": FLIGHT 60 is at 36 and at 37 squared steps. */
    private static void fitOfSeveral() {
        SlipRanges r = ranged("t16,10+0@0;a10,10+0@0;a10,10+0@0;a10,10+0@0", 0, 1, 2, 3);
        placedIs("all round", r, 0, 9, 4, 0, 14, 0);
        SlipRanges s = ranged("t16,10+0@0;a10,2+0@0;a10,10+0@0;a10,18+0@0", 0, 1, 2, 3);
        placedIs("the least x", s, 0, 4, 10, 0, 14, 0);
        SlipRanges t = ranged("t10,16+0@0;a2,10+0@0;a10,10+0@0;a18,10+0@0", 0, 1, 2, 3);
        placedIs("the least y", t, 0, 10, 4, 0, 14, 0);
    }

    /** The first place that is looked at and the last. */
    private static void fitInTheCorners() {
        String three = ";a0,0+0@0;a31,0+0@0;a0,31+0@0";
        int[][] corners = {{0, 0}, {31, 0}, {0, 31}, {31, 31}};
        for (int[] corner : corners) {
            SlipRanges r = ranged("t" + corner[0] + "," + corner[1] + "+0@0" + three, 0, 1, 2, 3);
            placedIs("corner " + corner[0] + ", " + corner[1], r, 0, corner[0], corner[1], 0, 14, 0);
        }
        SlipRanges r = fieldOf("t31,31+0@0;a0,0+0@0;a0,0+0@0;a0,0+0@0");
        for (int anchor = 1; anchor <= 3; anchor++) echo(r, anchor, 150);
        placedIs("beyond the corner", r, 0, 31, 31, 3 * 150 * 150, 14, 0);
    }

    /** The first of all places, row by row, that is as far from each ANCHOR as that one is. */
    private static int firstAsFar(SlipRanges r, int tag, int... anchors) {
        for (int place = 0; place < 32 * 32; place++) {
            int off = 0;
            for (int anchor : anchors) {
                int dx = r.node(anchor, 1) - place % 32;
                int dy = r.node(anchor, 2) - place / 32;
                off += Math.abs((int) Math.sqrt(100 * (dx * dx + dy * dy)) - r.flight(tag, anchor));
            }
            if (off == 0) return place;
        }
        return -1;
    }

    /** "FIT by some ANCHORS: where MISFIT by them is least": each place may be that, also when one is LEFT OUT. */
    private static void fitAtEachPlace() {
        for (int place = 0; place < 32 * 32; place++) {
            String text = "t" + place % 32 + "," + place / 32 + "+0@0;a31,31+0@0;a0,0+0@0;a31,0+0@0;a0,31+0@0";
            int due = firstAsFar(fieldOf(text), 0, 2, 3, 4);
            SlipRanges r = ranged(text, 0, 2, 3, 4);
            placedIs("at place " + place, r, 0, due % 32, due / 32, 0, 4 + 8 + 16, 0);
            echo(r, 1, 150);
            r.limit(0);
            placedIs("and one LEFT OUT at place " + place, r, 0, due % 32, due / 32, 0, 4 + 8 + 16, 2);
        }
    }

    private static void echo(SlipRanges r, int anchor, int extra) {
        r.block(0, anchor);
        r.path(0, anchor, extra, 9);
        r.exchange(0, anchor);
    }

    /** "A TAG is PLACED, if three ANCHORS or more have a RANGE with it"; "STATE: it is not PLACED". */
    private static void placedByThree() {
        SlipRanges r = fieldOf(ONE_PLACE);
        for (int anchor = 1; anchor <= 6; anchor++) {
            same("by fewer", r.placed(0, 3), anchor > 3 ? (1 << anchor) - 2 : STATE);
            same("how many are", r.about(7), anchor > 3 ? 1 : 0);
            r.exchange(0, anchor);
            r.exchange(0, anchor);
        }
        placedIs("by six", r, 0, 10, 0, 0, 2 + 4 + 8 + 16 + 32 + 64, 0);
        SlipRanges four = fieldOf("t0,0+0@0;t1,1+0@0;t2,2+0@0;t3,3+0@0;a9,9+0@0;a9,0+0@0;a0,9+0@0");
        for (int tag = 0; tag < 4; tag++) {
            for (int anchor = 4; anchor <= 6; anchor++) four.exchange(tag, anchor);
            same("how many TAGS are", four.about(7), tag + 1);
            placedIs("TAG " + tag, four, tag, tag, tag, 0, 16 + 32 + 64, 0);
        }
    }

    /** RANGES are 100 and these EXTRAS, of anchors 1, 2 and so on. */
    private static SlipRanges echoes(int... extras) {
        SlipRanges r = fieldOf(ONE_PLACE);
        for (int i = 0; i < extras.length; i++) echo(r, i + 1, extras[i]);
        return r;
    }

    /** "while there are more than three". */
    private static void threeStay() {
        SlipRanges r = echoes(0, 100, 0);
        r.limit(0);
        placedIs("three, whatever MISFIT is", r, 0, 13, 3, 33 * 33 * 2 + 67 * 67, 14, 0);
        echo(r, 4, 0);
        placedIs("of four one is LEFT OUT", r, 0, 10, 0, 0, 2 + 8 + 16, 4);
    }

    /** "and MISFIT at FIT by them is above LIMIT (.. 400 at first)": 100, 100, 100, 124 fit best at 106, by 432. */
    private static void aboveLimit() {
        SlipRanges r = echoes(0, 0, 0, 24);
        placedIs("432 is above 400", r, 0, 10, 0, 0, 14, 16);
        r.limit(432);
        placedIs("432 is not above 432", r, 0, 8, 7, 432, 30, 0);
        r.limit(431);
        placedIs("432 is above 431", r, 0, 10, 0, 0, 14, 16);
        SlipRanges s = echoes(0, 20, 20, 0);
        placedIs("400 is not above 400", s, 0, 11, 0, 400, 30, 0);
        s.limit(399);
        same("400 is above 399", s.placed(0, 4), 2);
    }

    /** "LIMIT (0 to 9999, 400 at first)". */
    private static void limitsOnBothSides() {
        SlipRanges r = fieldOf(PAIR);
        same("at first", r.limit(0), 400);
        same("0", r.limit(1), 0);
        same("1", r.limit(9998), 1);
        same("9998", r.limit(9999), 9998);
        same("9999", r.about(5), 9999);
        SlipRanges exact = echoes(0, 0, 0, 0);
        exact.limit(0);
        placedIs("0 is not above 0", exact, 0, 10, 0, 0, 30, 0);
        SlipRanges off = echoes(0, 0, 100, 100);
        off.limit(9999);
        placedIs("10000 is above 9999", off, 0, 16, 5, 6667, 4 + 8 + 16, 2);
    }

    /** "without which MISFIT at FIT by the others is least (of several the least number)". */
    private static void leftOutOfSeveral() {
        SlipRanges r = echoes(0, 100, 0, 0, 100);
        r.limit(7500);
        placedIs("2 or 5", r, 0, 11, 6, 7500, 2 + 8 + 16 + 32, 4);
        r = echoes(100, 100, 0, 0, 0);
        r.limit(7500);
        placedIs("1 or 2", r, 0, 11, 6, 7500, 4 + 8 + 16 + 32, 2);
        r = echoes(0, 0, 0, 100, 100);
        r.limit(7500);
        placedIs("4 or 5", r, 0, 11, 6, 7500, 2 + 4 + 8 + 32, 16);
        SlipRanges first = fieldOf("a0,0+0@0;a0,0+0@0;t10,0+0@0;a0,0+0@0;a0,0+0@0");
        for (int anchor : new int[] {0, 1, 3, 4}) first.exchange(2, anchor);
        first.limit(0);
        placedIs("nothing to leave out", first, 2, 10, 0, 0, 1 + 2 + 8 + 16, 0);
    }

    /** Without 2 MISFIT is 0 at 0, 0 alone; beside that place 1 would seem to fit worst (40, and 73 without 2). */
    private static void leftOutByTheFirstPlace() {
        SlipRanges r = ranged("t0,0+0@0;a3,3+0@0;a3,3+0@0;a6,6+0@0;a3,31+0@0", 0, 1, 3, 4);
        echo(r, 2, 50);
        r.limit(0);
        placedIs("the first place counts", r, 0, 0, 0, 0, 2 + 8 + 16, 4);
    }

    /** ANCHOR 0 is one as any other. */
    private static void leftOutAnchor0() {
        SlipRanges r = ranged("a0,0+0@0;a0,0+0@0;t10,0+0@0;a0,0+0@0;a0,0+0@0", 2, 0, 1);
        same("two have a RANGE", r.placed(2, 0), STATE);
        same("MISFIT by it", r.misfit(2, 0, 0), 100 * 100 + 100 * 100);
        r.exchange(2, 3);
        placedIs("it is one of three", r, 2, 10, 0, 0, 1 + 2 + 8, 0);
        r.exchange(2, 4);
        r.block(2, 0);
        r.path(2, 0, 99, 9);
        r.exchange(2, 0);
        placedIs("it is LEFT OUT", r, 2, 10, 0, 0, 2 + 8 + 16, 1);
    }

    /** "again and again". */
    private static void leftOutAgainAndAgain() {
        SlipRanges r = echoes(150, 0, 100, 0, 50, 0);
        r.limit(0);
        placedIs("three of six", r, 0, 10, 0, 0, 4 + 16 + 64, 2 + 8 + 32);
        r = echoes(0, 0, 0, 0, 0, 90);
        r.limit(0);
        placedIs("one of six", r, 0, 10, 0, 0, 2 + 4 + 8 + 16 + 32, 64);
        r = echoes(0, 80, 0, 0, 90, 0);
        r.limit(0);
        placedIs("two of six", r, 0, 10, 0, 0, 2 + 8 + 16 + 64, 4 + 32);
    }

    /** "while there are more than three": what is left may still be above LIMIT. */
    private static void leftOutDownToThree() {
        SlipRanges r = echoes(0, 10, 30, 60, 100, 150);
        r.limit(0);
        placedIs("three are left", r, 0, 8, 8, 13 * 13 + 3 * 3 + 17 * 17, 2 + 4 + 8, 16 + 32 + 64);
    }

    /** The place is another one with another RANGE or LIMIT, and not with what is LOST. */
    private static void placedAnew() {
        SlipRanges r = echoes(0, 0, 0);
        same("first", r.placed(0, 2), 0);
        echo(r, 4, 24);
        same("by one more", r.placed(0, 4), 16);
        r.limit(9999);
        same("by another LIMIT", r.placed(0, 4), 0);
        echo(r, 4, 0);
        same("by another RANGE", r.placed(0, 2), 0);
        r.block(0, 4);
        r.exchange(0, 4);
        placedIs("LOST", r, 0, 10, 0, 0, 30, 0);
    }

    /** "Each TAG WANTS 0 (none) or each 1st, 2nd, 4th, 8th, 16th one: its PERIOD (0 at first)". */
    private static void wants() {
        for (int period = -3; period <= 40; period++) {
            SlipRanges r = fieldOf(PAIR);
            boolean right = period == 0 || period == 1 || period == 2 || period == 4 || period == 8 || period == 16;
            same("want " + period, r.want(1, period), right ? 0 : OUTSIDE);
            same("wants " + period, r.node(1, 7), right ? period : 0);
            same("got " + period, r.deal(), right && period > 0 ? 1 : 0);
            same("SLOTS of " + period, r.about(6), right && period > 0 ? 16 / period : 0);
        }
    }

    private static SlipRanges wanting(int... periods) {
        SlipRanges r = fieldOf("t9,9+0@0;a0,0+0@0;t9,9+0@0;t9,9+0@0;t9,9+0@0");
        int[] tags = {0, 2, 3, 4};
        for (int i = 0; i < periods.length; i++) r.want(tags[i], periods[i]);
        return r;
    }

    private static void dealt(String what, SlipRanges r, int got, String due) {
        same(what + ", how many got any", r.deal(), got);
        int taken = 0;
        for (int slot = 0; slot < 16; slot++) {
            boolean free = due.charAt(slot) == '.';
            same(what + ", SLOT " + slot, r.slot(slot), free ? NONE : due.charAt(slot) - '0');
            taken += free ? 0 : 1;
        }
        same(what + ", SLOTS some TAG has", r.about(6), taken);
    }

    /** "TAGS of a PERIOD above 0 come by rising PERIODS, of the same by numbers". */
    private static void dealtByRisingPeriods() {
        dealt("none", wanting(), 0, "................");
        dealt("of the same by numbers", wanting(8, 8, 8, 8), 4, "0234....0234....");
        dealt("16 by numbers", wanting(16, 16, 16, 16), 4, "0234............");
        dealt("rising", wanting(16, 8, 4, 2), 4, "434243404342434.");
        dealt("rising by numbers", wanting(2, 4, 8, 16), 4, "020302040203020.");
        dealt("0 is none", wanting(0, 16, 0, 8), 2, "42......4.......");
    }

    /** "SLOTS o, o + PERIOD, o + 2 * PERIOD and so on to 15, by the least o below PERIOD". */
    private static void dealtToTheLast() {
        dealt("to 15 by 1", wanting(1), 1, "0000000000000000");
        dealt("to 15 by 2", wanting(2, 2), 2, "0202020202020202");
        dealt("to 15 by 4", wanting(4, 4, 4, 4), 4, "0234023402340234");
        dealt("o is 7", wanting(8, 4, 4, 2), 3, "4243424342434243");
        dealt("o is 15", wanting(2, 4, 4, 16), 3, "0203020302030203");
        dealt("one is left", wanting(16, 2, 4, 8), 4, "232423202324232.");
    }

    /** "none, if there is no such o". */
    private static void noRoom() {
        dealt("all by one", wanting(1, 1, 1, 1), 1, "0000000000000000");
        dealt("the first by 1", wanting(2, 16, 8, 1), 1, "4444444444444444");
        dealt("a third by 2", wanting(2, 2, 2, 4), 2, "0202020202020202");
        dealt("one behind it has none either", wanting(2, 2, 16, 16), 2, "0202020202020202");
    }

    /** "DEALT: all SLOTS are free"; "(SLOTS stay as they were DEALT, whatever is WANTED then.)". */
    private static void dealtAnew() {
        SlipRanges r = wanting(1);
        same("DEALT", r.deal(), 1);
        r.want(0, 0);
        r.want(2, 2);
        same("SLOTS stay", r.about(6), 16);
        same("a FRAME is as they were DEALT", r.frame(), 16);
        same("SLOTS stay behind it", r.slot(15), 0);
        dealt("anew", r, 1, "2.2.2.2.2.2.2.2.");
        r.want(2, 0);
        dealt("none any more", r, 0, "................");
    }

    /** "UNKNOWN: slot (0 to 15)". */
    private static void slotsOnBothSides() {
        SlipRanges r = fieldOf("t9,9+0@0;a0,0+0@0");
        for (int slot = 0; slot <= 15; slot++) same("not DEALT " + slot, r.slot(slot), NONE);
        r.want(0, 1);
        r.deal();
        for (int slot = 0; slot <= 15; slot++) same("DEALT " + slot, r.slot(slot), 0);
        same("below", r.slot(-1), UNKNOWN);
        same("above", r.slot(16), UNKNOWN);
    }

    /** "Behind SLOT 15 TIME is the beginning and 48000". */
    private static void frameOfNothing() {
        SlipRanges r = fieldOf(PAIR);
        same("no SLOTS", r.frame(), 0);
        same("TIME", r.about(3), 48000);
        r.idle(1);
        same("none again", r.frame(), 0);
        same("from TIME on", r.about(3), 96001);
        same("no EXCHANGES", r.count(1), 0);
        same("FRAMES", r.count(4), 2);
    }

    /** "if TIME is less than its beginning and 3000 * k, it is that": the longest EXCHANGE ends ahead of that. */
    private static void frameOfTheLongest() {
        SlipRanges r = fieldOf("t31,31+0@0;a0,0+0@0");
        longest(r, 0, 1);
        r.want(0, 1);
        r.deal();
        r.idle(7);
        same("all of them", r.frame(), 16);
        same("the last one begins", r.last(1), 7 + 45000);
        same("and ends", r.last(6), 7 + 45000 + 2364);
        same("TIME", r.about(3), 7 + 48000);
        same("EXCHANGES", r.count(1), 16);
    }

    /** "it begins at TIME; for each SLOT k, in order: .. its beginning and 3000 * k". */
    private static void frameSlotsBegin() {
        for (int period = 1; period <= 16; period *= 2) {
            SlipRanges r = fieldOf(PAIR);
            r.want(1, period);
            r.deal();
            r.idle(11);
            same("EXCHANGES by " + period, r.frame(), 16 / period);
            same("the last SLOT by " + period, r.last(1), 11 + 3000 * (16 - period));
            same("TIME by " + period, r.about(3), 11 + 48000);
        }
    }

    /** "the ANCHOR of least number at first; .. of the next greater number, behind the last one the first". */
    private static void frameNext() {
        SlipRanges r = fieldOf("t0,0+0@0;a3,4+0@0;t0,0+0@0;a6,8+0@0;a9,12+0@0");
        r.want(0, 16);
        r.want(2, 8);
        r.deal();
        int[] first = {1, 3, 4, 1, 3};
        int[] second = {1, 4, 3, 1, 4};
        for (int i = 0; i < 5; i++) {
            same("NEXT of one SLOT", r.node(0, 8), first[i]);
            same("NEXT of two", r.node(2, 8), second[i]);
            same("three EXCHANGES", r.frame(), 3);
        }
        SlipRanges one = fieldOf(PAIR);
        one.want(1, 16);
        one.deal();
        one.frame();
        same("one ANCHOR is its own next", one.node(1, 8), 0);
        one.exchange(1, 0);
        same("and is not by exchange()", one.node(1, 8), 0);
    }

    /** "behind each EXCHANGE by a FRAME, also one that is LOST". */
    private static void frameLost() {
        SlipRanges r = fieldOf("t0,0+0@0;a3,4+0@0;a6,8+0@0");
        r.block(0, 1);
        r.want(0, 4);
        r.deal();
        same("two of four", r.frame(), 2);
        same("those LOST", r.count(2), 2);
        same("EXCHANGES", r.count(1), 4);
        same("the other ANCHOR", r.last(11), 2);
        same("its beginning", r.last(1), 36000);
        same("no RANGE", r.range(0, 1), NONE);
        r.block(0, 2);
        same("none of four", r.frame(), 0);
        same("TIME", r.about(3), 96000);
        same("the latest stays", r.last(1), 36000);
    }

    /** "STATE: no FIELD, or TIME would be above 9999999 at its end (TIME and 48000, now)". */
    private static void frameToTheEndOfTime() {
        SlipRanges r = at(PAIR, 9951999);
        r.want(1, 1);
        r.deal();
        same("just in time", r.frame(), 16);
        same("TIME at its end", r.about(3), 9999999);
        same("no other", r.frame(), STATE);
        SlipRanges s = at(PAIR, 9952000);
        s.want(1, 1);
        s.deal();
        same("too late by one", s.frame(), STATE);
        same("TIME stays", s.about(3), 9952000);
        same("none is run", s.count(4), 0);
        same("no EXCHANGES", s.count(1), 0);
        same("NEXT stays", s.node(1, 8), 0);
    }

    /** "What = 0 NODES .. 7 how many TAGS are PLACED". */
    private static void aboutOnBothSides() {
        SlipRanges r = fieldOf("t0,0+0@0;t0,0+0@0;a0,0+0@0;a0,0+0@0;a0,0+0@0;t0,0+0@0;t0,0+0@0");
        int[] least = {7, 4, 3, 0, 4, 400, 0, 0};
        for (int what = 0; what <= 7; what++) same("at first " + what, r.about(what), least[what]);
        for (int tag : new int[] {0, 1, 5, 6}) {
            r.want(tag, 4);
            for (int anchor = 2; anchor <= 4; anchor++) r.exchange(tag, anchor);
        }
        r.deal();
        int[] most = {7, 4, 3, 12 * 210, 4, 400, 16, 4};
        for (int what = 0; what <= 7; what++) same("at last " + what, r.about(what), most[what]);
        same("below", r.about(-1), OUTSIDE);
        same("above", r.about(8), OUTSIDE);
    }

    /** "How many: 0 letters of THE PAGE .. 4 FRAMES run, ever". */
    private static void countOnBothSides() {
        SlipRanges r = fieldOf(PAIR);
        r.block(1, 0);
        r.exchange(1, 0);
        r.frame();
        r.frame();
        Check.type(r, "abc");
        int[] due = {3, 1, 1, 1, 2};
        for (int what = 0; what <= 4; what++) same("count " + what, r.count(what), due[what]);
        same("below", r.count(-1), OUTSIDE);
        same("above", r.count(5), OUTSIDE);
    }

    private static long fold(long h, long... numbers) {
        for (long number : numbers) h = 31 * h + number;
        return h;
    }

    /** "with a FIELD (all up to the letters of THE PAGE)". */
    private static void digestWithoutAField() {
        SlipRanges r = new SlipRanges();
        same("nothing at all", r.digest(), fold(1601, 0, 0, 0, 0, 0));
        long h = 1601;
        for (int n = 1; n <= 110; n++) {
            r.letter(126);
            h = fold(h, 126);
        }
        same("as longs, wrapping", r.digest(), fold(h, 110, 0, 0, 0, 0));
    }

    private static long fieldAlone(int time) {
        long h = fold(1601, 2, 1, 1, time, 4, 400, 0, 0);
        h = fold(h, 0, 0, 0, 0, 0, 100, time, -1, -1);
        return fold(h, 1, 3, 4, 0, 0, 100, time, 0, 0);
    }

    private static long freeSlots(long h) {
        for (int slot = 0; slot < 16; slot++) h = fold(h, NONE);
        return h;
    }

    /** "if there was an EXCHANGE"; "of each TAG that is PLACED": neither yet. */
    private static void digestWithAFieldAlone() {
        same("no EXCHANGE", fieldOf(PAIR).digest(), fold(freeSlots(fold(fieldAlone(0), 50, 0, NONE)), 0, 0, 0, 1, 0));
    }

    /** An EXCHANGE that was LOST leaves last() and heard() nothing to tell. */
    private static void digestOfLostOnly() {
        SlipRanges r = fieldOf(PAIR);
        r.block(1, 0);
        r.exchange(1, 0);
        same("LOST only", r.digest(), fold(freeSlots(fold(fieldAlone(1), 50, NONE, NONE)), 0, 1, 1, 1, 0));
        r.path(1, 0, 0, 9);
        r.exchange(1, 0);
        long h = fold(fieldAlone(361), 50, 0, 50, 1, 51, 151, 201, 301, 351, 50, 50, 50, 1, 0);
        same("no other NODE to hear it", r.digest(), fold(freeSlots(h), 0, 2, 1, 1, 0));
    }

    /** "heard() of each other NODE"; "of each TAG that is PLACED placed() for 0 to 4": TAG 0 is, TAG 4 is not. */
    private static void digestOfOnePlaced() {
        SlipRanges r = ranged("t3,4+0@0;a0,0+0@0;a0,0+0@0;a0,0+0@0;t6,8+0@0", 0, 1, 2, 3);
        r.exchange(4, 1);
        r.want(4, 16);
        r.deal();
        int time = 3 * 360 + 510;
        long h = fold(1601, 5, 2, 3, time, 4, 400, 1, 1, 1, 3, 4, 0, 0, 100, time, 0, 1);
        for (int anchor = 1; anchor <= 3; anchor++) h = fold(h, 0, 0, 0, 0, 0, 100, time, NONE, NONE);
        h = fold(h, 1, 6, 8, 0, 0, 100, time, 16, 1);
        h = fold(h, 50, 0, 50, 50, 0, 50, 50, 0, 50, 100, 0, 100, 100, 0, NONE, 100, 0, NONE);
        h = fold(h, 1080, 1180, 1280, 1380, 1480, 1580, 100, 100, 100, 4, 1);
        h = fold(h, 50 + 200 - 50 - 100 - 100, 200 - 100 - 100 - 100, 200 - 100 - 100 - 100);
        h = fold(h, r.placed(0, 0), r.placed(0, 1), 0, 14, 0);
        h = fold(h, 4);
        for (int slot = 1; slot < 16; slot++) h = fold(h, NONE);
        same("one PLACED", r.digest(), fold(h, 0, 4, 0, 1, 0));
        placedIs("FLIGHT 50 at the least y", r, 0, 5, 0, 0, 14, 0);
    }

    private static long withAllOf(long h, SlipRanges r) {
        int nodes = r.about(0);
        for (int what = 0; what <= 7; what++) h = fold(h, r.about(what));
        for (int node = 0; node < nodes; node++) {
            for (int what = 0; what <= 8; what++) h = fold(h, r.node(node, what));
        }
        for (int tag = 0; tag < nodes; tag++) {
            for (int anchor = 0; anchor < nodes; anchor++) {
                boolean pair = r.node(tag, 0) == 1 && r.node(anchor, 0) == 0;
                if (pair) h = fold(h, r.flight(tag, anchor), r.firstPath(tag, anchor), r.range(tag, anchor));
            }
        }
        for (int what = 1; what <= 11; what++) h = fold(h, r.last(what));
        for (int node = 0; node < nodes; node++) {
            if (r.last(10) != node && r.last(11) != node) h = fold(h, r.heard(node));
        }
        for (int tag = 0; tag < nodes; tag++) {
            for (int what = 0; what <= 4 && r.placed(tag, 0) >= 0; what++) h = fold(h, r.placed(tag, what));
        }
        for (int slot = 0; slot < 16; slot++) h = fold(h, r.slot(slot));
        return h;
    }

    /** "in order": what digest() folds is what the other calls tell, by the fewest NODES and by the most. */
    private static void digestOfTwoNodesToSeven() {
        String[] nodes = {"a0,0+9@9", "t3,4-9@0", "a31,0+0@0", "t9,9+99@1", "a0,31-99@9999", "t31,31+1@5", "t7,0-1@6"};
        String text = nodes[0];
        for (int many = 2; many <= 7; many++) {
            text = text + ";" + nodes[many - 1];
            SlipRanges r = fieldOf(text);
            for (int tag = 1; tag < many; tag++) {
                for (int anchor = 0; anchor < many; anchor++) r.exchange(tag, anchor);
                r.want(tag, 4);
            }
            r.deal();
            same("frame of " + many, r.frame(), 4 * r.about(1));
            long h = withAllOf(1601, r);
            for (int what = 0; what <= 4; what++) h = fold(h, r.count(what));
            same("digest of " + many, r.digest(), h);
        }
    }

    /** The last TAG of seven NODES has a RANGE with the first ANCHOR; that is none of the TAG ahead of it. */
    private static void sevenNodesByAnchor0() {
        SlipRanges r = fieldOf("a0,0+0@0;a0,0+0@0;a0,0+0@0;a0,0+0@0;t0,1+0@0;t0,2+0@0;t0,3+0@0");
        r.exchange(6, 0);
        same("its own", r.misfit(6, 0, 0), 30 * 30);
        same("not of the TAG ahead", r.misfit(5, 0, 0), 0);
        for (int anchor = 0; anchor <= 2; anchor++) r.exchange(5, anchor);
        placedIs("the TAG ahead", r, 5, 2, 0, 0, 1 + 2 + 4, 0);
        same("one is PLACED", r.about(7), 1);
    }
}
