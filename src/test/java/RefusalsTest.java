import java.util.ArrayList;
import java.util.List;

/**
 * Each refusal of each call, alone and together with each other one: of several the first as told is answered, and
 * nothing changes. For the latter two objects come to the same state, one of them refuses, and both are asked for all
 * that they know.
 */
public final class RefusalsTest {
    private static final int UNKNOWN = -1000001, OUTSIDE = -1000002, STATE = -1000003, FULL = -1000004;
    private static final int LOW = Integer.MIN_VALUE, HIGH = Integer.MAX_VALUE;
    /** What names no NODE of FIVE, on both sides. */
    private static final int[] NO_NODES = {-1, 5, 6, 7, LOW, HIGH};

    /** TAGS 0 and 3, ANCHORS 1, 2 and 4. */
    private static final String FIVE = "t5,7+9@8;a0,0-9@70;a31,0+0@0;t9,9-99@5;a0,31+99@9999";
    private static final int[] TAGS = {0, 3};
    private static final int[] ANCHORS = {1, 2, 4};

    private static final Check CHECK = new Check();

    private interface Setting {
        SlipRanges make();
    }

    private interface Call {
        long on(SlipRanges ranges);
    }

    public static void main(String[] args) {
        settingsAreAsTold();
        texts();
        textsOverAField();
        nodes();
        clocksAndDelays();
        paths();
        pairs();
        levels();
        idle();
        last();
        heard();
        misfit();
        placed();
        limits();
        wants();
        slots();
        frames();
        told();
        answersChangeNothing();
        CHECK.end("RefusalsTest");
    }

    private static SlipRanges fresh() {
        return new SlipRanges();
    }

    private static SlipRanges fullPage() {
        SlipRanges r = fresh();
        for (int i = 0; i < 110; i++) r.letter('a');
        return r;
    }

    private static SlipRanges quiet() {
        return Check.fieldOf(FIVE);
    }

    /** There were EXCHANGES, but each was LOST. */
    private static SlipRanges lostOnly() {
        SlipRanges r = quiet();
        r.block(0, 1);
        r.exchange(0, 1);
        r.exchange(0, 1);
        return r;
    }

    /** There were EXCHANGES, but on another FIELD. */
    private static SlipRanges another() {
        SlipRanges r = quiet();
        for (int anchor : ANCHORS) r.exchange(0, anchor);
        Check.type(r, FIVE);
        r.field();
        return r;
    }

    /** All that can be full or other than at first is that; TAG 0 is PLACED, TAG 3 is not. */
    private static SlipRanges busy() {
        SlipRanges r = quiet();
        for (int i = 0; i < 5; i++) r.path(0, 1, 20 * i + 5, 9 - i);
        r.block(3, 2);
        r.delay(0, 33);
        r.delay(4, 10);
        r.want(0, 8);
        r.want(3, 16);
        r.deal();
        r.want(0, 1);
        r.frame();
        r.exchange(0, 4);
        r.level(6);
        r.limit(9);
        for (int i = 0; i < 110; i++) r.letter(i % 2 == 0 ? 't' : '~');
        return r;
    }

    /** TIME is so late that it can not go on by waiting. */
    private static SlipRanges late() {
        SlipRanges r = quiet();
        for (int i = 0; i < 100; i++) r.idle(99999);
        r.idle(99);
        return r;
    }

    /** TIME is beyond what waiting could bring it to. */
    private static SlipRanges beyond() {
        SlipRanges r = late();
        r.exchange(0, 1);
        return r;
    }

    /** A refusal tells little, if the state that it is asked in is not the one that it is asked for. */
    private static void settingsAreAsTold() {
        CHECK.same("a full page", fullPage().count(0), 110);
        CHECK.same("all LOST", lostOnly().count(2), 2);
        CHECK.same("on another FIELD", another().count(1), 3);
        CHECK.same("TAG 0 is PLACED", busy().placed(0, 3), 2 + 4 + 16);
        CHECK.same("TAG 3 is not", busy().about(7), 1);
        CHECK.same("its RANGE", busy().range(3, 1) > 0 ? 1 : 0, 1);
        CHECK.same("six PATHS", busy().block(0, 1), 6);
        CHECK.same("the latest", busy().last(11), 4);
        CHECK.same("a full page, too", busy().count(0), 110);
        CHECK.same("late", late().about(3), 9999999);
        CHECK.same("beyond", beyond().about(3) > 9999999 ? 1 : 0, 1);
    }

    /** All that an object knows, what digest() doesn't tell too. */
    private static List<Long> all(SlipRanges r) {
        List<Long> all = new ArrayList<>();
        all.add(r.digest());
        all.add((long) r.fault());
        for (int tag : TAGS) all.add((long) r.misfit(tag, 3, 30));
        for (int tag : TAGS) all.add((long) r.placed(tag, 4));
        for (int level = 1; level <= 9; level++) {
            all.add((long) r.level(level));
            for (int tag : TAGS) for (int anchor : ANCHORS) all.add((long) r.firstPath(tag, anchor));
        }
        for (int tag : TAGS) for (int anchor : ANCHORS) all.add((long) r.exchange(tag, anchor));
        for (int tag : TAGS) for (int anchor : ANCHORS) all.add((long) r.block(tag, anchor));
        all.add((long) r.deal());
        all.add((long) r.frame());
        all.add(r.digest());
        all.add((long) r.field());
        all.add((long) r.blank());
        all.add(r.digest());
        return all;
    }

    private static void changesNothing(String what, Setting setting, Call call) {
        SlipRanges asked = setting.make();
        call.on(asked);
        List<Long> got = all(asked);
        List<Long> due = all(setting.make());
        CHECK.holds(what + " changes nothing: " + got + " and " + due, got.equals(due));
    }

    private static void refused(String what, int due, Setting setting, Call call) {
        CHECK.same(what, call.on(setting.make()), due);
        changesNothing(what, setting, call);
    }

    private static void texts() {
        for (int code : new int[] {31, 127, 0, -1, LOW, HIGH}) {
            refused("letter " + code, OUTSIDE, RefusalsTest::fresh, r -> r.letter(code));
            refused("letter, full, too " + code, OUTSIDE, RefusalsTest::fullPage, r -> r.letter(code));
        }
        for (int code : new int[] {32, 97, 126}) refused("letter, full " + code, FULL, RefusalsTest::fullPage, r -> r.letter(code));
        refused("field of nothing", STATE, RefusalsTest::fresh, r -> r.field());
        refused("field of a full page", STATE, RefusalsTest::fullPage, r -> r.field());
    }

    private static void textsOverAField() {
        refused("letter, full, with a FIELD", FULL, RefusalsTest::busy, r -> r.letter('a'));
        refused("letter 31, full, with a FIELD", OUTSIDE, RefusalsTest::busy, r -> r.letter(31));
        String[] wrong = {
            "", "a", "a1,1+1@1", "t1,1+1@1", "a1,1+1@1;", "a1,1+1@1;t", "a1,1+1@1;t1", "a1,1+1@1;t1,", "a1,1+1@1;t1,1",
            "a1,1+1@1;t1,1+", "a1,1+1@1;t1,1+1", "a1,1+1@1;t1,1+1@", "a1,1+1@1;t1,1+1@1;", "a1,1+1@1;t1,1+1@1 ",
            "a1,1+1@1;a1,1+1@1", "t1,1+1@1;t1,1+1@1", "a1,1+1@1;t32,1+1@1", "a1,1+1@1,t1,1+1@1", "x"};
        for (String text : wrong) {
            refused("field of " + text, STATE, () -> busyWith(text), r -> r.field());
        }
    }

    private static SlipRanges busyWith(String text) {
        SlipRanges r = busy();
        r.blank();
        Check.type(r, text);
        return r;
    }

    private static void nodes() {
        for (int node : new int[] {0, 1, -1}) {
            refused("node, no FIELD", UNKNOWN, RefusalsTest::fresh, r -> r.node(node, 0));
            refused("node, no FIELD, what", UNKNOWN, RefusalsTest::fresh, r -> r.node(node, 9));
            refused("flight, no FIELD", UNKNOWN, RefusalsTest::fresh, r -> r.flight(node, 0));
        }
        for (int node : NO_NODES) {
            refused("node " + node, UNKNOWN, RefusalsTest::busy, r -> r.node(node, 8));
            refused("node and what " + node, UNKNOWN, RefusalsTest::busy, r -> r.node(node, 9));
            refused("flight, one " + node, UNKNOWN, RefusalsTest::busy, r -> r.flight(node, 4));
            refused("flight, other " + node, UNKNOWN, RefusalsTest::busy, r -> r.flight(4, node));
            refused("flight, both " + node, UNKNOWN, RefusalsTest::busy, r -> r.flight(node, node));
        }
        for (int what : new int[] {-1, 9, LOW, HIGH}) {
            refused("node, what " + what, OUTSIDE, RefusalsTest::busy, r -> r.node(0, what));
            refused("node, what of an ANCHOR " + what, OUTSIDE, RefusalsTest::busy, r -> r.node(4, what));
        }
    }

    private static void clocksAndDelays() {
        refused("clock, no FIELD", UNKNOWN, RefusalsTest::fresh, r -> r.clock(0, 0));
        refused("clock, no FIELD, t", UNKNOWN, RefusalsTest::fresh, r -> r.clock(0, -1));
        refused("delay, no FIELD", UNKNOWN, RefusalsTest::fresh, r -> r.delay(0, 10));
        refused("delay, no FIELD, v", UNKNOWN, RefusalsTest::fresh, r -> r.delay(0, 9));
        for (int node : NO_NODES) {
            refused("clock " + node, UNKNOWN, RefusalsTest::busy, r -> r.clock(node, 0));
            refused("clock and t " + node, UNKNOWN, RefusalsTest::busy, r -> r.clock(node, 1000001));
            refused("delay " + node, UNKNOWN, RefusalsTest::busy, r -> r.delay(node, 10));
            refused("delay and v " + node, UNKNOWN, RefusalsTest::busy, r -> r.delay(node, 301));
        }
        for (int t : new int[] {-1, 1000001, LOW, HIGH}) refused("clock, t " + t, OUTSIDE, RefusalsTest::busy, r -> r.clock(4, t));
        for (int v : new int[] {9, 301, 0, -10, LOW, HIGH}) refused("delay, v " + v, OUTSIDE, RefusalsTest::busy, r -> r.delay(0, v));
    }

    private static void paths() {
        refused("path, no FIELD", UNKNOWN, RefusalsTest::fresh, r -> r.path(0, 1, 0, 9));
        refused("path, no FIELD, extra", UNKNOWN, RefusalsTest::fresh, r -> r.path(0, 1, -1, 9));
        for (int[] extraLoud : new int[][] {{0, 9}, {-1, 9}, {151, 9}, {0, 0}, {0, 10}}) {
            int extra = extraLoud[0];
            int loud = extraLoud[1];
            noPair("path " + extra + ", " + loud, (r, tag, anchor) -> r.path(tag, anchor, extra, loud));
        }
        for (int anchor : new int[] {1, 2}) {
            String full = anchor == 1 ? ", full" : "";
            for (int extra : new int[] {-1, 151, LOW, HIGH}) {
                refused("path, extra " + extra + full, OUTSIDE, RefusalsTest::busy, r -> r.path(0, anchor, extra, 9));
            }
            for (int loud : new int[] {0, 10, LOW, HIGH}) {
                refused("path, loud " + loud + full, OUTSIDE, RefusalsTest::busy, r -> r.path(0, anchor, 0, loud));
            }
        }
        for (int extra : new int[] {0, 150}) {
            for (int loud : new int[] {1, 9}) {
                refused("path, full " + extra + ", " + loud, FULL, RefusalsTest::busy, r -> r.path(0, 1, extra, loud));
            }
        }
    }

    private interface PairCall {
        int on(SlipRanges ranges, int tag, int anchor);
    }

    private static void noPair(String what, PairCall call) {
        int[][] wrong = {{0, 0}, {0, 3}, {3, 3}, {1, 1}, {1, 2}, {4, 1}, {1, 0}, {4, 3}};
        for (int[] pair : wrong) {
            refused(what + " of " + pair[0] + ", " + pair[1], UNKNOWN, RefusalsTest::busy, r -> call.on(r, pair[0], pair[1]));
        }
        for (int node : NO_NODES) {
            refused(what + " of no TAG " + node, UNKNOWN, RefusalsTest::busy, r -> call.on(r, node, 1));
            refused(what + " of no ANCHOR " + node, UNKNOWN, RefusalsTest::busy, r -> call.on(r, 0, node));
            refused(what + " of neither " + node, UNKNOWN, RefusalsTest::busy, r -> call.on(r, node, node));
        }
    }

    private static void pairs() {
        noPair("block", SlipRanges::block);
        noPair("firstPath", SlipRanges::firstPath);
        noPair("exchange", SlipRanges::exchange);
        noPair("range", SlipRanges::range);
        refused("block, no FIELD", UNKNOWN, RefusalsTest::fresh, r -> r.block(0, 1));
        refused("firstPath, no FIELD", UNKNOWN, RefusalsTest::fresh, r -> r.firstPath(0, 1));
        refused("exchange, no FIELD", UNKNOWN, RefusalsTest::fresh, r -> r.exchange(0, 1));
        refused("range, no FIELD", UNKNOWN, RefusalsTest::fresh, r -> r.range(0, 1));
    }

    private static void levels() {
        refused("level, no FIELD", STATE, RefusalsTest::fresh, r -> r.level(4));
        for (int v : new int[] {0, 10, -1, LOW, HIGH}) {
            refused("level, no FIELD, v " + v, STATE, RefusalsTest::fresh, r -> r.level(v));
            refused("level " + v, OUTSIDE, RefusalsTest::busy, r -> r.level(v));
        }
    }

    private static void idle() {
        refused("idle, no FIELD", STATE, RefusalsTest::fresh, r -> r.idle(0));
        for (int by : new int[] {-1, 100000, LOW, HIGH}) {
            refused("idle, no FIELD, by " + by, STATE, RefusalsTest::fresh, r -> r.idle(by));
            refused("idle " + by, OUTSIDE, RefusalsTest::busy, r -> r.idle(by));
            refused("idle, late, by " + by, OUTSIDE, RefusalsTest::late, r -> r.idle(by));
        }
        for (int by : new int[] {1, 99999}) refused("idle, too late, by " + by, OUTSIDE, RefusalsTest::late, r -> r.idle(by));
        for (int by : new int[] {0, 1, 99999}) refused("idle, beyond, by " + by, OUTSIDE, RefusalsTest::beyond, r -> r.idle(by));
    }

    private static void last() {
        for (int what : new int[] {1, 11}) {
            refused("last, no FIELD " + what, STATE, RefusalsTest::fresh, r -> r.last(what));
            refused("last, no EXCHANGE " + what, STATE, RefusalsTest::quiet, r -> r.last(what));
            refused("last, all LOST " + what, STATE, RefusalsTest::lostOnly, r -> r.last(what));
            refused("last, on another FIELD " + what, STATE, RefusalsTest::another, r -> r.last(what));
        }
        for (int what : new int[] {0, 12, -1, LOW, HIGH}) {
            refused("last, no FIELD, what " + what, OUTSIDE, RefusalsTest::fresh, r -> r.last(what));
            refused("last, no EXCHANGE, what " + what, OUTSIDE, RefusalsTest::quiet, r -> r.last(what));
            refused("last, all LOST, what " + what, OUTSIDE, RefusalsTest::lostOnly, r -> r.last(what));
            refused("last " + what, OUTSIDE, RefusalsTest::busy, r -> r.last(what));
        }
    }

    private static void heard() {
        for (int node : new int[] {0, 1, 2, 4, 5, -1, LOW, HIGH}) {
            refused("heard, no FIELD " + node, STATE, RefusalsTest::fresh, r -> r.heard(node));
            refused("heard, no EXCHANGE " + node, STATE, RefusalsTest::quiet, r -> r.heard(node));
            refused("heard, all LOST " + node, STATE, RefusalsTest::lostOnly, r -> r.heard(node));
            refused("heard, on another FIELD " + node, STATE, RefusalsTest::another, r -> r.heard(node));
        }
        for (int node : NO_NODES) refused("heard " + node, UNKNOWN, RefusalsTest::busy, r -> r.heard(node));
        refused("heard by its TAG", UNKNOWN, RefusalsTest::busy, r -> r.heard(0));
        refused("heard by its ANCHOR", UNKNOWN, RefusalsTest::busy, r -> r.heard(4));
    }

    private static void misfit() {
        refused("misfit, no FIELD", UNKNOWN, RefusalsTest::fresh, r -> r.misfit(0, 0, 0));
        refused("misfit, no FIELD, x", UNKNOWN, RefusalsTest::fresh, r -> r.misfit(0, -1, 0));
        noTag("misfit", (r, tag) -> r.misfit(tag, 0, 0));
        noTag("misfit, x", (r, tag) -> r.misfit(tag, 32, 0));
        noTag("misfit, y", (r, tag) -> r.misfit(tag, 0, -1));
        for (int v : new int[] {-1, 32, LOW, HIGH}) {
            refused("misfit, x " + v, OUTSIDE, RefusalsTest::busy, r -> r.misfit(0, v, 0));
            refused("misfit, y " + v, OUTSIDE, RefusalsTest::busy, r -> r.misfit(0, 31, v));
            refused("misfit, without a RANGE, x " + v, OUTSIDE, RefusalsTest::quiet, r -> r.misfit(0, v, 31));
            refused("misfit, both " + v, OUTSIDE, RefusalsTest::busy, r -> r.misfit(3, v, v));
        }
    }

    private interface TagCall {
        int on(SlipRanges ranges, int tag);
    }

    private static void noTag(String what, TagCall call) {
        for (int anchor : ANCHORS) refused(what + " of ANCHOR " + anchor, UNKNOWN, RefusalsTest::busy, r -> call.on(r, anchor));
        for (int node : NO_NODES) refused(what + " of " + node, UNKNOWN, RefusalsTest::busy, r -> call.on(r, node));
    }

    private static void placed() {
        refused("placed, no FIELD", UNKNOWN, RefusalsTest::fresh, r -> r.placed(0, 0));
        refused("placed, no FIELD, what", UNKNOWN, RefusalsTest::fresh, r -> r.placed(0, 5));
        noTag("placed", (r, tag) -> r.placed(tag, 0));
        noTag("placed, what", (r, tag) -> r.placed(tag, 5));
        for (int what : new int[] {-1, 5, LOW, HIGH}) {
            refused("placed, what " + what, OUTSIDE, RefusalsTest::busy, r -> r.placed(0, what));
            refused("placed, what of one that is not " + what, OUTSIDE, RefusalsTest::busy, r -> r.placed(3, what));
            refused("placed, what without a RANGE " + what, OUTSIDE, RefusalsTest::quiet, r -> r.placed(0, what));
        }
        for (int what = 0; what <= 4; what++) {
            int one = what;
            refused("placed, without a RANGE " + what, STATE, RefusalsTest::quiet, r -> r.placed(0, one));
            refused("placed, one that is not " + what, STATE, RefusalsTest::busy, r -> r.placed(3, one));
            refused("placed, on another FIELD " + what, STATE, RefusalsTest::another, r -> r.placed(0, one));
        }
    }

    private static void limits() {
        refused("limit, no FIELD", STATE, RefusalsTest::fresh, r -> r.limit(400));
        for (int v : new int[] {-1, 10000, LOW, HIGH}) {
            refused("limit, no FIELD, v " + v, STATE, RefusalsTest::fresh, r -> r.limit(v));
            refused("limit " + v, OUTSIDE, RefusalsTest::busy, r -> r.limit(v));
        }
    }

    private static void wants() {
        refused("want, no FIELD", UNKNOWN, RefusalsTest::fresh, r -> r.want(0, 1));
        refused("want, no FIELD, period", UNKNOWN, RefusalsTest::fresh, r -> r.want(0, 3));
        noTag("want", (r, tag) -> r.want(tag, 2));
        noTag("want none", (r, tag) -> r.want(tag, 0));
        noTag("want, period", (r, tag) -> r.want(tag, 3));
        for (int period = -20; period <= 70; period++) {
            int wrong = period;
            boolean right = period == 0 || period == 1 || period == 2 || period == 4 || period == 8 || period == 16;
            if (!right) refused("want " + period, OUTSIDE, RefusalsTest::busy, r -> r.want(0, wrong));
        }
        for (int period : new int[] {1 << 30, LOW, HIGH}) refused("want " + period, OUTSIDE, RefusalsTest::busy, r -> r.want(3, period));
    }

    private static void slots() {
        refused("deal, no FIELD", STATE, RefusalsTest::fresh, r -> r.deal());
        for (int slot : new int[] {0, 15, -1, 16, LOW, HIGH}) {
            refused("slot, no FIELD " + slot, STATE, RefusalsTest::fresh, r -> r.slot(slot));
        }
        for (int slot : new int[] {-1, 16, LOW, HIGH}) {
            refused("slot " + slot, UNKNOWN, RefusalsTest::busy, r -> r.slot(slot));
            refused("slot, none DEALT " + slot, UNKNOWN, RefusalsTest::quiet, r -> r.slot(slot));
        }
    }

    /** TIME is that, and a TAG has SLOTS, so that a FRAME which is run after all would show. */
    private static SlipRanges frameAt(int time) {
        SlipRanges r = quiet();
        r.want(0, 4);
        r.deal();
        for (int i = 0; i < time / 99999; i++) r.idle(99999);
        r.idle(time % 99999);
        return r;
    }

    private static void frames() {
        refused("frame, no FIELD", STATE, RefusalsTest::fresh, r -> r.frame());
        refused("frame, too late by one", STATE, () -> frameAt(9952000), r -> r.frame());
        refused("frame, too late", STATE, () -> frameAt(9999999), r -> r.frame());
        refused("frame, beyond", STATE, RefusalsTest::beyond, r -> r.frame());
        CHECK.same("frame, just in time", frameAt(9951999).frame(), 4);
    }

    private static void told() {
        for (int what : new int[] {0, 7, -1, 8, LOW, HIGH}) {
            refused("about, no FIELD " + what, STATE, RefusalsTest::fresh, r -> r.about(what));
        }
        for (int what : new int[] {-1, 8, LOW, HIGH}) refused("about " + what, OUTSIDE, RefusalsTest::busy, r -> r.about(what));
        for (int what : new int[] {-1, 5, LOW, HIGH}) {
            refused("count " + what, OUTSIDE, RefusalsTest::busy, r -> r.count(what));
            refused("count, no FIELD " + what, OUTSIDE, RefusalsTest::fresh, r -> r.count(what));
        }
    }

    /** Calls that only tell. */
    private static void answersChangeNothing() {
        Setting[] settings = {
            RefusalsTest::fresh, RefusalsTest::fullPage, RefusalsTest::quiet, RefusalsTest::lostOnly, RefusalsTest::another,
            RefusalsTest::busy, RefusalsTest::beyond};
        for (Setting setting : settings) {
            changesNothing("fault", setting, r -> r.fault());
            changesNothing("node", setting, r -> r.node(0, 6));
            changesNothing("flight", setting, r -> r.flight(0, 4));
            changesNothing("clock", setting, r -> r.clock(4, 1000000));
            changesNothing("firstPath", setting, r -> r.firstPath(0, 1));
            changesNothing("last", setting, r -> r.last(6));
            changesNothing("heard", setting, r -> r.heard(2));
            changesNothing("range", setting, r -> r.range(0, 1));
            changesNothing("misfit", setting, r -> r.misfit(0, 31, 31));
            changesNothing("placed", setting, r -> r.placed(0, 2));
            changesNothing("slot", setting, r -> r.slot(15));
            changesNothing("about", setting, r -> r.about(7));
            changesNothing("count", setting, r -> r.count(4));
            changesNothing("digest", setting, r -> r.digest());
        }
    }
}
