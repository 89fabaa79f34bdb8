/**
 * The boundary cases of part 1 of the terms and of promises 1 to 13, each sentence with a test of its own that bears it
 * as its comment. Refusals are in RefusalsTest.
 */
public final class EdgesOfTextsTest {
    private static final int NONE = -1, UNKNOWN = -1000001, STATE = -1000003, FULL = -1000004;
    private static final String ANCHOR = "a1,1+1@1", TAG = "t1,1+1@1";
    private static final String PAIR = "a0,0+0@0;t3,4+0@0";
    private static final String LONGEST = "t31,31+99@9999;".repeat(4) + "a31,31-99@9999;".repeat(2) + "a31,31-99@9999";

    private static final Check CHECK = new Check();

    public static void main(String[] args) {
        twoNodesToSeven();
        nodesAreNumberedFrom0();
        fourTagsAtMost();
        oneAnchorAndOneTagAtLeast();
        coordinates();
        slips();
        starts();
        noNoughtAhead();
        plusAndMinusNought();
        everySignInEveryPlace();
        flightIsTheGreatest();
        clockFloors();
        clockUpToAMillion();
        delays();
        atFirstOnePath();
        sixPathsAtMost();
        extrasAndLouds();
        firstPathByLevel();
        firstPathOfSeveral();
        firstPathNone();
        levels();
        noField();
        lettersByCode();
        aHundredAndTenLetters();
        blank();
        nothingStaysBehind();
        faultOfNothing();
        faultOfAFullPage();
        faultBehindTheLongestRow();
        fieldEmptiesThePage();
        fieldAnew();
        whatOfNodes();
        the512thCall();
        CHECK.end("EdgesOfTextsTest");
    }

    private static void same(String what, long got, long due) {
        CHECK.same(what, got, due);
    }

    private static SlipRanges typed(String text) {
        SlipRanges r = new SlipRanges();
        Check.type(r, text);
        return r;
    }

    private static void wrongAt(String text, int place) {
        same("fault of " + text, typed(text).fault(), place);
        same("field of " + text, typed(text).field(), STATE);
    }

    /** No letter is wrong, but it is not yet a FIELD. */
    private static void begins(String text) {
        wrongAt(text, text.length());
    }

    private static SlipRanges read(String text, int nodes) {
        SlipRanges r = typed(text);
        same("fault of " + text, r.fault(), text.length());
        same("field of " + text, r.field(), nodes);
        return r;
    }

    private static String row(int anchors, int tags) {
        String text = (ANCHOR + ";").repeat(anchors) + (TAG + ";").repeat(tags);
        return text.substring(0, text.length() - 1);
    }

    /** "NODES (2 to 7)"; "whether there are .. two NODES at least, is not asked here" (fault). */
    private static void twoNodesToSeven() {
        begins(ANCHOR);
        begins(TAG);
        for (int nodes = 2; nodes <= 7; nodes++) read(row(nodes - 1, 1), nodes);
        wrongAt(row(7, 1), 7 * 9 - 1);
        wrongAt(row(7, 0) + ";", 7 * 9 - 1);
        begins(row(6, 0) + ";");
    }

    /** "numbered from 0"; "UNKNOWN: node". */
    private static void nodesAreNumberedFrom0() {
        for (int nodes = 2; nodes <= 7; nodes++) {
            SlipRanges r = read(row(nodes - 1, 1), nodes);
            same("the first of " + nodes, r.node(0, 0), 0);
            same("the last of " + nodes, r.node(nodes - 1, 0), 1);
            same("behind the last of " + nodes, r.node(nodes, 0), UNKNOWN);
            same("ahead of the first of " + nodes, r.node(-1, 0), UNKNOWN);
        }
    }

    /** "four TAGS at most"; "a fifth "t" is wrong, too". */
    private static void fourTagsAtMost() {
        for (int tags = 1; tags <= 4; tags++) {
            SlipRanges r = read(row(1, tags), tags + 1);
            same("TAGS", r.about(1), tags);
            same("ANCHORS", r.about(2), 1);
        }
        read(row(3, 4), 7);
        wrongAt(row(1, 5), 5 * 9);
        wrongAt(row(2, 5), 6 * 9);
        wrongAt((TAG + ";").repeat(4) + "t", 4 * 9);
        read((TAG + ";").repeat(4) + ANCHOR, 5);
    }

    /** "One ANCHOR and one TAG at least"; "STATE: it is no row of NODES, or has no ANCHOR, or no TAG". */
    private static void oneAnchorAndOneTagAtLeast() {
        for (int anchors = 1; anchors <= 7; anchors++) begins(row(anchors, 0));
        for (int tags = 1; tags <= 4; tags++) begins(row(0, tags));
        read(TAG + ";" + ANCHOR, 2);
        read(ANCHOR + ";" + TAG, 2);
    }

    /** "each at X, Y (0 to 31)"; "A number that is too great is wrong at the figure by which it becomes that". */
    private static void coordinates() {
        for (int v = 0; v <= 31; v++) {
            SlipRanges r = read("a" + v + ",7+0@0;t8," + v + "+0@0", 2);
            same("X " + v, r.node(0, 1), v);
            same("Y of it", r.node(0, 2), 7);
            same("X of the other", r.node(1, 1), 8);
            same("Y " + v, r.node(1, 2), v);
        }
        for (int v = 32; v <= 99; v++) {
            wrongAt("a" + v + ",0+0@0;" + TAG, 2);
            wrongAt("a0," + v + "+0@0;" + TAG, 4);
        }
        for (int v : new int[] {100, 300, 310, 319}) {
            wrongAt("t" + v, 3);
            wrongAt("t31," + v, 6);
        }
        wrongAt("a-1,0+0@0;" + TAG, 1);
        wrongAt("a0,-1+0@0;" + TAG, 3);
    }

    /** "a SLIP (-99 to 99)"; ""+" or "-", how much SLIP is (with "-" below 0)". */
    private static void slips() {
        for (int v = 0; v <= 99; v++) {
            SlipRanges r = read("a0,0+" + v + "@0;t0,0-" + v + "@0", 2);
            same("SLIP " + v, r.node(0, 3), v);
            same("SLIP below 0 " + v, r.node(1, 3), -v);
        }
        for (int v : new int[] {100, 101, 199, 990, 999}) {
            wrongAt("a0,0+" + v + "@0;" + TAG, 7);
            wrongAt("a0,0-" + v + "@0;" + TAG, 7);
        }
    }

    /** "a START (0 to 9999)". */
    private static void starts() {
        for (int v : new int[] {0, 1, 9, 10, 99, 100, 999, 1000, 9998, 9999}) {
            SlipRanges r = read("a0,0+0@" + v + ";t0,0+0@" + (9999 - v), 2);
            same("START " + v, r.node(0, 4), v);
            same("START " + (9999 - v), r.node(1, 4), 9999 - v);
            same("CLOCK at TIME 0 is START " + v, r.node(0, 6), v);
        }
        for (int v : new int[] {10000, 10001, 99990, 99999}) {
            wrongAt("a0,0+0@" + v + ";" + TAG, 11);
            wrongAt(ANCHOR + ";t0,0+0@" + v, 20);
        }
        wrongAt("a0,0+0@-1;" + TAG, 7);
    }

    /** "numbers in figures without a 0 ahead". */
    private static void noNoughtAhead() {
        for (char figure = '0'; figure <= '9'; figure++) {
            wrongAt("a0" + figure, 2);
            wrongAt("a0,0" + figure, 4);
            wrongAt("a0,0+0" + figure, 6);
            wrongAt("a0,0-0" + figure, 6);
            wrongAt("a0,0+0@0" + figure, 8);
        }
        read("a10,20+30@1000;t20,30-90@9000", 2);
    }

    /** ""+0" and "-0" are both 0". */
    private static void plusAndMinusNought() {
        SlipRanges r = read("a0,0+0@0;t0,0-0@0", 2);
        same("+0", r.node(0, 3), 0);
        same("-0", r.node(1, 3), 0);
        same("+0, CLOCK", r.clock(0, 1000000), 1000000);
        same("-0, CLOCK", r.clock(1, 1000000), 1000000);
    }

    /** "The place (from 0) of the first letter of THE PAGE with which, and those ahead of it, no row of NODES begins". */
    private static void everySignInEveryPlace() {
        String begun = "a1,1+1@1;t";
        String[] right = {"at", "0123456789", "0123456789,", "0123456789", "0123456789+-", "0123456789", "0123456789@",
            "0123456789", "0123456789;", "at"};
        for (int place = 0; place < begun.length(); place++) {
            for (char sign = 32; sign <= 126; sign++) {
                String text = begun.substring(0, place) + sign;
                same("fault of " + text, typed(text).fault(), right[place].indexOf(sign) >= 0 ? place + 1 : place);
                same("and more of " + text, typed(text + "!").fault(), right[place].indexOf(sign) >= 0 ? place + 1 : place);
            }
        }
    }

    private static void isGreatest(SlipRanges r, int one, int other) {
        int dx = r.node(one, 1) - r.node(other, 1);
        int dy = r.node(one, 2) - r.node(other, 2);
        int square = 100 * (dx * dx + dy * dy);
        int flight = r.flight(one, other);
        CHECK.holds("FLIGHT over " + dx + ", " + dy, flight >= 0 && flight * flight <= square && (flight + 1) * (flight + 1) > square);
        same("FLIGHT back over " + dx + ", " + dy, r.flight(other, one), flight);
    }

    /** "FLIGHT of two NODES: the greatest whole number whose square is no more than .."; "0 of one with itself". */
    private static void flightIsTheGreatest() {
        for (int y = 0; y <= 31; y++) {
            for (int x = 0; x <= 31; x++) {
                SlipRanges r = read("a0,0+0@0;a31,0+0@0;a0,31+0@0;t" + x + "," + y + "+0@0", 4);
                for (int node = 0; node < 4; node++) isGreatest(r, node, 3);
                same("with itself", r.flight(3, 3), 0);
            }
        }
        SlipRanges r = read("a0,0+0@0;a0,0+0@0;t31,31+0@0;t3,4+0@0", 4);
        same("two at one place", r.flight(0, 1), 0);
        same("the longest", r.flight(0, 2), 438);
        same("a square that is no more", r.flight(0, 3), 50);
    }

    /** "CLOCK of a NODE at TIME t: START + t + Math.floorDiv(SLIP * t, 10000)". */
    private static void clockFloors() {
        SlipRanges r = read("a0,0+1@5;t0,0-1@5;t0,0+99@9999;t0,0-99@0", 4);
        int[][] due = {
            {0, 0, 5}, {0, 9999, 10004}, {0, 10000, 10006}, {0, 10001, 10007}, {0, 19999, 20005}, {0, 20000, 20007},
            {1, 0, 5}, {1, 1, 5}, {1, 9999, 10003}, {1, 10000, 10004}, {1, 10001, 10004}, {1, 20000, 20003}, {1, 20001, 20003},
            {2, 101, 10100}, {2, 102, 10102}, {3, 1, 0}, {3, 101, 100}, {3, 102, 100}};
        for (int[] one : due) same("CLOCK of " + one[0] + " at " + one[1], r.clock(one[0], one[1]), one[2]);
    }

    /** "OUTSIDE: t (0 to 1000000)". */
    private static void clockUpToAMillion() {
        SlipRanges r = read("a0,0+99@9999;t0,0-99@0", 2);
        same("at 0", r.clock(0, 0), 9999);
        same("at 1000000, on", r.clock(0, 1000000), 9999 + 1000000 + 9900);
        same("at 1000000, back", r.clock(1, 1000000), 1000000 - 9900);
        same("TIME stays", r.about(3), 0);
    }

    /** "DELAY of a NODE: 10 to 300 (100 at first)". */
    private static void delays() {
        SlipRanges r = read(PAIR, 2);
        for (int node = 0; node < 2; node++) {
            same("at first", r.delay(node, 10), 100);
            same("10", r.delay(node, 11), 10);
            same("11", r.delay(node, 299), 11);
            same("299", r.delay(node, 300), 299);
            same("300", r.node(node, 5), 300);
        }
    }

    /** "PATHS of a TAG and an ANCHOR: at first one, with EXTRA 0 and LOUD 9". */
    private static void atFirstOnePath() {
        SlipRanges r = read("a0,0+0@0;t3,4+0@0;a5,5+0@0;t6,6+0@0", 4);
        r.level(9);
        for (int tag = 1; tag <= 3; tag += 2) {
            for (int anchor = 0; anchor <= 2; anchor += 2) {
                same("EXTRA 0, LOUD 9", r.firstPath(tag, anchor), 0);
                same("one", r.block(tag, anchor), 1);
            }
        }
    }

    /** "six at most"; "FULL: there are six"; "All PATHS of a TAG and an ANCHOR are gone: how many they had". */
    private static void sixPathsAtMost() {
        SlipRanges r = read(PAIR, 2);
        for (int n = 2; n <= 6; n++) same("beside the first", r.path(1, 0, 5, 5), n);
        same("full", r.path(1, 0, 5, 5), FULL);
        same("all six", r.block(1, 0), 6);
        same("none is left", r.block(1, 0), 0);
        for (int n = 1; n <= 6; n++) same("anew", r.path(1, 0, 100 - n, 5), n);
        same("full again", r.path(1, 0, 0, 9), FULL);
        same("the sixth counts, a seventh does not", r.firstPath(1, 0), 94);
    }

    /** "OUTSIDE: extra (0 to 150), loud (1 to 9)". */
    private static void extrasAndLouds() {
        for (int extra : new int[] {0, 1, 149, 150}) {
            for (int loud = 1; loud <= 9; loud++) {
                SlipRanges r = read(PAIR, 2);
                r.block(1, 0);
                same("it comes", r.path(1, 0, extra, loud), 1);
                for (int level = 1; level <= 9; level++) {
                    r.level(level);
                    same("LOUD " + loud + " at LEVEL " + level, r.firstPath(1, 0), loud >= level ? extra : NONE);
                }
            }
        }
    }

    /** "of those whose LOUD is LEVEL (1 to 9, 4 at first) or more the one of least EXTRA". */
    private static void firstPathByLevel() {
        SlipRanges r = read(PAIR, 2);
        r.block(1, 0);
        r.path(1, 0, 10, 3);
        same("3 is less than 4", r.firstPath(1, 0), NONE);
        r.path(1, 0, 30, 5);
        same("5 is more than 4", r.firstPath(1, 0), 30);
        r.path(1, 0, 20, 4);
        same("4 is 4", r.firstPath(1, 0), 20);
        int[] due = {10, 10, 10, 20, 30, NONE, NONE, NONE, NONE};
        for (int level = 1; level <= 9; level++) {
            r.level(level);
            same("LEVEL " + level, r.firstPath(1, 0), due[level - 1]);
        }
    }

    /** "the one of least EXTRA (of several it does not matter which)". */
    private static void firstPathOfSeveral() {
        SlipRanges r = read(PAIR, 2);
        r.block(1, 0);
        r.path(1, 0, 12, 9);
        r.path(1, 0, 11, 9);
        r.path(1, 0, 11, 8);
        r.path(1, 0, 12, 8);
        same("the least, neither first nor last", r.firstPath(1, 0), 11);
        r.path(1, 0, 0, 4);
        same("EXTRA 0 is less", r.firstPath(1, 0), 0);
        r.level(9);
        same("one of several is not loud enough", r.firstPath(1, 0), 11);
    }

    /** "none"; "NONE: there is none". */
    private static void firstPathNone() {
        SlipRanges r = read(PAIR, 2);
        r.block(1, 0);
        same("no PATHS", r.firstPath(1, 0), NONE);
        for (int n = 1; n <= 6; n++) r.path(1, 0, n, 3);
        same("six, none loud enough", r.firstPath(1, 0), NONE);
        r.level(3);
        same("all of them are", r.firstPath(1, 0), 1);
    }

    /** "LEVEL is another one: which it was .. v (1 to 9)". */
    private static void levels() {
        SlipRanges r = read(PAIR, 2);
        int was = 4;
        for (int v = 1; v <= 9; v++) {
            same("was", r.level(v), was);
            same("is", r.about(4), v);
            was = v;
        }
        same("the same again", r.level(9), 9);
    }

    /** "SlipRanges(): No FIELD". */
    private static void noField() {
        SlipRanges r = new SlipRanges();
        same("no NODES to tell of", r.about(0), STATE);
        same("no letters", r.count(0), 0);
        same("nothing ever", r.count(1) + r.count(2) + r.count(3) + r.count(4), 0);
        SlipRanges right = typed(PAIR);
        same("a text alone is no FIELD", right.node(0, 0), UNKNOWN);
        right.fault();
        same("nor one that was looked at", right.about(0), STATE);
    }

    /** "OUTSIDE: code (32 to 126)". */
    private static void lettersByCode() {
        SlipRanges r = new SlipRanges();
        long h = 1601;
        for (int code = 32; code <= 126; code++) {
            same("letter " + code, r.letter(code), code - 31);
            h = 31 * h + code;
        }
        for (int number : new int[] {95, 0, 0, 0, 0}) h = 31 * h + number;
        same("all of them, in order", r.digest(), h);
    }

    /** "FULL: there are 110". */
    private static void aHundredAndTenLetters() {
        SlipRanges r = new SlipRanges();
        for (int n = 1; n <= 110; n++) same("letter", r.letter('a'), n);
        same("a 111th", r.letter('a'), FULL);
        same("how many", r.count(0), 110);
    }

    /** "THE PAGE is empty: how many letters it had". */
    private static void blank() {
        SlipRanges r = new SlipRanges();
        same("none", r.blank(), 0);
        for (int n = 1; n <= 110; n++) r.letter('a');
        same("all", r.blank(), 110);
        same("empty then", r.count(0), 0);
        same("none, again", r.blank(), 0);
        for (int n = 1; n <= 110; n++) same("room for all again", r.letter('t'), n);
        SlipRanges s = read(PAIR, 2);
        Check.type(s, "a1,1");
        s.blank();
        same("THE FIELD stays", s.about(0), 2);
        same("nothing of it is read", s.field(), STATE);
    }

    /** "THE PAGE is empty": what stood behind its end is not read any more. */
    private static void nothingStaysBehind() {
        SlipRanges r = typed("a1,1+1@11;t2,2+2@22;a3,3+3@33");
        r.blank();
        Check.type(r, "a1,1+1@11;t2,2+2@2");
        same("blank, fault", r.fault(), 18);
        same("blank", r.field(), 2);
        same("START", r.node(1, 4), 2);
        Check.type(r, "a1,1+1@1");
        same("read, fault", r.fault(), 8);
        same("read", r.field(), STATE);
        r.blank();
        Check.type(r, "t1,1+1@1;a1,1+1@1;a1,1+1@1");
        r.blank();
        Check.type(r, "t1,1+1@1;a1,1+1@1");
        same("blank, at a ;", r.field(), 2);
    }

    /** "how many letters it has, if there is none". */
    private static void faultOfNothing() {
        same("empty", new SlipRanges().fault(), 0);
        for (int n = 1; n <= LONGEST.length(); n++) {
            same("as far as " + n, typed(LONGEST.substring(0, n)).fault(), n);
        }
    }

    private static void faultOfAFullPage() {
        wrongAt("x".repeat(110), 0);
        wrongAt("a" + "1".repeat(109), 3);
        wrongAt(LONGEST + "x".repeat(6), 104);
        wrongAt((ANCHOR + ";").repeat(12) + "a1", 62);
    }

    /** The longest row of NODES has 104 letters; no letter may come behind it. */
    private static void faultBehindTheLongestRow() {
        same("letters", LONGEST.length(), 104);
        read(LONGEST, 7);
        for (char sign = 32; sign <= 126; sign++) same("and " + sign, typed(LONGEST + sign).fault(), 104);
    }

    /** "THE PAGE is empty then". */
    private static void fieldEmptiesThePage() {
        SlipRanges r = typed(PAIR);
        r.field();
        same("empty", r.count(0), 0);
        same("nothing to read again", r.field(), STATE);
        same("THE FIELD stays", r.about(0), 2);
        same("a letter is the first", r.letter('a'), 1);
    }

    /** "another one is gone, all is as at first but what count() 1 to 4 tell". */
    private static void fieldAnew() {
        SlipRanges r = typed("t31,31+99@9999;a1,1-99@9999;t2,2+1@1;a3,3+1@1;a4,4+1@1;a5,5+1@1;a6,6+1@1");
        r.field();
        for (int anchor = 3; anchor <= 6; anchor++) r.exchange(0, anchor);
        r.delay(0, 300);
        r.delay(1, 300);
        for (int n = 2; n <= 6; n++) r.path(0, 3, 150, 9);
        r.block(0, 1);
        r.exchange(0, 1);
        r.want(0, 1);
        r.deal();
        r.frame();
        Check.type(r, "a0,0+0@0;t3,4+0@0");
        same("fewer NODES", r.field(), 2);
        same("and the first is gone", r.node(2, 0), UNKNOWN);
        Check.type(r, "t3,4+0@0;a0,0+0@0;t9,9+0@0;a9,9+0@0;a8,8+0@0;a7,7+0@0;a6,6+0@0");
        same("as many as at first", r.field(), 7);
        for (int anchor : new int[] {1, 3, 4, 5, 6}) {
            same("no RANGE", r.range(0, anchor), NONE);
            same("EXTRA 0", r.firstPath(0, anchor), 0);
            same("one PATH", r.block(0, anchor), 1);
        }
        same("not PLACED", r.placed(0, 0), STATE);
        same("MISFIT by none", r.misfit(0, 0, 0), 0);
        int[] due = {1, 3, 4, 0, 0, 100, 0, 0, 1};
        for (int what = 0; what <= 8; what++) same("node, what " + what, r.node(0, what), due[what]);
        same("no SLOTS", r.about(6), 0);
        same("TIME", r.about(3), 0);
        int[] counts = {0, 21, 5, 3, 1};
        for (int what = 0; what <= 4; what++) same("count " + what, r.count(what), counts[what]);
    }

    /** "of an ANCHOR NONE" (promise 6). */
    private static void whatOfNodes() {
        SlipRanges r = read("t1,2-3@4;t5,6+7@8;a9,10-11@12;t13,14+15@16;a17,18-19@20", 5);
        int[][] due = {
            {1, 1, 2, -3, 4, 100, 4, 0, 2}, {1, 5, 6, 7, 8, 100, 8, 0, 2}, {0, 9, 10, -11, 12, 100, 12, NONE, NONE},
            {1, 13, 14, 15, 16, 100, 16, 0, 2}, {0, 17, 18, -19, 20, 100, 20, NONE, NONE}};
        for (int node = 0; node < 5; node++) {
            for (int what = 0; what <= 8; what++) same("node " + node + ", what " + what, r.node(node, what), due[node][what]);
        }
    }

    /** "An object is used for at most 512 calls after it has been made". */
    private static void the512thCall() {
        SlipRanges r = typed(PAIR);
        r.field();
        for (int call = PAIR.length() + 2; call < 512; call++) r.exchange(1, 0);
        same("the 512th call", r.count(1), 512 - PAIR.length() - 2);
    }
}
