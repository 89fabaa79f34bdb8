/** The promises one by one: ordinary inputs, the edges that the document names, wrong inputs. */
public final class PromisesTest {
    private static final int NONE = -1, UNKNOWN = -1000001, OUTSIDE = -1000002, STATE = -1000003, FULL = -1000004, LOST = -1000005;
    private static final int LOW = Integer.MIN_VALUE, HIGH = Integer.MAX_VALUE;

    /** Anchor 0 and tag 1, FLIGHT 50, no SLIP: an EXCHANGE at TIME 0 has T1 to T6 at 0, 50, 150, 200, 300, 350. */
    private static final String PAIR = "a0,0+0@0;t3,4+0@0";
    /** Tag 0 between anchors 1 to 6, none of which slips: RANGE is FLIGHT and EXTRA. */
    private static final String RING = "t10,0+0@0;a0,0+0@0;a0,0+0@0;a0,0+0@0;a0,0+0@0;a0,0+0@0;a0,0+0@0";

    private static final Check CHECK = new Check();

    public static void main(String[] args) {
        newObject();
        letter();
        blank();
        fault();
        faultOfNumbers();
        field();
        fieldIsAsAtFirst();
        node();
        flight();
        clock();
        delay();
        path();
        block();
        firstPath();
        level();
        exchange();
        exchangeWithSlips();
        exchangeLost();
        idle();
        last();
        heard();
        range();
        misfit();
        placed();
        placedTies();
        placedWithoutThoseThatDoNotFit();
        limit();
        want();
        deal();
        slot();
        frame();
        frameEdges();
        about();
        count();
        digest();
        refusalsChangeNothing();
        CHECK.end("PromisesTest");
    }

    private static void same(String what, long got, long due) {
        CHECK.same(what, got, due);
    }

    private static SlipRanges fieldOf(String text) {
        return Check.fieldOf(text);
    }

    private static long fold(long h, int... numbers) {
        for (int number : numbers) h = 31 * h + number;
        return h;
    }

    private static void newObject() {
        SlipRanges r = new SlipRanges();
        same("1 node of none", r.node(0, 0), UNKNOWN);
        same("1 node, what beside", r.node(0, 99), UNKNOWN);
        same("1 flight", r.flight(0, 0), UNKNOWN);
        same("1 clock", r.clock(0, -1), UNKNOWN);
        same("1 delay", r.delay(0, 9), UNKNOWN);
        same("1 path", r.path(1, 0, -1, 0), UNKNOWN);
        same("1 block", r.block(1, 0), UNKNOWN);
        same("1 firstPath", r.firstPath(1, 0), UNKNOWN);
        same("1 level", r.level(10), STATE);
        same("1 exchange", r.exchange(1, 0), UNKNOWN);
        same("1 idle", r.idle(-1), STATE);
        same("1 last", r.last(1), STATE);
        same("1 heard", r.heard(0), STATE);
        same("1 range", r.range(1, 0), UNKNOWN);
        same("1 misfit", r.misfit(1, 32, 0), UNKNOWN);
        same("1 placed", r.placed(1, 5), UNKNOWN);
        same("1 limit", r.limit(-1), STATE);
        same("1 want", r.want(1, 3), UNKNOWN);
        same("1 deal", r.deal(), STATE);
        same("1 slot", r.slot(16), STATE);
        same("1 frame", r.frame(), STATE);
        same("1 about", r.about(8), STATE);
        for (int what = 0; what <= 4; what++) same("1 count " + what, r.count(what), 0);
        same("1 fault", r.fault(), 0);
        same("1 field", r.field(), STATE);
        same("1 digest", r.digest(), 45835270751L);
    }

    private static void letter() {
        SlipRanges r = new SlipRanges();
        same("2 least", r.letter(32), 1);
        same("2 greatest", r.letter(126), 2);
        for (int code : new int[] {31, 127, -1, 0, LOW, HIGH}) same("2 code " + code, r.letter(code), OUTSIDE);
        same("2 refused ones do not come", r.count(0), 2);
        for (int n = 3; n <= 110; n++) same("2 letter " + n, r.letter('a'), n);
        same("2 full", r.letter('a'), FULL);
        same("2 outside ahead of full", r.letter(127), OUTSIDE);
        same("2 still", r.count(0), 110);
    }

    private static void blank() {
        SlipRanges r = new SlipRanges();
        same("3 empty", r.blank(), 0);
        Check.type(r, "a1,");
        same("3 three", r.blank(), 3);
        same("3 empty then", r.count(0), 0);
        Check.type(r, PAIR);
        same("3 nothing is left behind", r.field(), 2);
    }

    private static void faultAt(String text, int place) {
        SlipRanges r = new SlipRanges();
        Check.type(r, text);
        same("4 fault of " + text, r.fault(), place);
        same("4 asked again " + text, r.fault(), place);
        same("4 all letters stay " + text, r.count(0), text.length());
    }

    private static void fault() {
        faultAt("", 0);
        faultAt("a", 1);
        faultAt("t", 1);
        faultAt("b", 0);
        faultAt("A", 0);
        faultAt(" a", 0);
        faultAt("1", 0);
        faultAt(";", 0);
        faultAt("aa", 1);
        faultAt("a 1", 1);
        faultAt("a,", 1);
        faultAt("a-1", 1);
        faultAt("a1;", 2);
        faultAt("a1,,", 3);
        faultAt("a1,+", 3);
        faultAt("a1,1@", 4);
        faultAt("a1,1-", 5);
        faultAt("a1,1-+", 5);
        faultAt("a1,1+@", 5);
        faultAt("a1,1+1,", 6);
        faultAt("a1,1+1@;", 7);
        faultAt("a1,1+1@-1", 7);
        faultAt("a1,1+1@1", 8);
        faultAt("a1,1+1@1,", 8);
        faultAt("a1,1+1@1;", 9);
        faultAt("a1,1+1@1;;", 9);
        faultAt("a1,1+1@1;a1,1+1@1x", 17);
        String anchor = "a1,1+1@1;";
        String tag = "t1,1+1@1;";
        faultAt(anchor.repeat(6) + "a1,1+1@1", 62);
        faultAt(anchor.repeat(7), 62);
        faultAt(anchor.repeat(7) + "a", 62);
        faultAt(tag.repeat(4), 36);
        faultAt(tag.repeat(4) + "t", 36);
        faultAt(tag.repeat(4) + "a", 37);
        faultAt(tag.repeat(3) + anchor + "t1,1+1@1;" + anchor + "t", 54);
    }

    private static void faultOfNumbers() {
        faultAt("a31,31+99@9999", 14);
        faultAt("a32", 2);
        faultAt("a310", 3);
        faultAt("a40", 2);
        faultAt("a30,30", 6);
        faultAt("a00", 2);
        faultAt("a01", 2);
        faultAt("a0,32", 4);
        faultAt("a0,310", 5);
        faultAt("a0,00", 4);
        faultAt("a0,0+100", 7);
        faultAt("a0,0+99", 7);
        faultAt("a0,0-990", 7);
        faultAt("a0,0-05", 6);
        faultAt("a0,0-00", 6);
        faultAt("a0,0+0@10000", 11);
        faultAt("a0,0+0@99999", 11);
        faultAt("a0,0+0@9999;", 12);
        faultAt("a0,0+0@00", 8);
        faultAt("a0,0+0@09", 8);
    }

    private static void noField(String text) {
        SlipRanges r = new SlipRanges();
        Check.type(r, text);
        same("5 no field: " + text, r.field(), STATE);
        same("5 THE PAGE stays: " + text, r.count(0), text.length());
        same("5 none was read: " + text, r.count(3), 0);
        same("5 none is there: " + text, r.about(0), STATE);
    }

    private static void field() {
        noField("");
        noField("a0,0+0@0");
        noField("t0,0+0@0");
        noField("a0,0+0@0;a1,1+0@0");
        noField("t0,0+0@0;t1,1+0@0");
        noField("a0,0+0@0;t1,1+0@0;");
        noField("a0,0+0@0;t1,1+0@");
        noField("a0,0+0@0;t1,1+0");
        noField("a0,0+0@0;t1,1");
        noField("a0,0+0@0;t");
        noField("a0,0+0@0;t1,1+0@0 ");
        noField("a0,0+0@0;t32,1+0@0");
        noField("t0,0+0@0;t1,1+0@0;t0,0+0@0;t1,1+0@0;t0,0+0@0;a1,1+0@0");
        noField("a0,0+0@0;".repeat(7) + "t0,0+0@0");

        SlipRanges r = new SlipRanges();
        String most = "t31,31+99@9999;".repeat(4) + "a31,31-99@9999;a31,31-99@9999;a31,31-99@9999";
        Check.type(r, most);
        same("5 the longest row", r.fault(), 104);
        same("5 seven nodes", r.field(), 7);
        same("5 THE PAGE is empty then", r.count(0), 0);
        same("5 tags", r.about(1), 4);
        same("5 anchors", r.about(2), 3);
        Check.type(r, "x");
        same("5 a wrong row", r.field(), STATE);
        same("5 leaves THE FIELD", r.about(0), 7);
        r.blank();
        Check.type(r, "t0,0-0@0;a1,1+0@0");
        same("5 another", r.field(), 2);
        same("5 the first is gone", r.about(0), 2);
        same("5 its nodes, too", r.node(2, 0), UNKNOWN);
        same("5 fields read", r.count(3), 2);
    }

    private static void fieldIsAsAtFirst() {
        String text = "t5,5+20@100;a0,0-30@7;a31,0+0@0;a0,31+5@0";
        SlipRanges r = fieldOf(text);
        r.delay(0, 50);
        r.path(0, 1, 3, 9);
        r.block(0, 2);
        r.exchange(0, 1);
        r.exchange(0, 2);
        r.exchange(0, 3);
        r.path(0, 2, 1, 9);
        r.exchange(0, 2);
        r.level(7);
        r.limit(3);
        r.want(0, 16);
        r.deal();
        r.frame();
        r.placed(0, 0);
        Check.type(r, text);
        r.field();
        long h = fold(1601, 4, 1, 3, 0, 4, 400, 0, 0);
        h = fold(h, 1, 5, 5, 20, 100, 100, 100, 0, 1);
        h = fold(h, 0, 0, 0, -30, 7, 100, 7, -1, -1);
        h = fold(h, 0, 31, 0, 0, 0, 100, 0, -1, -1);
        h = fold(h, 0, 0, 31, 5, 0, 100, 0, -1, -1);
        h = fold(h, 70, 0, -1, 264, 0, -1, 264, 0, -1);
        for (int slot = 0; slot < 16; slot++) h = fold(h, NONE);
        same("5 all is as at first but the counts", r.digest(), fold(h, 0, 5, 1, 2, 1));
        same("5 no EXCHANGE yet", r.last(1), STATE);
        same("5 none to hear", r.heard(1), STATE);
        same("5 not PLACED", r.placed(0, 0), STATE);
        same("5 one PATH", r.block(0, 1), 1);
    }

    private static void node() {
        SlipRanges r = fieldOf("t5,6-20@100;a31,0+99@9999;a0,31-0@0");
        int[][] due = {{1, 5, 6, -20, 100, 100, 100, 0, 1}, {0, 31, 0, 99, 9999, 100, 9999, -1, -1}, {0, 0, 31, 0, 0, 100, 0, -1, -1}};
        for (int n = 0; n < 3; n++) {
            for (int what = 0; what <= 8; what++) same("6 node " + n + ", " + what, r.node(n, what), due[n][what]);
        }
        r.idle(10001);
        same("6 CLOCK at TIME, slipping back", r.node(0, 6), 100 + 10001 - 21);
        same("6 CLOCK at TIME, slipping on", r.node(1, 6), 9999 + 10001 + 99);
        r.delay(2, 33);
        r.want(0, 8);
        same("6 DELAY", r.node(2, 5), 33);
        same("6 PERIOD", r.node(0, 7), 8);
        for (int n : new int[] {-1, 3, LOW, HIGH}) same("6 no node " + n, r.node(n, 9), UNKNOWN);
        for (int what : new int[] {-1, 9, LOW, HIGH}) same("6 what " + what, r.node(0, what), OUTSIDE);
    }

    private static void flight() {
        SlipRanges r = fieldOf("a0,0+0@0;t31,31+0@0;a3,4+0@0;a4,3+0@0;a1,0+0@0;a30,31+0@0;t0,31+0@0");
        same("7 with itself", r.flight(1, 1), 0);
        same("7 longest", r.flight(0, 1), 438);
        same("7 back", r.flight(1, 0), 438);
        same("7 a whole root", r.flight(0, 2), 50);
        same("7 root of 200", r.flight(2, 3), 14);
        same("7 one to the side", r.flight(4, 0), 10);
        same("7 tags", r.flight(1, 6), 310);
        same("7 root of 92200", r.flight(4, 5), 424);
        for (int n : new int[] {-1, 7, LOW, HIGH}) {
            same("7 one " + n, r.flight(n, 0), UNKNOWN);
            same("7 other " + n, r.flight(0, n), UNKNOWN);
        }
    }

    private static void clock() {
        SlipRanges r = fieldOf("a0,0+99@9999;t1,1-1@5");
        same("8 at 0", r.clock(0, 0), 9999);
        same("8 on", r.clock(0, 10000), 20098);
        same("8 not yet a whole tick", r.clock(0, 101), 10100);
        same("8 a whole tick", r.clock(0, 102), 10102);
        same("8 back at once", r.clock(1, 1), 5);
        same("8 back by one", r.clock(1, 10000), 10004);
        same("8 back by two", r.clock(1, 10001), 10004);
        same("8 greatest", r.clock(0, 1000000), 1019899);
        same("8 above", r.clock(0, 1000001), OUTSIDE);
        same("8 below", r.clock(0, -1), OUTSIDE);
        same("8 far", r.clock(1, HIGH), OUTSIDE);
        for (int n : new int[] {-1, 2, LOW, HIGH}) same("8 node " + n, r.clock(n, -1), UNKNOWN);
    }

    private static void delay() {
        SlipRanges r = fieldOf(PAIR);
        same("9 was", r.delay(0, 10), 100);
        same("9 was 10", r.delay(0, 300), 10);
        same("9 of another", r.delay(1, 11), 100);
        for (int v : new int[] {9, 301, -100, LOW, HIGH}) same("9 v " + v, r.delay(0, v), OUTSIDE);
        for (int n : new int[] {-1, 2, LOW, HIGH}) same("9 node " + n, r.delay(n, 9), UNKNOWN);
        same("9 stays", r.node(0, 5), 300);
        r.exchange(1, 0);
        same("9 the ANCHOR's", r.last(3) - r.last(2), 300);
        same("9 the TAG's", r.last(5) - r.last(4), 11);
    }

    private static void pairsAlone(String what, java.util.function.IntBinaryOperator call) {
        int[][] wrong = {{0, 0}, {1, 1}, {0, 1}, {-1, 0}, {1, -1}, {2, 0}, {1, 2}, {7, 0}, {1, 7}, {LOW, 0}, {1, LOW}, {HIGH, 0}, {1, HIGH}};
        for (int[] pair : wrong) same(what + " " + pair[0] + ", " + pair[1], call.applyAsInt(pair[0], pair[1]), UNKNOWN);
    }

    private static void path() {
        SlipRanges r = fieldOf(PAIR);
        same("10 second", r.path(1, 0, 0, 1), 2);
        same("10 third", r.path(1, 0, 150, 9), 3);
        pairsAlone("10", (tag, anchor) -> r.path(tag, anchor, -1, 0));
        for (int extra : new int[] {-1, 151, LOW, HIGH}) same("10 extra " + extra, r.path(1, 0, extra, 5), OUTSIDE);
        for (int loud : new int[] {0, 10, LOW, HIGH}) same("10 loud " + loud, r.path(1, 0, 5, loud), OUTSIDE);
        for (int n = 4; n <= 6; n++) same("10 path " + n, r.path(1, 0, 7, 7), n);
        same("10 full", r.path(1, 0, 7, 7), FULL);
        same("10 outside ahead of full", r.path(1, 0, 151, 7), OUTSIDE);
        same("10 six", r.block(1, 0), 6);
    }

    private static void block() {
        SlipRanges r = fieldOf("t0,0+0@0;a1,1+0@0;a2,2+0@0;t3,3+0@0");
        r.path(0, 1, 5, 5);
        same("11 two", r.block(0, 1), 2);
        same("11 none", r.block(0, 1), 0);
        same("11 none is first", r.firstPath(0, 1), NONE);
        same("11 another anchor's stay", r.block(0, 2), 1);
        same("11 another tag's stay", r.block(3, 1), 1);
        same("11 one comes", r.path(0, 1, 5, 5), 1);
        SlipRanges pair = fieldOf(PAIR);
        pairsAlone("11", pair::block);
    }

    private static void firstPath() {
        SlipRanges r = fieldOf(PAIR);
        same("12 at first", r.firstPath(1, 0), 0);
        r.level(9);
        same("12 at first LOUD 9", r.firstPath(1, 0), 0);
        r.level(4);
        r.block(1, 0);
        same("12 none", r.firstPath(1, 0), NONE);
        r.path(1, 0, 2, 3);
        same("12 not loud enough", r.firstPath(1, 0), NONE);
        r.path(1, 0, 90, 9);
        same("12 the loud one", r.firstPath(1, 0), 90);
        r.path(1, 0, 40, 4);
        same("12 just loud enough, and sooner", r.firstPath(1, 0), 40);
        r.path(1, 0, 60, 9);
        same("12 later ones do not count", r.firstPath(1, 0), 40);
        r.level(5);
        same("12 by LEVEL", r.firstPath(1, 0), 60);
        r.level(1);
        same("12 the softest", r.firstPath(1, 0), 2);
        pairsAlone("12", r::firstPath);
    }

    private static void level() {
        SlipRanges r = fieldOf(PAIR);
        same("13 was", r.level(9), 4);
        same("13 was 9", r.level(1), 9);
        for (int v : new int[] {0, 10, -1, LOW, HIGH}) same("13 v " + v, r.level(v), OUTSIDE);
        same("13 stays", r.about(4), 1);
    }

    private static void exchange() {
        SlipRanges r = fieldOf(PAIR);
        same("14 TWO-SIDED", r.exchange(1, 0), 50);
        int[] due = {0, 50, 150, 200, 300, 350, 50, 50, 50, 1, 0};
        for (int what = 1; what <= 11; what++) same("14 last " + what, r.last(what), due[what - 1]);
        same("14 TIME", r.about(3), 360);
        r.block(1, 0);
        r.path(1, 0, 150, 9);
        same("14 by an echo", r.exchange(1, 0), 200);
        same("14 begins at TIME", r.last(1), 360);
        same("14 TIME by an echo", r.about(3), 360 + 3 * 200 + 200 + 10);
        same("14 FLIGHT without EXTRA", r.last(9), 50);
        pairsAlone("14", r::exchange);
        same("14 count", r.count(1), 2);
    }

    /** Tag and anchor at one place, slipping apart: TWO-SIDED -549 / 619 and 549 / 619. */
    private static void exchangeWithSlips() {
        SlipRanges r = fieldOf("t9,9+99@0;a9,9-99@0");
        r.delay(0, 10);
        r.delay(1, 300);
        same("14 floors below 0", r.exchange(0, 1), -1);
        int[] due = {0, 0, 297, 302, 313, 306, 2, -1, 0, 0, 1};
        for (int what = 1; what <= 11; what++) same("14 slips, last " + what, r.last(what), due[what - 1]);
        SlipRanges s = fieldOf("t9,9-99@0;a9,9+99@0");
        s.delay(0, 10);
        s.delay(1, 300);
        same("14 floors above 0", s.exchange(0, 1), 0);
        same("14 ONE-SIDED floors, too", s.last(7), -3);
    }

    private static void exchangeLost() {
        SlipRanges r = fieldOf(PAIR);
        r.block(1, 0);
        same("14 lost", r.exchange(1, 0), LOST);
        same("14 lost, TIME", r.about(3), 1);
        same("14 lost, no RANGE", r.range(1, 0), NONE);
        same("14 lost, no STAMPS", r.last(1), STATE);
        r.path(1, 0, 0, 4);
        r.exchange(1, 0);
        r.level(5);
        same("14 lost by LEVEL", r.exchange(1, 0), LOST);
        same("14 lost, RANGE stays", r.range(1, 0), 50);
        same("14 lost, STAMPS stay", r.last(1), 1);
        same("14 lost, TIME then", r.about(3), 362);
        same("14 exchanges", r.count(1), 3);
        same("14 those lost", r.count(2), 2);
    }

    /** TIME as late as idle() lets it become. */
    private static SlipRanges late(String text) {
        SlipRanges r = fieldOf(text);
        for (int i = 1; i <= 100; i++) same("15 idle " + i, r.idle(99999), 99999 * i);
        same("15 the last of it", r.idle(99), 9999999);
        return r;
    }

    private static void idle() {
        SlipRanges r = late(PAIR);
        same("15 no more", r.idle(1), OUTSIDE);
        same("15 by nothing", r.idle(0), 9999999);
        same("15 frame is too late", r.frame(), STATE);
        same("15 an EXCHANGE is not refused", r.exchange(1, 0), 50);
        same("15 TIME beyond", r.about(3), 10000359);
        same("15 idle beyond", r.idle(0), OUTSIDE);
        same("15 CLOCK beyond", r.node(1, 6), 10000359);
        SlipRanges s = fieldOf(PAIR);
        for (int by : new int[] {-1, 100000, LOW, HIGH}) same("15 by " + by, s.idle(by), OUTSIDE);
        same("15 TIME stays", s.about(3), 0);
    }

    private static void last() {
        SlipRanges r = fieldOf("t0,0+0@9;a3,4+0@90;a6,8+0@900");
        for (int what : new int[] {0, 12, -1, LOW, HIGH}) same("16 ahead of STATE, what " + what, r.last(what), OUTSIDE);
        same("16 none", r.last(11), STATE);
        r.exchange(0, 2);
        r.exchange(0, 1);
        same("16 the latest", r.last(11), 1);
        same("16 its tag", r.last(10), 0);
        same("16 S1", r.last(1), 9 + 510);
        same("16 S6", r.last(6), 90 + 510 + 350);
        for (int what : new int[] {0, 12}) same("16 what " + what, r.last(what), OUTSIDE);
    }

    private static void heard() {
        SlipRanges r = fieldOf("a0,0+0@0;t3,4+0@0;a6,8+0@77;t9,12+99@0");
        same("17 none", r.heard(9), STATE);
        r.exchange(1, 0);
        same("17 difference of FLIGHTS", r.heard(2), 50);
        same("17 a tag hears, too", r.heard(3), (302 - 100) - 100 - 50);
        same("17 the tag itself", r.heard(1), UNKNOWN);
        same("17 the anchor itself", r.heard(0), UNKNOWN);
        for (int n : new int[] {-1, 4, LOW, HIGH}) same("17 node " + n, r.heard(n), UNKNOWN);
        r.exchange(3, 2);
        same("17 of the latest", r.heard(1), 50 - 100);
        r.block(1, 0);
        r.exchange(1, 0);
        same("17 one that is LOST is not the latest", r.heard(1), 50 - 100);
        r.path(1, 0, 30, 9);
        r.exchange(1, 0);
        same("17 by an echo", r.heard(2), 50);
    }

    private static void range() {
        SlipRanges r = fieldOf(PAIR);
        same("18 none", r.range(1, 0), NONE);
        r.exchange(1, 0);
        same("18 TWO-SIDED", r.range(1, 0), 50);
        r.block(1, 0);
        r.path(1, 0, 7, 9);
        same("18 from then on", r.range(1, 0), 50);
        r.exchange(1, 0);
        same("18 the newer", r.range(1, 0), 57);
        pairsAlone("18", r::range);
        SlipRanges s = fieldOf("t0,0+0@0;t0,5+0@0;a0,9+0@0;a0,30+0@0");
        rangeAll(s, 0, 2, 3);
        rangeAll(s, 1, 2, 3);
        int[] due = {90, 300, 40, 250};
        for (int i = 0; i < 4; i++) same("18 each pair its own " + i, s.range(i / 2, 2 + i % 2), due[i]);
    }

    private static void misfit() {
        SlipRanges r = fieldOf("t9,9+99@0;a9,9-99@0;a0,9+0@0;a0,0+0@0;t1,1+0@0");
        same("19 none", r.misfit(0, 5, 5), 0);
        r.delay(0, 10);
        r.delay(1, 300);
        r.exchange(0, 1);
        same("19 a RANGE of -1 counts", r.misfit(0, 9, 9), 1);
        same("19 and elsewhere", r.misfit(0, 6, 5), 51 * 51);
        r.exchange(4, 3);
        same("19 FLIGHT 14, its own", r.misfit(4, 0, 0), 196);
        same("19 not another tag's", r.misfit(0, 9, 9), 1);
        SlipRanges s = fieldOf("t3,4+0@0;a0,0+0@0;a6,8+0@0;a31,31+0@0");
        s.exchange(0, 1);
        s.exchange(0, 2);
        same("19 at its place", s.misfit(0, 3, 4), 0);
        same("19 of both", s.misfit(0, 0, 0), 50 * 50 + 50 * 50);
        same("19 edge", s.misfit(0, 31, 31), (50 - 438) * (50 - 438) + (50 - 339) * (50 - 339));
        for (int v : new int[] {-1, 32, LOW, HIGH}) {
            same("19 x " + v, s.misfit(0, v, 0), OUTSIDE);
            same("19 y " + v, s.misfit(0, 0, v), OUTSIDE);
        }
        for (int n : new int[] {-1, 1, 4, LOW, HIGH}) same("19 tag " + n, s.misfit(n, -1, 0), UNKNOWN);
    }

    private static void isPlaced(String what, SlipRanges r, int tag, int... due) {
        for (int i = 0; i <= 4; i++) same("20 " + what + ", placed " + i, r.placed(tag, i), due[i]);
    }

    private static void placed() {
        SlipRanges r = fieldOf("t5,7+0@0;a0,0+0@0;a31,0+0@0;a0,31+0@0;t9,9+0@0;a31,31+0@0");
        r.exchange(0, 1);
        r.exchange(0, 2);
        same("20 by two", r.placed(0, 0), STATE);
        r.exchange(4, 3);
        same("20 what ahead of STATE", r.placed(0, 5), OUTSIDE);
        same("20 another's do not count", r.placed(0, 0), STATE);
        r.exchange(0, 3);
        isPlaced("by three", r, 0, 5, 7, 0, 2 + 4 + 8, 0);
        r.block(0, 5);
        r.exchange(0, 5);
        isPlaced("one LOST", r, 0, 5, 7, 0, 2 + 4 + 8, 0);
        r.path(0, 5, 0, 9);
        r.exchange(0, 5);
        isPlaced("by four", r, 0, 5, 7, 0, 2 + 4 + 8 + 32, 0);
        same("20 the other tag is not", r.placed(4, 0), STATE);
        SlipRanges s = fieldOf("a0,0+0@0;a31,0+0@0;a0,31+0@0;t5,7+0@0");
        rangeAll(s, 3, 0, 1, 2);
        isPlaced("with anchor 0", s, 3, 5, 7, 0, 1 + 2 + 4, 0);
        for (int what : new int[] {-1, 5, LOW, HIGH}) same("20 what " + what, r.placed(0, what), OUTSIDE);
        for (int n : new int[] {-1, 1, 6, LOW, HIGH}) same("20 tag " + n, r.placed(n, 5), UNKNOWN);
    }

    private static void rangeAll(SlipRanges r, int tag, int... anchors) {
        for (int anchor : anchors) r.exchange(tag, anchor);
    }

    /** Anchors in a line cannot tell the sides of it. */
    private static void placedTies() {
        SlipRanges across = fieldOf("t10,15+0@0;a0,10+0@0;a10,10+0@0;a20,10+0@0");
        rangeAll(across, 0, 1, 2, 3);
        isPlaced("the least y", across, 0, 10, 5, 0, 14, 0);
        SlipRanges along = fieldOf("t15,10+0@0;a10,0+0@0;a10,10+0@0;a10,20+0@0");
        rangeAll(along, 0, 1, 2, 3);
        isPlaced("of these the least x", along, 0, 5, 10, 0, 14, 0);
        SlipRanges corner = fieldOf("t1,2+0@0;a0,0+0@0;a0,0+0@0;a0,0+0@0");
        rangeAll(corner, 0, 1, 2, 3);
        isPlaced("y ahead of x", corner, 0, 2, 1, 0, 14, 0);
    }

    private static void echo(SlipRanges r, int anchor, int extra) {
        r.block(0, anchor);
        r.path(0, anchor, extra, 9);
        r.exchange(0, anchor);
    }

    /**
     * All anchors at one place, RANGES 100, but 200 of anchors 2 and 4. By 1 to 5 FIT is at FLIGHT 140 (MISFIT
     * 12000), without one of 2 and 4 at 125 (7500), without both at 100 (0).
     */
    private static void placedWithoutThoseThatDoNotFit() {
        SlipRanges r = fieldOf(RING);
        rangeAll(r, 0, 1, 3, 5);
        echo(r, 2, 100);
        echo(r, 4, 100);
        r.limit(9999);
        isPlaced("of several the least number", r, 0, 11, 6, 7500, 2 + 8 + 16 + 32, 4);
        r.limit(7500);
        isPlaced("not above LIMIT", r, 0, 11, 6, 7500, 58, 4);
        r.limit(7499);
        isPlaced("above LIMIT", r, 0, 10, 0, 0, 2 + 8 + 32, 4 + 16);
        r.limit(0);
        isPlaced("LIMIT 0", r, 0, 10, 0, 0, 42, 20);
        echo(r, 6, 110);
        isPlaced("three are left out", r, 0, 10, 0, 0, 42, 64 + 20);
        SlipRanges three = fieldOf(RING);
        rangeAll(three, 0, 1, 3);
        echo(three, 2, 100);
        three.limit(0);
        isPlaced("three stay, fit or not", three, 0, 13, 3, 6667, 14, 0);
        echo(three, 2, 0);
        isPlaced("by the newer RANGE", three, 0, 10, 0, 0, 14, 0);
        SlipRanges first = fieldOf("a0,0+0@0;a0,0+0@0;a0,0+0@0;a0,0+0@0;t10,0+0@0");
        rangeAll(first, 4, 1, 2, 3);
        first.path(4, 0, 99, 9);
        first.block(4, 0);
        first.path(4, 0, 99, 9);
        first.exchange(4, 0);
        isPlaced("anchor 0 is left out", first, 4, 10, 0, 0, 14, 1);
    }

    private static void limit() {
        SlipRanges r = fieldOf(PAIR);
        same("21 was", r.limit(0), 400);
        same("21 was 0", r.limit(9999), 0);
        for (int v : new int[] {-1, 10000, LOW, HIGH}) same("21 v " + v, r.limit(v), OUTSIDE);
        same("21 stays", r.about(5), 9999);
        SlipRanges s = fieldOf("t10,0+0@0;a0,0+0@0;a0,0+0@0;a0,0+0@0;a0,0+0@0");
        rangeAll(s, 0, 1, 2, 3);
        echo(s, 4, 24);
        same("21 (24 and 6, 6, 6 off: 432) at first is 400", s.placed(0, 4), 16);
        s.limit(432);
        same("21 not above", s.placed(0, 4), 0);
        s.limit(431);
        same("21 above", s.placed(0, 4), 16);
    }

    private static void want() {
        SlipRanges r = fieldOf("t0,0+0@0;a1,1+0@0;t2,2+0@0");
        int was = 0;
        for (int period : new int[] {1, 2, 4, 8, 16, 0, 16}) {
            same("22 period " + period, r.want(0, period), was);
            was = period;
        }
        for (int period : new int[] {-1, 3, 5, 6, 7, 9, 12, 15, 17, 32, LOW, HIGH}) {
            same("22 period " + period, r.want(0, period), OUTSIDE);
        }
        same("22 stays", r.node(0, 7), 16);
        same("22 another's", r.node(2, 7), 0);
        for (int n : new int[] {-1, 1, 3, LOW, HIGH}) same("22 tag " + n, r.want(n, 3), UNKNOWN);
    }

    private static void slotsAre(String what, SlipRanges r, String due) {
        for (int k = 0; k < 16; k++) {
            char c = due.charAt(k);
            same("23 " + what + ", slot " + k, r.slot(k), c == '.' ? NONE : c - '0');
        }
    }

    private static SlipRanges wanting(int... periods) {
        SlipRanges r = fieldOf("a9,9+0@0;t1,1+0@0;t2,2+0@0;t3,3+0@0;t4,4+0@0");
        for (int i = 0; i < periods.length; i++) r.want(i + 1, periods[i]);
        return r;
    }

    private static void deal() {
        SlipRanges r = wanting(16, 8, 4, 2);
        slotsAre("none yet", r, "................");
        same("23 all", r.deal(), 4);
        slotsAre("by rising PERIODS", r, "434243414342434.");
        r.want(4, 0);
        slotsAre("as they were", r, "434243414342434.");
        same("23 anew", r.deal(), 3);
        slotsAre("anew", r, "321.3...32..3...");
        SlipRanges two = wanting(2, 2, 2, 16);
        same("23 no room", two.deal(), 2);
        slotsAre("of the same by numbers", two, "1212121212121212");
        SlipRanges one = wanting(2, 1, 0, 16);
        same("23 all by one", one.deal(), 1);
        slotsAre("all by one", one, "2222222222222222");
        SlipRanges much = wanting(4, 4, 8, 4);
        same("23 four", much.deal(), 4);
        slotsAre("four", much, "1243124.1243124.");
        SlipRanges gap = wanting(8, 8, 8, 16);
        same("23 eighths", gap.deal(), 4);
        slotsAre("eighths", gap, "1234....123.....");
        SlipRanges none = wanting(0, 0, 0, 0);
        same("23 none wanted", none.deal(), 0);
        slotsAre("none wanted", none, "................");
    }

    private static void slot() {
        SlipRanges r = wanting(16);
        r.deal();
        same("24 has", r.slot(0), 1);
        same("24 has not", r.slot(15), NONE);
        for (int slot : new int[] {-1, 16, LOW, HIGH}) same("24 slot " + slot, r.slot(slot), UNKNOWN);
    }

    private static void frame() {
        SlipRanges r = fieldOf("t0,0+0@0;a3,4+0@0;t0,0+0@0;a6,8+0@0");
        same("25 an empty one", r.frame(), 0);
        same("25 TIME", r.about(3), 48000);
        r.idle(5);
        r.want(0, 8);
        r.deal();
        same("25 two", r.frame(), 2);
        same("25 the latest is of SLOT 8", r.last(1), 48005 + 24000);
        same("25 with the second anchor", r.last(11), 3);
        same("25 NEXT is the first again", r.node(0, 8), 1);
        same("25 the other tag's stays", r.node(2, 8), 1);
        same("25 RANGE", r.range(0, 1), 50);
        same("25 RANGE, too", r.range(0, 3), 100);
        same("25 TIME then", r.about(3), 96005);
        r.want(0, 16);
        r.deal();
        r.block(0, 1);
        same("25 LOST", r.frame(), 0);
        same("25 NEXT behind one that is LOST", r.node(0, 8), 3);
        same("25 those lost", r.count(2), 1);
        same("25 exchanges", r.count(1), 3);
        r.exchange(0, 3);
        same("25 NEXT is a FRAME's alone", r.node(0, 8), 3);
        same("25 frames", r.count(4), 3);
        same("25 TIME by an EXCHANGE", r.about(3), 96005 + 48000 + 510);
        r.frame();
        same("25 begins at TIME", r.last(1), 96005 + 48000 + 510);
        same("25 and ends", r.about(3), 96005 + 48000 + 510 + 48000);
    }

    /** The ANCHOR of each EXCHANGE by a FRAME, one a FRAME. */
    private static void frameTurns(String text, int tag, int... anchors) {
        SlipRanges r = fieldOf(text);
        r.want(tag, 16);
        r.deal();
        for (int anchor : anchors) {
            same("25 NEXT", r.node(tag, 8), anchor);
            r.frame();
            same("25 turn", r.last(11), anchor);
        }
    }

    private static void frameEdges() {
        frameTurns("t0,0+0@0;a3,4+0@0;a6,8+0@0;a9,9+0@0", 0, 1, 2, 3, 1, 2);
        frameTurns("a3,4+0@0;a6,8+0@0;t0,0+0@0;t0,0+0@0;a9,9+0@0", 2, 0, 1, 4, 0, 1);
        frameTurns(PAIR, 1, 0, 0);
        SlipRanges r = fieldOf(PAIR);
        for (int i = 0; i < 99; i++) r.idle(99999);
        r.idle(52099);
        same("25 too late by one", r.about(3), 9952000);
        same("25 too late", r.frame(), STATE);
        same("25 not run", r.count(4), 0);
        same("25 TIME stays", r.about(3), 9952000);
        SlipRanges s = fieldOf(PAIR);
        for (int i = 0; i < 99; i++) s.idle(99999);
        s.idle(52098);
        same("25 just in time", s.frame(), 0);
        same("25 to the end of TIME", s.about(3), 9999999);
    }

    private static void about() {
        SlipRanges r = fieldOf("t5,7+0@0;a0,0+0@0;a31,0+0@0;a0,31+0@0;t9,9+0@0");
        int[] first = {5, 2, 3, 0, 4, 400, 0, 0};
        for (int what = 0; what <= 7; what++) same("26 at first " + what, r.about(what), first[what]);
        rangeAll(r, 0, 1, 2, 3);
        rangeAll(r, 4, 1, 2);
        r.level(6);
        r.limit(9);
        r.want(0, 4);
        r.want(4, 16);
        r.deal();
        same("26 LEVEL", r.about(4), 6);
        same("26 LIMIT", r.about(5), 9);
        same("26 SLOTS", r.about(6), 5);
        same("26 PLACED", r.about(7), 1);
        r.exchange(4, 3);
        same("26 both", r.about(7), 2);
        for (int what : new int[] {-1, 8, LOW, HIGH}) same("26 what " + what, r.about(what), OUTSIDE);
    }

    private static void count() {
        SlipRanges r = fieldOf(PAIR);
        r.exchange(1, 0);
        r.block(1, 0);
        r.exchange(1, 0);
        r.frame();
        Check.type(r, PAIR);
        same("27 letters", r.count(0), 17);
        r.field();
        int[] due = {0, 2, 1, 2, 1};
        for (int what = 0; what <= 4; what++) same("27 ever " + what, r.count(what), due[what]);
        for (int what : new int[] {-1, 5, LOW, HIGH}) same("27 what " + what, r.count(what), OUTSIDE);
    }

    private static void digest() {
        SlipRanges letters = new SlipRanges();
        Check.type(letters, "a ~");
        same("28 letters alone", letters.digest(), fold(1601, 97, 32, 126, 3, 0, 0, 0, 0));
        SlipRanges r = fieldOf("a0,0+0@0;t3,4+0@0;a6,8+0@0");
        r.exchange(1, 0);
        r.want(1, 16);
        r.deal();
        Check.type(r, "t");
        long h = fold(1601, 3, 1, 2, 360, 4, 400, 1, 0);
        h = fold(h, 0, 0, 0, 0, 0, 100, 360, -1, -1);
        h = fold(h, 1, 3, 4, 0, 0, 100, 360, 16, 0);
        h = fold(h, 0, 6, 8, 0, 0, 100, 360, -1, -1);
        h = fold(h, 50, 0, 50, 50, 0, -1);
        h = fold(h, 0, 50, 150, 200, 300, 350, 50, 50, 50, 1, 0, 50);
        h = fold(h, 1, -1, -1, -1, -1, -1, -1, -1, -1, -1, -1, -1, -1, -1, -1, -1);
        same("28 with a field", r.digest(), fold(h, 116, 1, 1, 0, 1, 0));
        same("28 again", r.digest(), fold(h, 116, 1, 1, 0, 1, 0));
        digestOfAnotherNode0();
        digestOfPlaced();
    }

    private static void digestOfAnotherNode0() {
        SlipRanges r = fieldOf("t6,8+0@0;a0,0+0@0;t3,4+0@0");
        r.block(0, 1);
        r.exchange(0, 1);
        long h = fold(1601, 3, 2, 1, 1, 4, 400, 0, 0, 1, 6, 8, 0, 0, 100, 1, 0, 1);
        h = fold(h, 0, 0, 0, 0, 0, 100, 1, -1, -1, 1, 3, 4, 0, 0, 100, 1, 0, 1, 100, -1, -1, 50, 0, -1);
        for (int slot = 0; slot < 16; slot++) h = fold(h, NONE);
        same("28 one that is LOST is not told", r.digest(), fold(h, 0, 1, 1, 1, 0));
        r.exchange(2, 1);
        h = fold(1601, 3, 2, 1, 361, 4, 400, 0, 0, 1, 6, 8, 0, 0, 100, 361, 0, 1);
        h = fold(h, 0, 0, 0, 0, 0, 100, 361, -1, -1, 1, 3, 4, 0, 0, 100, 361, 0, 1, 100, -1, -1, 50, 0, 50);
        h = fold(h, 1, 51, 151, 201, 301, 351, 50, 50, 50, 2, 1, 50);
        for (int slot = 0; slot < 16; slot++) h = fold(h, NONE);
        same("28 node 0 heard", r.digest(), fold(h, 0, 2, 1, 1, 0));
    }

    private static void digestOfPlaced() {
        SlipRanges r = fieldOf("t0,0+0@0;a0,0+0@0;a0,0+0@0;a0,0+0@0");
        rangeAll(r, 0, 1, 2, 3);
        long h = fold(1601, 4, 1, 3, 630, 4, 400, 0, 1, 1, 0, 0, 0, 0, 100, 630, 0, 1);
        for (int anchor = 1; anchor <= 3; anchor++) h = fold(h, 0, 0, 0, 0, 0, 100, 630, -1, -1);
        h = fold(h, 0, 0, 0, 0, 0, 0, 0, 0, 0);
        h = fold(h, 420, 420, 520, 520, 620, 620, 0, 0, 0, 0, 3, 0, 0);
        h = fold(h, 0, 0, 0, 14, 0);
        for (int slot = 0; slot < 16; slot++) h = fold(h, NONE);
        same("28 PLACED", r.digest(), fold(h, 0, 3, 0, 1, 0));
    }

    private static void refusalsChangeNothing() {
        SlipRanges r = fieldOf("t5,7+9@8;a0,0+0@0;a31,0+0@0;a0,31+0@0");
        rangeAll(r, 0, 1, 2, 3);
        for (int i = 0; i < 5; i++) r.path(0, 1, 9, 9);
        Check.type(r, "zz");
        long before = r.digest();
        r.letter(31);
        r.field();
        r.fault();
        r.node(9, 9);
        r.flight(0, 9);
        r.clock(0, -1);
        r.delay(0, 301);
        r.delay(4, 100);
        r.path(0, 1, 0, 9);
        r.path(0, 2, 0, 10);
        r.path(1, 0, 0, 9);
        r.block(1, 0);
        r.level(0);
        r.exchange(1, 0);
        r.idle(-1);
        r.last(0);
        r.heard(0);
        r.misfit(0, 32, 0);
        r.placed(0, 5);
        r.limit(-1);
        r.want(0, 3);
        r.want(1, 1);
        r.slot(16);
        r.about(8);
        r.count(5);
        same("refusals change nothing", r.digest(), before);
        same("nor how many PATHS", r.block(0, 1), 6);
    }
}
