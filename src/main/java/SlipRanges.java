import java.util.Arrays;

/**
 * Ranges by pulses between nodes whose clocks begin apart and slip. The words in capitals are those of the document.
 */
public final class SlipRanges {
    public static final int NONE = -1, UNKNOWN = -1000001, OUTSIDE = -1000002, STATE = -1000003, FULL = -1000004, LOST = -1000005;

    private static final int MOST_NODES = 7;
    private static final int MOST_TAGS = 4;
    private static final int MOST_PATHS = 6;
    private static final int MOST_LETTERS = 110;
    private static final int SIDE = 32;
    private static final int SLOTS = 16;
    private static final int SLOT_TIME = 3000;
    private static final int FRAME_TIME = SLOTS * SLOT_TIME;
    private static final int MOST_TIME = 9999999;
    private static final int LEAST_TO_PLACE = 3;

    private static final int KIND = 0;
    private static final int X = 1;
    private static final int Y = 2;
    private static final int SLIP = 3;
    private static final int START = 4;
    private static final int PARTS = 5;
    /** The greatest number that each part of a NODE's text may be. */
    private static final int[] GREATEST = {0, 31, 31, 99, 9999};

    private final Page page;
    private final Reader reader;
    private final Field field;
    private int exchangesEver;
    private int lostEver;
    private int fieldsEver;
    private int framesEver;

    public SlipRanges() {
        page = new Page();
        reader = new Reader();
        field = new Field();
    }

    // ---- texts

    public int letter(int code) {
        if (code < 32 || code > 126) {
            return OUTSIDE;
        }
        if (page.size >= MOST_LETTERS) {
            return FULL;
        }
        page.add(code);
        return page.size;
    }

    public int blank() {
        int had = page.size;
        page.clear();
        return had;
    }

    public int fault() {
        return reader.read(page);
    }

    public int field() {
        boolean fits = reader.read(page) == page.size;
        if (!fits || !reader.hasWholeField()) {
            return STATE;
        }
        field.takeOver(reader);
        page.clear();
        fieldsEver++;
        return field.size;
    }

    // ---- nodes

    public int node(int node, int what) {
        if (!field.has(node)) {
            return UNKNOWN;
        }
        return field.nodes[node].tell(what, field.time);
    }

    public int flight(int one, int other) {
        if (!field.has(one) || !field.has(other)) {
            return UNKNOWN;
        }
        return field.flightBetween(one, other);
    }

    public int clock(int node, int t) {
        if (!field.has(node)) {
            return UNKNOWN;
        }
        if (t < 0 || t > 1000000) {
            return OUTSIDE;
        }
        return (int) field.nodes[node].clockAt(t);
    }

    public int delay(int node, int v) {
        if (!field.has(node)) {
            return UNKNOWN;
        }
        if (v < 10 || v > 300) {
            return OUTSIDE;
        }
        int was = field.nodes[node].delay;
        field.nodes[node].delay = v;
        return was;
    }

    // ---- paths

    public int path(int tag, int anchor, int extra, int loud) {
        if (!field.hasPair(tag, anchor)) {
            return UNKNOWN;
        }
        if (extra < 0 || extra > 150 || loud < 1 || loud > 9) {
            return OUTSIDE;
        }
        Link link = field.linkOf(tag, anchor);
        if (link.paths >= MOST_PATHS) {
            return FULL;
        }
        link.add(extra, loud);
        return link.paths;
    }

    public int block(int tag, int anchor) {
        if (!field.hasPair(tag, anchor)) {
            return UNKNOWN;
        }
        Link link = field.linkOf(tag, anchor);
        int had = link.paths;
        link.paths = 0;
        return had;
    }

    public int firstPath(int tag, int anchor) {
        if (!field.hasPair(tag, anchor)) {
            return UNKNOWN;
        }
        return field.linkOf(tag, anchor).leastExtra(field.level);
    }

    public int level(int v) {
        if (!field.isRead()) {
            return STATE;
        }
        if (v < 1 || v > 9) {
            return OUTSIDE;
        }
        int was = field.level;
        field.level = v;
        return was;
    }

    // ---- exchanges

    public int exchange(int tag, int anchor) {
        if (!field.hasPair(tag, anchor)) {
            return UNKNOWN;
        }
        return countedPulses(tag, anchor);
    }

    public int idle(int by) {
        if (!field.isRead()) {
            return STATE;
        }
        if (by < 0 || by > 99999 || field.time + by > MOST_TIME) {
            return OUTSIDE;
        }
        field.time += by;
        return (int) field.time;
    }

    public int last(int what) {
        if (what < 1 || what > 11) {
            return OUTSIDE;
        }
        if (!field.latest.known) {
            return STATE;
        }
        return field.latest.tell(what);
    }

    public int heard(int node) {
        if (!field.latest.known) {
            return STATE;
        }
        if (!field.has(node) || field.latest.isOf(node)) {
            return UNKNOWN;
        }
        return field.heardBy(node);
    }

    public int range(int tag, int anchor) {
        if (!field.hasPair(tag, anchor)) {
            return UNKNOWN;
        }
        return field.linkOf(tag, anchor).range;
    }

    // ---- places

    public int misfit(int tag, int x, int y) {
        if (!field.isTag(tag)) {
            return UNKNOWN;
        }
        if (x < 0 || x >= SIDE || y < 0 || y >= SIDE) {
            return OUTSIDE;
        }
        return field.fittingOf(tag).misfitAt(x, y);
    }

    public int placed(int tag, int what) {
        if (!field.isTag(tag)) {
            return UNKNOWN;
        }
        if (what < 0 || what > 4) {
            return OUTSIDE;
        }
        if (!field.isPlaced(tag)) {
            return STATE;
        }
        return field.placingOf(tag).tell(what);
    }

    public int limit(int v) {
        if (!field.isRead()) {
            return STATE;
        }
        if (v < 0 || v > 9999) {
            return OUTSIDE;
        }
        int was = field.limit;
        field.changeLimit(v);
        return was;
    }

    // ---- slots

    public int want(int tag, int period) {
        if (!field.isTag(tag)) {
            return UNKNOWN;
        }
        if (period < 0 || period > SLOTS || Integer.bitCount(period) > 1) {
            return OUTSIDE;
        }
        int was = field.nodes[tag].period;
        field.nodes[tag].period = period;
        return was;
    }

    public int deal() {
        if (!field.isRead()) {
            return STATE;
        }
        return field.dealSlots();
    }

    public int slot(int slot) {
        if (!field.isRead()) {
            return STATE;
        }
        if (slot < 0 || slot >= SLOTS) {
            return UNKNOWN;
        }
        return field.slots.owners[slot];
    }

    public int frame() {
        if (!field.isRead() || field.time + FRAME_TIME > MOST_TIME) {
            return STATE;
        }
        long beginning = field.time;
        int ranged = 0;
        for (int slot = 0; slot < SLOTS; slot++) {
            field.waitUntil(beginning + SLOT_TIME * slot);
            int tag = field.slots.owners[slot];
            if (field.isTag(tag) && pulsesWithNext(tag) != LOST) {
                ranged++;
            }
        }
        field.waitUntil(beginning + FRAME_TIME);
        framesEver++;
        return ranged;
    }

    // ---- what is told of all

    public int about(int what) {
        if (!field.isRead()) {
            return STATE;
        }
        switch (what) {
            case 0: return field.size;
            case 1: return field.tagCount();
            case 2: return field.size - field.tagCount();
            case 3: return (int) field.time;
            case 4: return field.level;
            case 5: return field.limit;
            case 6: return field.slots.takenCount();
            case 7: return field.placedCount();
            default: return OUTSIDE;
        }
    }

    public int count(int what) {
        switch (what) {
            case 0: return page.size;
            case 1: return exchangesEver;
            case 2: return lostEver;
            case 3: return fieldsEver;
            case 4: return framesEver;
            default: return OUTSIDE;
        }
    }

    public long digest() {
        long h = 1601;
        if (field.isRead()) {
            h = withNodes(h);
            h = withPairs(h);
            h = withLatest(h);
            h = withPlaces(h);
            h = withSlots(h);
        }
        for (int i = 0; i < page.size; i++) {
            h = with(h, page.letters[i]);
        }
        for (int what = 0; what <= 4; what++) {
            h = with(h, count(what));
        }
        return h;
    }

    private static long with(long h, int number) {
        return 31 * h + number;
    }

    private long withNodes(long h) {
        for (int what = 0; what <= 7; what++) {
            h = with(h, about(what));
        }
        for (int node = 0; node < field.size; node++) {
            for (int what = 0; what <= 8; what++) {
                h = with(h, node(node, what));
            }
        }
        return h;
    }

    private long withPairs(long h) {
        for (int tag = 0; tag < field.size; tag++) {
            for (int anchor = 0; anchor < field.size; anchor++) {
                if (field.hasPair(tag, anchor)) {
                    h = with(h, flight(tag, anchor));
                    h = with(h, firstPath(tag, anchor));
                    h = with(h, range(tag, anchor));
                }
            }
        }
        return h;
    }

    private long withLatest(long h) {
        if (!field.latest.known) {
            return h;
        }
        for (int what = 1; what <= 11; what++) {
            h = with(h, last(what));
        }
        for (int node = 0; node < field.size; node++) {
            if (!field.latest.isOf(node)) {
                h = with(h, heard(node));
            }
        }
        return h;
    }

    private long withPlaces(long h) {
        for (int tag = 0; tag < field.size; tag++) {
            if (field.isPlaced(tag)) {
                Placing placing = field.placingOf(tag);
                for (int what = 0; what <= 4; what++) {
                    h = with(h, placing.tell(what));
                }
            }
        }
        return h;
    }

    private long withSlots(long h) {
        for (int slot = 0; slot < SLOTS; slot++) {
            h = with(h, slot(slot));
        }
        return h;
    }

    /** An EXCHANGE as a FRAME runs it: behind it the TAG's NEXT is another ANCHOR, LOST or not. */
    private int pulsesWithNext(int tag) {
        int anchor = field.nodes[tag].next;
        if (!field.hasPair(tag, anchor)) {
            return LOST;
        }
        int twoSided = countedPulses(tag, anchor);
        field.nodes[tag].next = field.anchorBehind(anchor);
        return twoSided;
    }

    private int countedPulses(int tag, int anchor) {
        int twoSided = field.sendPulses(tag, anchor);
        exchangesEver++;
        if (twoSided == LOST) {
            lostEver++;
        }
        return twoSided;
    }

    /** THE PAGE: letters that are not yet read as a FIELD. */
    private static final class Page {
        final int[] letters;
        int size;

        Page() {
            letters = new int[MOST_LETTERS];
        }

        void add(int code) {
            if (size < MOST_LETTERS) {
                letters[size] = code;
                size++;
            }
        }

        void clear() {
            size = 0;
        }
    }

    /** Reads a row of NODES letter by letter, so that the first wrong letter shows itself. */
    private static final class Reader {
        /** For each NODE what stands at KIND (1 for a TAG), X, Y, SLIP and START. */
        final int[][] rows;
        private int current;
        private int tags;
        private int part;
        private int figures;
        private boolean negative;

        Reader() {
            rows = new int[MOST_NODES][PARTS];
        }

        int nodeCount() {
            return current + 1;
        }

        /** The place of the first wrong letter, or how many letters there are. */
        int read(Page page) {
            current = 0;
            tags = 0;
            begin(KIND);
            for (int place = 0; place < page.size; place++) {
                if (!takes(page.letters[place])) {
                    return place;
                }
            }
            return page.size;
        }

        /** Whether what was read may end here, and has an ANCHOR and a TAG (so two NODES, too). */
        boolean hasWholeField() {
            return part == START && figures > 0 && tags > 0 && tags < nodeCount();
        }

        private void begin(int nextPart) {
            part = nextPart;
            figures = 0;
            rows[current][nextPart] = 0;
        }

        private boolean takes(int letter) {
            if (part == KIND) {
                return takesKind(letter);
            }
            if (letter >= '0' && letter <= '9') {
                return takesFigure(letter - '0');
            }
            return figures > 0 && takesMark(letter);
        }

        private boolean takesKind(int letter) {
            if (letter == 't' && tags < MOST_TAGS) {
                tags++;
                rows[current][KIND] = 1;
            } else if (letter != 'a') {
                return false;
            }
            begin(X);
            return true;
        }

        private boolean takesFigure(int figure) {
            int before = rows[current][part];
            boolean zeroAhead = figures > 0 && before == 0;
            int value = 10 * before + figure;
            if (zeroAhead || value > GREATEST[part]) {
                return false;
            }
            rows[current][part] = value;
            figures++;
            return true;
        }

        /** Takes the mark that ends a number: which one may stand there hangs on the number's part. */
        private boolean takesMark(int letter) {
            if (part == X && letter == ',') {
                begin(Y);
                return true;
            }
            if (part == Y && (letter == '+' || letter == '-')) {
                negative = letter == '-';
                begin(SLIP);
                return true;
            }
            if (part == SLIP && letter == '@') {
                if (negative) {
                    rows[current][SLIP] = -rows[current][SLIP];
                }
                begin(START);
                return true;
            }
            if (part == START && letter == ';' && nodeCount() < MOST_NODES) {
                current++;
                begin(KIND);
                return true;
            }
            return false;
        }
    }

    /** A NODE: an ANCHOR or a TAG. */
    private static final class Node {
        boolean tag;
        int x;
        int y;
        int slip;
        int start;
        int delay;
        /** Of a TAG the PERIOD that it WANTS; of an ANCHOR NONE. */
        int period;
        /** Of a TAG its NEXT; of an ANCHOR NONE. */
        int next;

        void begin(int[] row) {
            tag = row[KIND] == 1;
            x = row[X];
            y = row[Y];
            slip = row[SLIP];
            start = row[START];
            delay = 100;
            period = tag ? 0 : NONE;
        }

        long clockAt(long t) {
            return start + t + Math.floorDiv(slip * t, 10000L);
        }

        int tell(int what, long time) {
            switch (what) {
                case 0: return tag ? 1 : 0;
                case 1: return x;
                case 2: return y;
                case 3: return slip;
                case 4: return start;
                case 5: return delay;
                case 6: return (int) clockAt(time);
                case 7: return period;
                case 8: return next;
                default: return OUTSIDE;
            }
        }
    }

    /** What is between a TAG and an ANCHOR: their PATHS and their RANGE. */
    private static final class Link {
        private final int[] extras;
        private final int[] louds;
        int paths;
        /** A RANGE may be -1 itself, so NONE in range does not tell that there is none. */
        boolean ranged;
        int range;

        Link() {
            extras = new int[MOST_PATHS];
            louds = new int[MOST_PATHS];
        }

        void begin() {
            paths = 0;
            add(0, 9);
            ranged = false;
            range = NONE;
        }

        void add(int extra, int loud) {
            if (paths < MOST_PATHS) {
                extras[paths] = extra;
                louds[paths] = loud;
                paths++;
            }
        }

        /** EXTRA of the FIRST PATH, or NONE. */
        int leastExtra(int level) {
            int least = NONE;
            for (int i = 0; i < paths && i < MOST_PATHS; i++) {
                if (louds[i] >= level && (least == NONE || extras[i] < least)) {
                    least = extras[i];
                }
            }
            return least;
        }
    }

    /** FLIGHTS over all differences of X and Y, worked out once since a FIT asks for thousands of them. */
    private static final class Flights {
        private static final int SQUARES = 2 * (SIDE - 1) * (SIDE - 1) + 1;
        private final int[] bySquare;

        Flights() {
            bySquare = new int[SQUARES];
            int root = 0;
            for (int square = 0; square < SQUARES; square++) {
                while ((root + 1) * (root + 1) <= 100 * square) {
                    root++;
                }
                bySquare[square] = root;
            }
        }

        int over(int dx, int dy) {
            int square = dx * dx + dy * dy;
            return square >= 0 && square < SQUARES ? bySquare[square] : 0;
        }
    }

    /** The latest EXCHANGE that was not LOST. */
    private static final class Latest {
        boolean known;
        int tag;
        int anchor;
        long sentAt;
        long answeredAt;
        int flight;
        int oneSided;
        int twoSided;
        /** STAMPS S1 to S6, at 1 to 6 as the document numbers them. */
        private final long[] stamps;

        Latest() {
            stamps = new long[7];
        }

        boolean isOf(int node) {
            return node == tag || node == anchor;
        }

        long replyA() {
            return stamps[3] - stamps[2];
        }

        /** Stamps the pulses of an EXCHANGE from a TIME on, over so long a way: T6. */
        long stamp(Node tagNode, Node anchorNode, long time, int way) {
            long t1 = time;
            long t2 = t1 + way;
            long t3 = t2 + anchorNode.delay;
            long t4 = t3 + way;
            long t5 = t4 + tagNode.delay;
            long t6 = t5 + way;
            stamps[1] = tagNode.clockAt(t1);
            stamps[2] = anchorNode.clockAt(t2);
            stamps[3] = anchorNode.clockAt(t3);
            stamps[4] = tagNode.clockAt(t4);
            stamps[5] = tagNode.clockAt(t5);
            stamps[6] = anchorNode.clockAt(t6);
            sentAt = t1;
            answeredAt = t3;
            reckon();
            return t6;
        }

        private void reckon() {
            long roundA = stamps[4] - stamps[1];
            long replyA = replyA();
            long roundB = stamps[6] - stamps[3];
            long replyB = stamps[5] - stamps[4];
            long together = roundA + roundB + replyA + replyB;
            oneSided = (int) Math.floorDiv(roundA - replyA, 2L);
            twoSided = together == 0 ? 0 : (int) Math.floorDiv(roundA * roundB - replyA * replyB, together);
        }

        int tell(int what) {
            if (what >= 1 && what <= 6) {
                return (int) stamps[what];
            }
            switch (what) {
                case 7: return oneSided;
                case 8: return twoSided;
                case 9: return flight;
                case 10: return tag;
                case 11: return anchor;
                default: return OUTSIDE;
            }
        }
    }

    /** Where a TAG is PLACED, as long as neither its RANGES nor LIMIT are others. */
    private static final class Placing {
        boolean known;
        int x;
        int y;
        int misfit;
        int keptBits;
        int leftOutBits;

        int tell(int what) {
            switch (what) {
                case 0: return x;
                case 1: return y;
                case 2: return misfit;
                case 3: return keptBits;
                case 4: return leftOutBits;
                default: return OUTSIDE;
            }
        }
    }

    /** The RANGES of one TAG, and where it is by them. */
    private static final class Fitting {
        private final Flights flights;
        private final int[] xs;
        private final int[] ys;
        private final int[] ranges;
        /** The ANCHORS whose RANGES are asked, by NODES. */
        private int bits;
        /** MISFIT by these ANCHORS at each place, row by row. */
        private final int[] misfits;

        Fitting(Flights flights) {
            this.flights = flights;
            xs = new int[MOST_NODES];
            ys = new int[MOST_NODES];
            ranges = new int[MOST_NODES];
            misfits = new int[SIDE * SIDE];
        }

        void clear() {
            bits = 0;
        }

        void add(int anchor, int x, int y, int range) {
            if (anchor >= 0 && anchor < MOST_NODES) {
                xs[anchor] = x;
                ys[anchor] = y;
                ranges[anchor] = range;
                bits |= 1 << anchor;
            }
        }

        private boolean asks(int anchor) {
            return (bits >> anchor & 1) == 1;
        }

        int misfitAt(int x, int y) {
            int misfit = 0;
            for (int anchor = 0; anchor < MOST_NODES; anchor++) {
                if (asks(anchor)) {
                    misfit += misfitBy(anchor, x, y);
                }
            }
            return misfit;
        }

        private int misfitBy(int anchor, int x, int y) {
            int off = ranges[anchor] - flights.over(xs[anchor] - x, ys[anchor] - y);
            return off * off;
        }

        /** Finds the place; the ANCHORS that are LEFT OUT by it are not asked any more. */
        void settle(int limit, Placing placing) {
            int all = bits;
            for (int i = 0; i < misfits.length; i++) {
                misfits[i] = misfitAt(i % SIDE, i / SIDE);
            }
            int fit = leastPlace();
            for (int i = 0; i < MOST_NODES && Integer.bitCount(bits) > LEAST_TO_PLACE && misfits[fit] > limit; i++) {
                leaveOut(worstFitting());
                fit = leastPlace();
            }
            placing.x = fit % SIDE;
            placing.y = fit / SIDE;
            placing.misfit = misfits[fit];
            placing.keptBits = bits;
            placing.leftOutBits = all & ~bits;
        }

        /** Row by row, so that of several the first has the least y, of these the least x. */
        private int leastPlace() {
            int least = 0;
            for (int i = 1; i < misfits.length; i++) {
                if (misfits[i] < misfits[least]) {
                    least = i;
                }
            }
            return least;
        }

        /** The ANCHOR without which MISFIT at FIT by the others is least. */
        private int worstFitting() {
            int worst = 0;
            int least = Integer.MAX_VALUE;
            for (int anchor = 0; anchor < MOST_NODES; anchor++) {
                if (!asks(anchor)) {
                    continue;
                }
                for (int i = 0; i < misfits.length; i++) {
                    int without = misfits[i] - misfitBy(anchor, i % SIDE, i / SIDE);
                    if (without < least) {
                        least = without;
                        worst = anchor;
                    }
                }
            }
            return worst;
        }

        private void leaveOut(int anchor) {
            bits &= ~(1 << anchor);
            for (int i = 0; i < misfits.length; i++) {
                misfits[i] -= misfitBy(anchor, i % SIDE, i / SIDE);
            }
        }
    }

    /** The SLOTS of a FRAME, each with the TAG that has it or NONE. */
    private static final class Slots {
        final int[] owners;

        Slots() {
            owners = new int[SLOTS];
        }

        void clear() {
            Arrays.fill(owners, NONE);
        }

        int takenCount() {
            int taken = 0;
            for (int slot = 0; slot < SLOTS; slot++) {
                if (owners[slot] != NONE) {
                    taken++;
                }
            }
            return taken;
        }

        /** Whether there was room for a TAG at each PERIOD. */
        boolean give(int tag, int period) {
            for (int offset = 0; offset < period && offset < SLOTS; offset++) {
                if (areFree(offset, period)) {
                    for (int slot = offset; slot < SLOTS; slot += Math.max(1, period)) {
                        owners[slot] = tag;
                    }
                    return true;
                }
            }
            return false;
        }

        private boolean areFree(int offset, int period) {
            for (int slot = offset; slot < SLOTS; slot += Math.max(1, period)) {
                if (owners[slot] != NONE) {
                    return false;
                }
            }
            return true;
        }
    }

    /** THE FIELD; it has no NODES as long as none was read. */
    private static final class Field {
        final Node[] nodes;
        int size;
        long time;
        int level;
        int limit;
        final Latest latest;
        final Slots slots;
        /** By TAG and ANCHOR; the rows of other pairs stay unused. */
        private final Link[] links;
        private final Placing[] placings;
        private final Flights flights;
        private final Fitting fitting;

        Field() {
            nodes = new Node[MOST_NODES];
            placings = new Placing[MOST_NODES];
            for (int i = 0; i < MOST_NODES; i++) {
                nodes[i] = new Node();
                placings[i] = new Placing();
            }
            links = new Link[MOST_NODES * MOST_NODES];
            for (int i = 0; i < links.length; i++) {
                links[i] = new Link();
            }
            latest = new Latest();
            slots = new Slots();
            flights = new Flights();
            fitting = new Fitting(flights);
        }

        /** Begins anew with the NODES that were read. */
        void takeOver(Reader reader) {
            size = reader.nodeCount();
            for (int i = 0; i < size; i++) {
                nodes[i].begin(reader.rows[i]);
            }
            // Only now is it known of each NODE whether it is an ANCHOR.
            for (int i = 0; i < size; i++) {
                nodes[i].next = nodes[i].tag ? anchorFrom(0) : NONE;
            }
            for (int i = 0; i < links.length; i++) {
                links[i].begin();
            }
            time = 0;
            level = 4;
            latest.known = false;
            slots.clear();
            changeLimit(400);
        }

        boolean isRead() {
            return size > 0;
        }

        boolean has(int node) {
            return node >= 0 && node < size;
        }

        boolean isTag(int node) {
            return has(node) && nodes[node].tag;
        }

        boolean isAnchor(int node) {
            return has(node) && !nodes[node].tag;
        }

        boolean hasPair(int tag, int anchor) {
            return isTag(tag) && isAnchor(anchor);
        }

        int tagCount() {
            int tags = 0;
            for (int node = 0; node < size; node++) {
                if (isTag(node)) {
                    tags++;
                }
            }
            return tags;
        }

        /** The first ANCHOR of that number or a greater one, or NONE. */
        private int anchorFrom(int number) {
            for (int node = number; node < size; node++) {
                if (isAnchor(node)) {
                    return node;
                }
            }
            return NONE;
        }

        int anchorBehind(int anchor) {
            int greater = anchorFrom(anchor + 1);
            return greater == NONE ? anchorFrom(0) : greater;
        }

        /** Only for NODES that the FIELD has. */
        Link linkOf(int tag, int anchor) {
            return links[tag * MOST_NODES + anchor];
        }

        /** Only for NODES that the FIELD has. */
        int flightBetween(int one, int other) {
            return flights.over(nodes[one].x - nodes[other].x, nodes[one].y - nodes[other].y);
        }

        void waitUntil(long t) {
            time = Math.max(time, t);
        }

        /** An EXCHANGE of a TAG and an ANCHOR: TWO-SIDED or LOST. */
        int sendPulses(int tag, int anchor) {
            Link link = linkOf(tag, anchor);
            int extra = link.leastExtra(level);
            if (extra == NONE) {
                time++;
                return LOST;
            }
            int flight = flightBetween(tag, anchor);
            time = latest.stamp(nodes[tag], nodes[anchor], time, flight + extra) + 10;
            latest.known = true;
            latest.tag = tag;
            latest.anchor = anchor;
            latest.flight = flight;
            link.ranged = true;
            link.range = latest.twoSided;
            placings[tag].known = false;
            return latest.twoSided;
        }

        /** Only for another NODE than the two of the latest EXCHANGE. */
        int heardBy(int node) {
            long pollAt = latest.sentAt + flightBetween(node, latest.tag);
            long replyAt = latest.answeredAt + flightBetween(node, latest.anchor);
            long between = nodes[node].clockAt(replyAt) - nodes[node].clockAt(pollAt);
            return (int) (between - latest.replyA() - latest.twoSided);
        }

        void changeLimit(int v) {
            limit = v;
            for (int i = 0; i < MOST_NODES; i++) {
                placings[i].known = false;
            }
        }

        /** Other pairs than a TAG and an ANCHOR never have a RANGE, so an ANCHOR is not PLACED. */
        boolean isPlaced(int tag) {
            int ranges = 0;
            for (int anchor = 0; anchor < size; anchor++) {
                if (linkOf(tag, anchor).ranged) {
                    ranges++;
                }
            }
            return ranges >= LEAST_TO_PLACE;
        }

        int placedCount() {
            int placed = 0;
            for (int node = 0; node < size; node++) {
                if (isPlaced(node)) {
                    placed++;
                }
            }
            return placed;
        }

        /** The RANGES of a TAG; the one row of them is used again for each. */
        Fitting fittingOf(int tag) {
            fitting.clear();
            for (int anchor = 0; anchor < size; anchor++) {
                Link link = linkOf(tag, anchor);
                if (link.ranged) {
                    fitting.add(anchor, nodes[anchor].x, nodes[anchor].y, link.range);
                }
            }
            return fitting;
        }

        /** Only for a TAG that is PLACED. */
        Placing placingOf(int tag) {
            Placing placing = placings[tag];
            if (!placing.known) {
                fittingOf(tag).settle(limit, placing);
                placing.known = true;
            }
            return placing;
        }

        /** Deals SLOTS by rising PERIODS: how many TAGS got any. */
        int dealSlots() {
            slots.clear();
            int served = 0;
            for (int period = 1; period <= SLOTS; period *= 2) {
                for (int node = 0; node < size; node++) {
                    if (nodes[node].period == period && slots.give(node, period)) {
                        served++;
                    }
                }
            }
            return served;
        }
    }
}
