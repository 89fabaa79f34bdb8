import java.math.BigInteger;
import java.util.ArrayList;
import java.util.Arrays;
import java.util.Comparator;
import java.util.HashMap;
import java.util.List;
import java.util.Map;
import java.util.TreeSet;
import java.util.regex.Matcher;
import java.util.regex.Pattern;

/**
 * The document once more, in another way and as slow as it likes: regular expressions for texts, BigInteger for
 * roots and quotients, every FIT searched anew. What it shares with the program is the document alone.
 */
final class Model {
    static final int NONE = -1, UNKNOWN = -1000001, OUTSIDE = -1000002, STATE = -1000003, FULL = -1000004, LOST = -1000005;

    private static final String PLACE = "(?:0|[12][0-9]|3[01]|[1-9])";
    private static final String NODE = "[at]" + PLACE + "," + PLACE + "[+-](?:0|[1-9][0-9]?)@(?:0|[1-9][0-9]{0,3})";
    private static final Pattern ROW = Pattern.compile(NODE + "(?:;" + NODE + "){0,6}");

    private static final class Spot {
        boolean tag;
        int x, y, slip, start, delay = 100, period = 0, next;
    }

    private final StringBuilder page = new StringBuilder();
    private List<Spot> spots = new ArrayList<>();
    private Map<String, List<int[]>> paths = new HashMap<>();
    private Map<String, Integer> ranges = new HashMap<>();
    private int[] latest;
    private long sent, answered;
    private long time;
    private int level, limit;
    private int[] owners = new int[16];
    private final int[] counts = new int[5];

    public int letter(int code) {
        if (code < 32 || code > 126) return OUTSIDE;
        if (page.length() == 110) return FULL;
        page.append((char) code);
        return page.length();
    }

    public int blank() {
        int had = page.length();
        page.setLength(0);
        return had;
    }

    public int fault() {
        for (int i = 0; i < page.length(); i++) {
            String begun = page.substring(0, i + 1);
            Matcher m = ROW.matcher(begun);
            boolean begins = m.matches() || m.hitEnd();
            if (!begins || begun.chars().filter(c -> c == 't').count() > 4) return i;
        }
        return page.length();
    }

    public int field() {
        String text = page.toString();
        long tags = text.chars().filter(c -> c == 't').count();
        if (!ROW.matcher(text).matches() || tags == 0 || tags > 4 || text.indexOf('a') < 0) return STATE;
        spots = new ArrayList<>();
        for (String part : text.split(";")) {
            String[] n = part.substring(1).split("[,+@-]");
            Spot s = new Spot();
            s.tag = part.charAt(0) == 't';
            s.x = Integer.parseInt(n[0]);
            s.y = Integer.parseInt(n[1]);
            s.slip = Integer.parseInt(n[2]) * (part.indexOf('-') >= 0 ? -1 : 1);
            s.start = Integer.parseInt(n[3]);
            spots.add(s);
        }
        paths = new HashMap<>();
        ranges = new HashMap<>();
        for (int t : tags()) {
            spots.get(t).next = anchors().first();
            for (int a : anchors()) {
                paths.put(t + "/" + a, new ArrayList<>(List.of(new int[] {0, 9})));
            }
        }
        latest = null;
        time = 0;
        level = 4;
        limit = 400;
        Arrays.fill(owners, NONE);
        page.setLength(0);
        counts[3]++;
        return spots.size();
    }

    private TreeSet<Integer> tags() {
        TreeSet<Integer> all = new TreeSet<>();
        for (int i = 0; i < spots.size(); i++) if (spots.get(i).tag) all.add(i);
        return all;
    }

    private TreeSet<Integer> anchors() {
        TreeSet<Integer> all = new TreeSet<>();
        for (int i = 0; i < spots.size(); i++) if (!spots.get(i).tag) all.add(i);
        return all;
    }

    private boolean isNode(int n) {
        return n >= 0 && n < spots.size();
    }

    private boolean isPair(int t, int a) {
        return tags().contains(t) && anchors().contains(a);
    }

    private static int flightOver(int dx, int dy) {
        return BigInteger.valueOf(100L * (dx * dx + dy * dy)).sqrt().intValueExact();
    }

    private static long floored(long what, long by) {
        BigInteger[] parts = BigInteger.valueOf(what).divideAndRemainder(BigInteger.valueOf(by));
        long whole = parts[0].longValueExact();
        return parts[1].signum() < 0 ? whole - 1 : whole;
    }

    private int clockOf(int n, long t) {
        Spot s = spots.get(n);
        return Math.toIntExact(s.start + t + floored(s.slip * t, 10000));
    }

    public int node(int node, int what) {
        if (!isNode(node)) return UNKNOWN;
        if (what < 0 || what > 8) return OUTSIDE;
        Spot s = spots.get(node);
        int[] all = {s.tag ? 1 : 0, s.x, s.y, s.slip, s.start, s.delay, clockOf(node, time),
            s.tag ? s.period : NONE, s.tag ? s.next : NONE};
        return all[what];
    }

    public int flight(int one, int other) {
        if (!isNode(one) || !isNode(other)) return UNKNOWN;
        return flightOver(spots.get(one).x - spots.get(other).x, spots.get(one).y - spots.get(other).y);
    }

    public int clock(int node, int t) {
        if (!isNode(node)) return UNKNOWN;
        if (t < 0 || t > 1000000) return OUTSIDE;
        return clockOf(node, t);
    }

    public int delay(int node, int v) {
        if (!isNode(node)) return UNKNOWN;
        if (v < 10 || v > 300) return OUTSIDE;
        int was = spots.get(node).delay;
        spots.get(node).delay = v;
        return was;
    }

    public int path(int tag, int anchor, int extra, int loud) {
        if (!isPair(tag, anchor)) return UNKNOWN;
        if (extra < 0 || extra > 150 || loud < 1 || loud > 9) return OUTSIDE;
        List<int[]> all = paths.get(tag + "/" + anchor);
        if (all.size() == 6) return FULL;
        all.add(new int[] {extra, loud});
        return all.size();
    }

    public int block(int tag, int anchor) {
        if (!isPair(tag, anchor)) return UNKNOWN;
        int had = paths.get(tag + "/" + anchor).size();
        paths.get(tag + "/" + anchor).clear();
        return had;
    }

    public int firstPath(int tag, int anchor) {
        if (!isPair(tag, anchor)) return UNKNOWN;
        return paths.get(tag + "/" + anchor).stream().filter(p -> p[1] >= level).mapToInt(p -> p[0]).min().orElse(NONE);
    }

    public int level(int v) {
        if (spots.isEmpty()) return STATE;
        if (v < 1 || v > 9) return OUTSIDE;
        int was = level;
        level = v;
        return was;
    }

    public int exchange(int tag, int anchor) {
        if (!isPair(tag, anchor)) return UNKNOWN;
        counts[1]++;
        int extra = firstPath(tag, anchor);
        if (extra == NONE) {
            counts[2]++;
            time++;
            return LOST;
        }
        int w = flight(tag, anchor) + extra;
        long t1 = time, t2 = t1 + w, t3 = t2 + spots.get(anchor).delay, t4 = t3 + w, t5 = t4 + spots.get(tag).delay, t6 = t5 + w;
        int s1 = clockOf(tag, t1), s2 = clockOf(anchor, t2), s3 = clockOf(anchor, t3);
        int s4 = clockOf(tag, t4), s5 = clockOf(tag, t5), s6 = clockOf(anchor, t6);
        long roundA = s4 - s1, replyA = s3 - s2, roundB = s6 - s3, replyB = s5 - s4;
        int one = (int) floored(roundA - replyA, 2);
        int two = (int) floored(roundA * roundB - replyA * replyB, roundA + roundB + replyA + replyB);
        latest = new int[] {0, s1, s2, s3, s4, s5, s6, one, two, flight(tag, anchor), tag, anchor};
        sent = t1;
        answered = t3;
        ranges.put(tag + "/" + anchor, two);
        time = t6 + 10;
        return two;
    }

    public int idle(int by) {
        if (spots.isEmpty()) return STATE;
        if (by < 0 || by > 99999 || time + by > 9999999) return OUTSIDE;
        time += by;
        return (int) time;
    }

    public int last(int what) {
        if (what < 1 || what > 11) return OUTSIDE;
        return latest == null ? STATE : latest[what];
    }

    public int heard(int node) {
        if (latest == null) return STATE;
        if (!isNode(node) || node == latest[10] || node == latest[11]) return UNKNOWN;
        int reply = clockOf(node, answered + flight(node, latest[11]));
        int poll = clockOf(node, sent + flight(node, latest[10]));
        return reply - poll - (latest[3] - latest[2]) - latest[8];
    }

    public int range(int tag, int anchor) {
        if (!isPair(tag, anchor)) return UNKNOWN;
        return ranges.getOrDefault(tag + "/" + anchor, NONE);
    }

    private TreeSet<Integer> ranged(int tag) {
        TreeSet<Integer> all = anchors();
        all.removeIf(a -> !ranges.containsKey(tag + "/" + a));
        return all;
    }

    private int misfitBy(int tag, TreeSet<Integer> some, int x, int y) {
        int sum = 0;
        for (int a : some) {
            int off = ranges.get(tag + "/" + a) - FLIGHTS[Math.abs(spots.get(a).x - x)][Math.abs(spots.get(a).y - y)];
            sum += off * off;
        }
        return sum;
    }

    private static final int[][] FLIGHTS = new int[32][32];

    static {
        for (int dx = 0; dx < 32; dx++) for (int dy = 0; dy < 32; dy++) FLIGHTS[dx][dy] = flightOver(dx, dy);
    }

    /** x, y and MISFIT of FIT. */
    private int[] fitBy(int tag, TreeSet<Integer> some) {
        List<int[]> all = new ArrayList<>();
        for (int x = 0; x < 32; x++) for (int y = 0; y < 32; y++) all.add(new int[] {x, y, misfitBy(tag, some, x, y)});
        Comparator<int[]> order = Comparator.comparingInt(p -> p[2]);
        return all.stream().min(order.thenComparingInt(p -> p[1]).thenComparingInt(p -> p[0])).get();
    }

    private static TreeSet<Integer> without(TreeSet<Integer> some, int one) {
        TreeSet<Integer> others = new TreeSet<>(some);
        others.remove(one);
        return others;
    }

    private static int bits(TreeSet<Integer> some) {
        return some.stream().mapToInt(a -> 1 << a).sum();
    }

    public int misfit(int tag, int x, int y) {
        if (!tags().contains(tag)) return UNKNOWN;
        if (x < 0 || x > 31 || y < 0 || y > 31) return OUTSIDE;
        return misfitBy(tag, ranged(tag), x, y);
    }

    public int placed(int tag, int what) {
        if (!tags().contains(tag)) return UNKNOWN;
        if (what < 0 || what > 4) return OUTSIDE;
        TreeSet<Integer> left = ranged(tag);
        if (left.size() < 3) return STATE;
        while (left.size() > 3 && fitBy(tag, left)[2] > limit) {
            TreeSet<Integer> now = left;
            Comparator<Integer> order = Comparator.comparingInt(a -> fitBy(tag, without(now, a))[2]);
            int out = now.stream().min(order.thenComparingInt(a -> a)).get();
            left = without(left, out);
        }
        if (what == 3) return bits(left);
        if (what == 4) return bits(ranged(tag)) - bits(left);
        return fitBy(tag, left)[what];
    }

    public int limit(int v) {
        if (spots.isEmpty()) return STATE;
        if (v < 0 || v > 9999) return OUTSIDE;
        int was = limit;
        limit = v;
        return was;
    }

    public int want(int tag, int period) {
        if (!tags().contains(tag)) return UNKNOWN;
        if (!List.of(0, 1, 2, 4, 8, 16).contains(period)) return OUTSIDE;
        int was = spots.get(tag).period;
        spots.get(tag).period = period;
        return was;
    }

    public int deal() {
        if (spots.isEmpty()) return STATE;
        Arrays.fill(owners, NONE);
        List<Integer> order = new ArrayList<>(tags());
        order.removeIf(t -> spots.get(t).period == 0);
        order.sort(Comparator.comparingInt(t -> spots.get(t).period));
        int got = 0;
        for (int t : order) {
            int period = spots.get(t).period;
            for (int o = 0; o < period; o++) {
                boolean free = true;
                for (int k = 0; k < 16; k++) if (k % period == o && owners[k] != NONE) free = false;
                if (!free) continue;
                for (int k = 0; k < 16; k++) if (k % period == o) owners[k] = t;
                got++;
                break;
            }
        }
        return got;
    }

    public int slot(int slot) {
        if (spots.isEmpty()) return STATE;
        if (slot < 0 || slot > 15) return UNKNOWN;
        return owners[slot];
    }

    public int frame() {
        if (spots.isEmpty() || time + 48000 > 9999999) return STATE;
        long beginning = time;
        int good = 0;
        for (int k = 0; k < 16; k++) {
            if (time < beginning + 3000 * k) time = beginning + 3000 * k;
            if (owners[k] == NONE) continue;
            Spot s = spots.get(owners[k]);
            if (exchange(owners[k], s.next) != LOST) good++;
            Integer greater = anchors().higher(s.next);
            s.next = greater == null ? anchors().first() : greater;
        }
        if (time < beginning + 48000) time = beginning + 48000;
        counts[4]++;
        return good;
    }

    public int about(int what) {
        if (spots.isEmpty()) return STATE;
        if (what < 0 || what > 7) return OUTSIDE;
        int taken = (int) Arrays.stream(owners).filter(o -> o != NONE).count();
        int placed = (int) tags().stream().filter(t -> ranged(t).size() >= 3).count();
        int[] all = {spots.size(), tags().size(), anchors().size(), (int) time, level, limit, taken, placed};
        return all[what];
    }

    public int count(int what) {
        if (what < 0 || what > 4) return OUTSIDE;
        return what == 0 ? page.length() : counts[what];
    }

    public long digest() {
        List<Integer> all = new ArrayList<>();
        if (!spots.isEmpty()) {
            for (int w = 0; w <= 7; w++) all.add(about(w));
            for (int n = 0; n < spots.size(); n++) for (int w = 0; w <= 8; w++) all.add(node(n, w));
            for (int t : tags()) for (int a : anchors()) all.addAll(List.of(flight(t, a), firstPath(t, a), range(t, a)));
            if (latest != null) {
                for (int w = 1; w <= 11; w++) all.add(last(w));
                for (int n = 0; n < spots.size(); n++) if (heard(n) != UNKNOWN) all.add(heard(n));
            }
            for (int t : tags()) for (int w = 0; w <= 4; w++) if (placed(t, w) != STATE) all.add(placed(t, w));
            for (int o : owners) all.add(o);
        }
        page.chars().forEach(all::add);
        for (int w = 0; w <= 4; w++) all.add(count(w));
        BigInteger h = BigInteger.valueOf(1601);
        for (int n : all) h = h.multiply(BigInteger.valueOf(31)).add(BigInteger.valueOf(n));
        return h.longValue();
    }
}
