import java.lang.reflect.Method;
import java.lang.reflect.Modifier;
import java.util.ArrayList;
import java.util.Arrays;
import java.util.Comparator;
import java.util.HashSet;
import java.util.List;
import java.util.Set;

/** Long runs of calls, drawn from a fixed seed, on the program and on the model of the document. */
public final class ModelTest {
    private static final int RUNS = 600;
    private static final int CALLS = 512;
    private static final int[] EDGES = {Integer.MIN_VALUE, Integer.MAX_VALUE, -1, 0, 1, -1000001, 46341, 65536};

    private final Check check = new Check();
    private final List<Method> calls = new ArrayList<>();
    private final Set<String> told = new HashSet<>();
    private long seed = 20261118;
    private SlipRanges ranges;
    private Model model;
    private int made;
    private String fieldText;

    public static void main(String[] args) throws Exception {
        ModelTest test = new ModelTest();
        for (Method call : SlipRanges.class.getDeclaredMethods()) {
            if (Modifier.isPublic(call.getModifiers())) test.calls.add(call);
        }
        test.calls.sort(Comparator.comparing(Method::getName));
        for (int run = 0; run < RUNS && !test.check.failed(); run++) test.run(run);
        test.checkThatMuchWasTold();
        test.check.end("ModelTest");
    }

    private int below(int bound) {
        seed = seed * 6364136223846793005L + 1442695040888963407L;
        return (int) ((seed >>> 33) % bound);
    }

    private int from(int least, int most) {
        return least + below(most - least + 1);
    }

    private void run(int run) throws Exception {
        ranges = new SlipRanges();
        model = new Model();
        made = 0;
        fieldText = "";
        boolean late = run % 8 == 0;
        while (made < CALLS && !check.failed()) {
            int kind = below(150);
            if (fieldText.isEmpty() && kind < 100 || kind == 0) {
                beginField(late);
            } else if (kind < 25) {
                answer("exchange", one('t'), one('a'));
            } else if (kind < 30) {
                answer("block", one('t'), one('a'));
            } else if (kind < 40) {
                answer("path", one('t'), one('a'), from(0, 150), from(1, 9));
            } else if (kind < 45) {
                answer("placed", one('t'), from(0, 4));
            } else if (kind < 47) {
                answer("digest");
            } else {
                Method call = calls.get(below(calls.size()));
                answer(call.getName(), arguments(call));
            }
        }
    }

    private void beginField(boolean late) throws Exception {
        String text = below(5) == 0 ? damaged(row()) : row();
        type(text);
        answer("fault");
        if (answer("field") <= 0) return;
        fieldText = text;
        for (int i = 0; late && i < 100; i++) answer("idle", 99999);
    }

    /** A NODE of that kind, most often. */
    private int one(char kind) {
        String[] nodes = fieldText.split(";");
        int node = below(7);
        for (int i = 0; i < 20 && below(50) > 0; i++) {
            if (node < nodes.length && nodes[node].indexOf(kind) == 0) return node;
            node = below(7);
        }
        return node;
    }

    private void type(String text) throws Exception {
        answer("blank");
        for (int i = 0; i < text.length(); i++) answer("letter", text.charAt(i));
    }

    /** A row of NODES, not always with an ANCHOR and a TAG, not always of a right size. */
    private String row() {
        int nodes = below(12) == 0 ? from(1, 8) : from(3, 7);
        int tagsInTen = below(4) == 0 ? 5 : 2;
        int side = below(3) == 0 ? 3 : 31;
        int slips = below(3) == 0 ? 0 : 99;
        StringBuilder text = new StringBuilder();
        for (int i = 0; i < nodes; i++) {
            text.append(i == 0 ? "" : ";").append(below(10) < tagsInTen ? 't' : 'a');
            text.append(from(0, side)).append(',').append(from(0, side)).append(below(2) == 0 ? '+' : '-');
            text.append(from(0, slips)).append('@').append(from(0, below(2) == 0 ? 9999 : 9));
        }
        return text.toString();
    }

    private String damaged(String text) {
        StringBuilder other = new StringBuilder(text);
        String signs = "at,+-@;0123456789 x~";
        char sign = signs.charAt(below(signs.length()));
        int at = below(text.length());
        int kind = below(4);
        if (kind == 0) other.setCharAt(at, sign);
        if (kind == 1) other.insert(at, sign);
        if (kind == 2) other.deleteCharAt(at);
        if (kind == 3) other.setLength(at);
        return other.toString();
    }

    private Object[] arguments(Method call) {
        int many = call.getParameterCount();
        Object[] all = new Object[many];
        for (int i = 0; i < many; i++) {
            all[i] = below(60) == 0 ? EDGES[below(EDGES.length)] : argument(call.getName(), i);
        }
        return all;
    }

    private int argument(String call, int place) {
        switch (call) {
            case "letter": return below(9) == 0 ? from(28, 130) : from(97, 116);
            case "clock": return place == 0 ? from(-1, 7) : from(-5, 1000005);
            case "delay": return place == 0 ? from(-1, 7) : from(5, 305);
            case "path": return place < 2 ? from(0, 7) : place == 2 ? from(-2, 155) : from(0, 10);
            case "level": return from(0, 10);
            case "idle": return below(3) == 0 ? from(-2, 99) : from(90000, 100003);
            case "last": return from(0, 12);
            case "misfit": return place == 0 ? from(-1, 7) : from(-1, 32);
            case "placed": return place == 0 ? from(-1, 7) : from(-1, 5);
            case "limit": return below(2) == 0 ? from(-1, 500) : from(0, 10010);
            case "want": return place == 0 ? from(-1, 7) : below(4) == 0 ? from(-1, 33) : 1 << from(0, 4);
            case "slot": return from(-1, 16);
            case "node": return place == 0 ? from(-1, 7) : from(-1, 9);
            case "about": return from(-1, 8);
            case "count": return from(-1, 5);
            default: return from(-1, 7);
        }
    }

    private long answer(String name, Object... arguments) throws Exception {
        if (made >= CALLS) return 0;
        made++;
        Class<?>[] kinds = new Class<?>[arguments.length];
        Arrays.fill(kinds, int.class);
        Object[] numbers = new Object[arguments.length];
        for (int i = 0; i < numbers.length; i++) {
            numbers[i] = arguments[i] instanceof Character c ? (int) c : arguments[i];
        }
        long got = ((Number) SlipRanges.class.getMethod(name, kinds).invoke(ranges, numbers)).longValue();
        long due = ((Number) Model.class.getMethod(name, kinds).invoke(model, numbers)).longValue();
        check.same("call " + made + ", " + name + Arrays.toString(numbers), got, due);
        String answer = got >= 0 ? "a number" : got >= Model.LOST && got <= Model.UNKNOWN ? "" + got : "below 0";
        told.add(name + " " + answer);
        if (name.equals("placed") && arguments[1].equals(4) && got > 0) told.add("left out " + Long.bitCount(got));
        return got;
    }

    /** Runs that never came to the rare answers would tell nothing of them. */
    private void checkThatMuchWasTold() {
        String[] refusals = {
            "letter -1000002", "letter -1000004", "field -1000003", "node -1000001", "node -1000002", "flight -1000001",
            "clock -1000001", "clock -1000002", "delay -1000001", "delay -1000002", "path -1000001", "path -1000002",
            "path -1000004", "block -1000001", "firstPath -1000001", "firstPath below 0", "level -1000002",
            "level -1000003", "exchange -1000001", "exchange -1000005", "idle -1000002", "idle -1000003", "last -1000002",
            "last -1000003", "heard -1000001", "heard -1000003", "heard below 0", "range -1000001", "range below 0",
            "misfit -1000001", "misfit -1000002", "placed -1000001", "placed -1000002", "placed -1000003",
            "placed a number", "limit -1000002", "limit -1000003", "want -1000001", "want -1000002", "deal -1000003",
            "slot -1000001", "slot -1000003", "slot below 0", "frame -1000003", "frame a number", "about -1000002",
            "about -1000003", "count -1000002", "left out 1", "left out 2", "left out 3"};
        for (String answer : refusals) check.holds("told: " + answer, told.contains(answer));
    }
}
