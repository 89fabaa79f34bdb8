import java.nio.file.Files;
import java.nio.file.Path;
import java.util.Arrays;
import java.util.regex.Matcher;
import java.util.regex.Pattern;

/** The example in README.md: each call that it shows answers what it says there. */
public final class ReadmeTest {
    private static final Pattern TEXT = Pattern.compile("for \\(char c : \"([^\"]*)\"");
    private static final Pattern CALL = Pattern.compile("(?m)^ranges\\.(\\w+)\\(([-0-9, ]*)\\); +// (-?[0-9]+)");
    private static final int LEAST_CALLS = 20;

    public static void main(String[] args) throws Exception {
        Check check = new Check();
        String readme = Files.readString(Path.of("README.md"));
        Matcher text = TEXT.matcher(readme);
        check.holds("a text of nodes", text.find());
        SlipRanges ranges = new SlipRanges();
        Check.type(ranges, text.group(1));
        int calls = 0;
        Matcher call = CALL.matcher(readme);
        while (call.find()) {
            calls++;
            check.same(call.group(), answer(ranges, call.group(1), call.group(2)), Long.parseLong(call.group(3)));
        }
        check.holds("calls in the example: " + calls, calls >= LEAST_CALLS);
        check.end("ReadmeTest");
    }

    private static long answer(SlipRanges ranges, String name, String arguments) throws Exception {
        String[] parts = arguments.isEmpty() ? new String[0] : arguments.split(", *");
        Class<?>[] kinds = new Class<?>[parts.length];
        Arrays.fill(kinds, int.class);
        Object[] numbers = new Object[parts.length];
        for (int i = 0; i < parts.length; i++) numbers[i] = Integer.valueOf(parts[i]);
        return ((Number) SlipRanges.class.getMethod(name, kinds).invoke(ranges, numbers)).longValue();
    }
}
