import java.lang.reflect.Constructor;
import java.lang.reflect.Field;
import java.lang.reflect.Method;
import java.lang.reflect.Modifier;
import java.nio.charset.StandardCharsets;
import java.nio.file.Files;
import java.nio.file.Path;
import java.util.Arrays;
import java.util.Set;
import java.util.TreeSet;
import java.util.regex.Matcher;
import java.util.regex.Pattern;

/** The public face, and those rules of the language that can be looked up without reading. */
public final class FaceTest {
    private static final String METHODS = "letter(I)I blank()I fault()I field()I node(II)I flight(II)I clock(II)I delay(II)I"
        + " path(IIII)I block(II)I firstPath(II)I level(I)I exchange(II)I idle(I)I last(I)I heard(I)I range(II)I misfit(III)I"
        + " placed(II)I limit(I)I want(II)I deal()I slot(I)I frame()I about(I)I count(I)I digest()J";
    private static final String[] CONSTANTS = {"NONE", "UNKNOWN", "OUTSIDE", "STATE", "FULL", "LOST"};
    private static final int[] VALUES = {-1, -1000001, -1000002, -1000003, -1000004, -1000005};
    private static final String FORBIDDEN = "\\b(throw|throws|try|catch|synchronized|assert|\\w+Exact|float|double|random|nanoTime"
        + "|currentTimeMillis|equals|hashCode|toString|package|native|volatile|protected)\\b|->|::";
    /** What the class uses of the library; all of it stands in rule 4. */
    private static final Set<String> LIBRARY = Set.of("Arrays.fill", "Math.floorDiv", "Math.max", "Integer.bitCount");
    private static final int MOST_CLASSES = 12, MOST_FIELDS = 20, MOST_PARAMETERS = 7, MOST_LINES = 60;

    private static final Check CHECK = new Check();

    public static void main(String[] args) throws Exception {
        methods();
        constants();
        members();
        classesInside();
        source();
        CHECK.end("FaceTest");
    }

    private static String told(Method method) {
        StringBuilder text = new StringBuilder(method.getName()).append('(');
        for (Class<?> kind : method.getParameterTypes()) text.append(kind == int.class ? "I" : "?");
        Class<?> answer = method.getReturnType();
        return text.append(')').append(answer == int.class ? "I" : answer == long.class ? "J" : "?").toString();
    }

    private static void methods() {
        Set<String> due = new TreeSet<>(Arrays.asList(METHODS.split(" ")));
        Set<String> names = new TreeSet<>();
        Set<String> got = new TreeSet<>();
        for (Method method : SlipRanges.class.getDeclaredMethods()) {
            if (Modifier.isPublic(method.getModifiers())) {
                got.add(told(method));
                names.add(method.getName());
                CHECK.holds("not static: " + method, !Modifier.isStatic(method.getModifiers()));
            }
        }
        CHECK.holds("the public methods: " + got, got.equals(due));
        for (Method method : SlipRanges.class.getDeclaredMethods()) {
            CHECK.holds("a public name: " + method, Modifier.isPublic(method.getModifiers()) || !names.contains(method.getName()));
        }
        for (Class<?> inside : SlipRanges.class.getDeclaredClasses()) {
            for (Method method : inside.getDeclaredMethods()) CHECK.holds("a public name: " + method, !names.contains(method.getName()));
        }
    }

    private static void constants() throws Exception {
        for (int i = 0; i < CONSTANTS.length; i++) {
            Field constant = SlipRanges.class.getField(CONSTANTS[i]);
            CHECK.same(CONSTANTS[i], constant.getInt(null), VALUES[i]);
            CHECK.same("public static final " + constant, constant.getModifiers(), Modifier.PUBLIC | Modifier.STATIC | Modifier.FINAL);
        }
    }

    private static void members() {
        int kind = SlipRanges.class.getModifiers();
        CHECK.same("public final", kind, Modifier.PUBLIC | Modifier.FINAL);
        CHECK.holds("no class above", SlipRanges.class.getSuperclass() == Object.class);
        Constructor<?>[] made = SlipRanges.class.getDeclaredConstructors();
        CHECK.same("constructors", made.length, 1);
        CHECK.holds("the constructor", made[0].getParameterCount() == 0 && Modifier.isPublic(made[0].getModifiers()));
        Set<String> face = Set.of(CONSTANTS);
        for (Field field : SlipRanges.class.getDeclaredFields()) {
            CHECK.holds("private: " + field, Modifier.isPrivate(field.getModifiers()) || face.contains(field.getName()));
        }
        for (Method method : SlipRanges.class.getDeclaredMethods()) {
            CHECK.holds("public or private: " + method, (method.getModifiers() & (Modifier.PUBLIC | Modifier.PRIVATE)) != 0);
        }
    }

    private static void classesInside() {
        CHECK.holds("not too many classes", SlipRanges.class.getDeclaredClasses().length < MOST_CLASSES);
        sizes(SlipRanges.class);
        for (Class<?> inside : SlipRanges.class.getDeclaredClasses()) {
            int kind = inside.getModifiers();
            CHECK.holds("static, not public: " + inside, Modifier.isStatic(kind) && !Modifier.isPublic(kind) && !Modifier.isProtected(kind));
            sizes(inside);
        }
    }

    private static void sizes(Class<?> one) {
        int fields = 0;
        for (Field field : one.getDeclaredFields()) {
            if (!Modifier.isStatic(field.getModifiers())) fields++;
            else CHECK.holds("final: " + field, Modifier.isFinal(field.getModifiers()));
        }
        CHECK.holds("fields of " + one, fields <= MOST_FIELDS);
        for (Method method : one.getDeclaredMethods()) CHECK.holds("parameters of " + method, method.getParameterCount() <= MOST_PARAMETERS);
    }

    private static void source() throws Exception {
        String text = Files.readString(Path.of("src/main/java/SlipRanges.java"), StandardCharsets.UTF_8);
        CHECK.holds("signs 1 to 127 alone", text.chars().allMatch(c -> c >= 1 && c <= 127));
        String code = text.replaceAll("(?s)/\\*.*?\\*/", "").replaceAll("//.*", "");
        Matcher forbidden = Pattern.compile(FORBIDDEN).matcher(code);
        while (forbidden.find()) CHECK.holds("no " + forbidden.group(), false);
        library(code);
        methodLengths(text.split("\n"));
    }

    /** Rule 4: no more of the library than that, and nothing is made but rows of numbers and its own classes. */
    private static void library(String code) {
        Matcher imported = Pattern.compile("\\bimport\\b[^;]*;").matcher(code);
        while (imported.find()) CHECK.holds("the only one: " + imported.group(), imported.group().equals("import java.util.Arrays;"));
        Matcher used = Pattern.compile("\\b([A-Z]\\w*[.]\\w+)\\(").matcher(code);
        while (used.find()) CHECK.holds("in the library: " + used.group(1), LIBRARY.contains(used.group(1)));
        Set<String> own = new TreeSet<>(Set.of("int", "long"));
        for (Class<?> inside : SlipRanges.class.getDeclaredClasses()) own.add(inside.getSimpleName());
        Matcher made = Pattern.compile("\\bnew (\\w+)").matcher(code);
        while (made.find()) CHECK.holds("its own: new " + made.group(1), own.contains(made.group(1)));
        Matcher outside = Pattern.compile("\\b(String|StringBuilder|List|ArrayList|System|Object|Thread|java)\\b").matcher(code);
        int others = 0;
        while (outside.find()) others++;
        CHECK.same("names from outside, beside the one import", others, 1);
    }

    /** A method ends at the first closing brace that stands as far in as its head. */
    private static void methodLengths(String[] lines) {
        Pattern head = Pattern.compile("( {4}| {8})[a-zA-Z].*\\) \\{");
        int begun = 0;
        String end = "";
        for (int i = 0; i < lines.length; i++) {
            Matcher begins = head.matcher(lines[i]);
            if (begins.matches() && end.isEmpty()) {
                begun = i;
                end = begins.group(1) + "}";
            } else if (lines[i].equals(end)) {
                CHECK.holds("short: lines " + (begun + 1) + " to " + (i + 1), i - begun < MOST_LINES);
                end = "";
            }
        }
    }
}
