import java.io.IOException;
import java.lang.reflect.Method;
import java.nio.file.Files;
import java.nio.file.Path;
import java.util.Arrays;
import java.util.HashMap;
import java.util.List;
import java.util.Map;
import java.util.Set;
import java.util.TreeSet;
import java.util.regex.Matcher;
import java.util.regex.Pattern;
import java.util.stream.Collectors;
import java.util.stream.Stream;

/** What README.md says is so: its example, its table of calls, the tests and the classes that it names. */
public final class ReadmeTest {
    private static final Pattern CALL =
        Pattern.compile("(?:int (\\w+) = )?f\\.(\\w+)\\(([^)]*)\\);\\s*// (-?\\d+|true|false)(?:: .*)?");
    private static final Pattern ROW =
        Pattern.compile("\\| `(\\w+)\\(([^)]*)\\)` \\| .+ \\| `(NONE|false|-?\\d+)` \\|");
    private static final Pattern FACE =
        Pattern.compile("    public (?:int|long|boolean) (\\w+)\\(([^)]*)\\) \\{");

    private final List<String> readme = Files.readAllLines(Path.of("README.md"));
    private final List<String> program;
    private final Map<String, Method> methods = new HashMap<>();

    private ReadmeTest(String path) throws IOException {
        program = Files.readAllLines(Path.of(path));
        for (Method m : LetterFoundry.class.getDeclaredMethods()) {
            methods.put(m.getName(), m);
        }
    }

    public static void main(String[] args) throws Exception {
        ReadmeTest test = new ReadmeTest(args.length > 0 ? args[0] : "src/main/java/LetterFoundry.java");
        test.example();
        test.calls();
        test.tests();
        test.classes();
        Check.end();
    }

    private long answer(LetterFoundry f, String name, Object... numbers) throws Exception {
        Object answer = methods.get(name).invoke(f, numbers);
        return answer instanceof Boolean ? ((Boolean) answer ? 1 : 0) : ((Number) answer).longValue();
    }

    private static long number(String text) {
        return text.equals("NONE") ? -1 : text.equals("true") ? 1 : text.equals("false") ? 0 : Long.parseLong(text);
    }

    // Every line of the example, but the one that makes the object, is a call with its answer.
    private void example() throws Exception {
        int first = readme.indexOf("```java") + 1;
        int last = first + readme.subList(first, readme.size()).indexOf("```");
        Check.due("the object is made", readme.get(first).equals("LetterFoundry f = new LetterFoundry();"), true);
        LetterFoundry f = new LetterFoundry();
        Map<String, Integer> names = new HashMap<>();
        for (String line : readme.subList(first + 1, last)) {
            Matcher call = CALL.matcher(line);
            boolean isCall = call.matches();
            Check.due("a call with its answer: " + line, isCall, true);
            if (isCall) {
                Object[] numbers = argumentsOf(call.group(3), names);
                long got = answer(f, call.group(2), numbers);
                Check.due(line, got, number(call.group(4)));
                names.put(String.valueOf(call.group(1)), (int) got);
            }
        }
    }

    private static Object[] argumentsOf(String text, Map<String, Integer> names) {
        if (text.isEmpty()) {
            return new Object[0];
        }
        return Arrays.stream(text.split(", ")).map(word -> valueOf(word, names)).toArray();
    }

    /** A number, a name, or two of these with + or * between. */
    private static Integer valueOf(String word, Map<String, Integer> names) {
        String[] sum = word.split(" \\+ ");
        String[] product = word.split(" \\* ");
        if (sum.length == 2) {
            return valueOf(sum[0], names) + valueOf(sum[1], names);
        }
        if (product.length == 2) {
            return valueOf(product[0], names) * valueOf(product[1], names);
        }
        return names.containsKey(word) ? names.get(word) : Integer.valueOf(word);
    }

    // The table has the calls of the face in its order; numbers that can't be are answered as it says.
    private void calls() throws Exception {
        StringBuilder told = new StringBuilder();
        for (String line : readme) {
            Matcher row = ROW.matcher(line);
            if (row.matches()) {
                told.append(row.group(1)).append('(').append(row.group(2)).append(")\n");
                Object[] numbers = new Object[methods.get(row.group(1)).getParameterCount()];
                Arrays.fill(numbers, Integer.MIN_VALUE);
                long refused = answer(new LetterFoundry(), row.group(1), numbers);
                Check.due(row.group(1) + " refused", refused, number(row.group(3)));
            }
        }
        StringBuilder there = new StringBuilder();
        for (String line : program) {
            Matcher face = FACE.matcher(line);
            if (face.matches()) {
                there.append(face.group(1)).append('(').append(face.group(2).replace("int ", "")).append(")\n");
            }
        }
        Check.due("the table has the face", told.toString().equals(there.toString()), true);
    }

    private void tests() throws IOException {
        Set<String> there;
        try (Stream<Path> files = Files.list(Path.of("src/test/java"))) {
            there = files.map(file -> file.getFileName().toString().replace(".java", ""))
                .collect(Collectors.toCollection(TreeSet::new));
        }
        sameNames("tests and helpers", named("tests of the project", "## How it is built"), there);
    }

    private void classes() {
        Set<String> there = new TreeSet<>(Set.of("LetterFoundry"));
        for (Class<?> inner : LetterFoundry.class.getDeclaredClasses()) {
            there.add(inner.getSimpleName());
        }
        sameNames("classes", named("| class | what it does |", "`flatten`, `image` and `run`"), there);
    }

    /** The names of classes that stand in `` from one line up to another. */
    private Set<String> named(String from, String to) {
        String text = String.join("\n", readme);
        int first = text.indexOf(from);
        Matcher name = Pattern.compile("`([A-Z]\\w+)`").matcher(text.substring(first, text.indexOf(to, first)));
        Set<String> names = new TreeSet<>();
        while (name.find()) {
            names.add(name.group(1));
        }
        return names;
    }

    private static void sameNames(String what, Set<String> told, Set<String> there) {
        if (!told.equals(there)) {
            System.out.println("told " + told + "\nthere " + there);
        }
        Check.due("the " + what + " that are named", told.equals(there), true);
    }
}
