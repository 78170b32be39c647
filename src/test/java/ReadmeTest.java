import java.io.IOException;
import java.lang.reflect.Method;
import java.lang.reflect.Modifier;
import java.nio.file.Files;
import java.nio.file.Path;
import java.util.ArrayList;
import java.util.List;
import java.util.Set;
import java.util.TreeSet;
import java.util.regex.Matcher;
import java.util.regex.Pattern;

/**
 * The examples of README.md, call by call, with the answers that stand beside them; they are read out of
 * README.md itself, so that neither can be changed without the other.
 */
public final class ReadmeTest {
    private static final Path README = Path.of("README.md");
    private static final Path TESTS = Path.of("src/test/java");

    private static final Pattern BLOCK = Pattern.compile("(?s)```java\n(.*?)```");
    private static final Pattern MAKING = Pattern.compile("QuorumNodes x = new QuorumNodes\\(([^()]*)\\);( +// .*)?");
    private static final Pattern CALL = Pattern.compile("x\\.(\\w+)\\(([^()]*)\\); +// (NONE|DOWN|true|false|-?\\d+)(: .*)?");
    private static final Pattern ALONE = Pattern.compile("java -cp build (\\w+) (\\w+)");

    private static final Checks CHECKS = new Checks();

    private static final Set<String> CALLED = new TreeSet<>();

    public static void main(String[] args) throws Exception {
        String text = Files.readString(README);
        Matcher block = BLOCK.matcher(text);
        int examples = 0;
        while (block.find()) {
            examples++;
            CHECKS.begin("example " + examples);
            example(block.group(1).split("\n"));
        }
        CHECKS.begin("README.md");
        CHECKS.same("its examples", examples, 3);
        everyCallIsShown();
        everyTestIsNamed(text);
        aTestAlone(text);
        CHECKS.end();
    }

    private static void example(String[] lines) throws ReflectiveOperationException {
        Matcher making = MAKING.matcher(lines[0]);
        CHECKS.yes("'" + lines[0] + "' makes an object", making.matches());
        if (!making.matches()) {
            return;
        }
        int[] of = numbers(making.group(1));
        QuorumNodes x = new QuorumNodes(of[0], of[1], of[2]);
        for (int i = 1; i < lines.length; i++) {
            Matcher call = CALL.matcher(lines[i]);
            CHECKS.yes("'" + lines[i] + "' is a call with its answer", call.matches());
            if (call.matches()) {
                CALLED.add(call.group(1));
                CHECKS.same(lines[i], answer(x, call.group(1), numbers(call.group(2))), due(call.group(3)));
            }
        }
        CHECKS.yes("at most 512 calls", lines.length <= 513);
    }

    private static int[] numbers(String list) {
        String[] texts = list.split(", ");
        int[] numbers = new int[texts.length];
        for (int i = 0; i < texts.length; i++) {
            numbers[i] = Integer.parseInt(texts[i]);
        }
        return numbers;
    }

    private static int answer(QuorumNodes x, String name, int[] numbers) throws ReflectiveOperationException {
        Class<?>[] types = new Class<?>[numbers.length];
        Object[] values = new Object[numbers.length];
        for (int i = 0; i < numbers.length; i++) {
            types[i] = int.class;
            values[i] = numbers[i];
        }
        Object got = QuorumNodes.class.getMethod(name, types).invoke(x, values);
        return got instanceof Boolean yes ? truth(yes) : (Integer) got;
    }

    // A boolean's numbers are none that an example has, so that true is not taken for 1.
    private static int truth(boolean yes) {
        return yes ? 1_000_001 : 1_000_000;
    }

    private static int due(String text) {
        switch (text) {
            case "NONE": return QuorumNodes.NONE;
            case "DOWN": return QuorumNodes.DOWN;
            case "true": return truth(true);
            case "false": return truth(false);
            default: return Integer.parseInt(text);
        }
    }

    private static void everyCallIsShown() {
        for (Method method : QuorumNodes.class.getDeclaredMethods()) {
            if (Modifier.isPublic(method.getModifiers())) {
                CHECKS.yes("an example has " + method.getName(), CALLED.contains(method.getName()));
            }
        }
    }

    private static void everyTestIsNamed(String text) throws IOException {
        List<Path> files = new ArrayList<>();
        try (var all = Files.newDirectoryStream(TESTS, "*Test.java")) {
            all.forEach(files::add);
        }
        CHECKS.yes("there are tests", files.size() > 1);
        for (Path file : files) {
            String name = file.getFileName().toString().replace(".java", "");
            CHECKS.yes("it names " + name, text.contains("`" + name + "`"));
        }
    }

    private static void aTestAlone(String text) throws ReflectiveOperationException {
        Matcher alone = ALONE.matcher(text);
        CHECKS.yes("it says how one test is run", alone.find());
        Method test = Class.forName(alone.group(1)).getDeclaredMethod(alone.group(2));
        CHECKS.yes(alone.group() + " is a sentence's test", test.isAnnotationPresent(Says.class));
    }
}
