import java.io.IOException;
import java.lang.reflect.InvocationTargetException;
import java.lang.reflect.Method;
import java.nio.file.Files;
import java.nio.file.Path;
import java.util.ArrayList;
import java.util.Comparator;
import java.util.List;

/**
 * Runs the tests of a class, one for each sentence of the document: a method promise12_.. is for a
 * sentence under 'Promise 12', a method part1_.. for one of PART 1, a method whatItIs_.. for one ahead
 * of them. A test fails, too, if its sentence does not stand there, if it compares nothing, or if it throws.
 */
final class Sentences {
    private static final Path DOCUMENT = Path.of("../shared/DOC.md");

    private final Checks checks;
    private final String document;

    private Sentences(Checks itsChecks) throws IOException {
        checks = itsChecks;
        document = Files.isReadable(DOCUMENT) ? plain(Files.readString(DOCUMENT)) : "";
    }

    /** All tests of the class, or with arguments those that these name. */
    static void run(Class<?> tests, String[] names, Checks checks) throws IOException {
        Sentences sentences = new Sentences(checks);
        if (sentences.document.isEmpty()) {
            System.out.println(DOCUMENT + " is not here: where the sentences stand was not looked up");
        }
        List<Method> methods = new ArrayList<>();
        for (Method method : tests.getDeclaredMethods()) {
            if (method.isAnnotationPresent(Says.class) && (names.length == 0 || List.of(names).contains(method.getName()))) {
                methods.add(method);
            }
        }
        methods.sort(Comparator.comparing(Method::getName));
        for (Method method : methods) {
            sentences.runOne(method);
        }
        System.out.println(methods.size() + " sentences");
        checks.end();
    }

    private void runOne(Method method) {
        String words = method.getAnnotation(Says.class).value();
        String where = method.getName().substring(0, method.getName().indexOf('_'));
        checks.begin(method.getName() + " ('" + words + "')");
        if (!document.isEmpty()) {
            checks.yes("the sentence stands under " + where, part(where).contains(plain(words)));
        }
        int made = checks.made();
        try {
            method.invoke(null);
        } catch (InvocationTargetException thrown) {
            checks.yes("no call throws, but " + thrown.getCause(), false);
        } catch (IllegalAccessException closed) {
            checks.yes("the test can be called", false);
        }
        checks.yes("the test compares something", checks.made() > made);
    }

    /** The text of the document under a promise's heading, or one of the two parts of the terms. */
    private String part(String where) {
        if (where.equals("part1")) {
            return between("PART 1.", "PART 2.");
        }
        if (where.equals("part2")) {
            return between("PART 2.", "The constants:");
        }
        if (where.equals("whatItIs")) {
            return between("## What it is", "## ");
        }
        return between("## " + where.replace("promise", "Promise ") + ":", "## ");
    }

    private String between(String first, String last) {
        int from = document.indexOf(first);
        int to = from < 0 ? -1 : document.indexOf(last, from + first.length());
        return to < 0 ? "" : document.substring(from, to);
    }

    private static String plain(String text) {
        return text.replaceAll("\\s+", " ");
    }
}
