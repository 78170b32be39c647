import java.lang.reflect.Constructor;
import java.lang.reflect.Field;
import java.lang.reflect.Member;
import java.lang.reflect.Method;
import java.lang.reflect.Modifier;
import java.nio.file.Files;
import java.nio.file.Path;
import java.util.List;
import java.util.Set;
import java.util.TreeSet;
import java.util.regex.Pattern;

/** The class has the document's face and no more, and keeps to what LANGUAGE.md lets a text be looked at for. */
public final class FaceTest {
    private static final Checks CHECKS = new Checks();

    private static final List<String> FACE = List.of(
        "QuorumNodes(int,int,int)", "int NONE", "int DOWN",
        "int read(int,int)", "int write(int,int,int)", "int propose(int,int,int,int)", "int retire(int)",
        "int again(int)", "boolean gossip(int,int)", "boolean join(int,int)", "int deliver(int)",
        "boolean lose(int)", "boolean twice(int)", "boolean crash(int)", "boolean restart(int)",
        "boolean arm(int,int)", "int node(int,int)", "int cell(int,int,int)", "int map(int,int,int)",
        "int task(int,int)", "int message(int,int)", "int count(int)");

    public static void main(String[] args) throws Exception {
        face();
        nested();
        text();
        CHECKS.end();
    }

    private static void face() {
        Set<String> shown = new TreeSet<>();
        for (Constructor<?> c : QuorumNodes.class.getDeclaredConstructors()) {
            add(shown, c, "QuorumNodes" + parameters(c.getParameterTypes()));
        }
        for (Method m : QuorumNodes.class.getDeclaredMethods()) {
            add(shown, m, m.getReturnType().getSimpleName() + " " + m.getName() + parameters(m.getParameterTypes()));
        }
        for (Field f : QuorumNodes.class.getDeclaredFields()) {
            add(shown, f, f.getType().getSimpleName() + " " + f.getName());
        }
        CHECKS.yes("the face " + shown, shown.equals(new TreeSet<>(FACE)));
        int modifiers = QuorumNodes.class.getModifiers();
        CHECKS.yes("public and final", Modifier.isPublic(modifiers) && Modifier.isFinal(modifiers));
        CHECKS.same("NONE", QuorumNodes.NONE, -1);
        CHECKS.same("DOWN", QuorumNodes.DOWN, -9);
    }

    private static void add(Set<String> shown, Member member, String name) {
        if (!Modifier.isPrivate(member.getModifiers())) {
            CHECKS.yes(name + " is public", Modifier.isPublic(member.getModifiers()));
            shown.add(name);
        }
    }

    private static String parameters(Class<?>[] types) {
        StringBuilder text = new StringBuilder("(");
        for (Class<?> type : types) {
            text.append(text.length() > 1 ? "," : "").append(type.getSimpleName());
        }
        return text.append(")").toString();
    }

    private static void nested() {
        Set<String> names = new TreeSet<>();
        for (Method m : QuorumNodes.class.getDeclaredMethods()) {
            if (Modifier.isPublic(m.getModifiers())) {
                names.add(m.getName());
            }
        }
        CHECKS.yes("at most twelve classes", QuorumNodes.class.getDeclaredClasses().length < 12);
        for (Class<?> inside : QuorumNodes.class.getDeclaredClasses()) {
            CHECKS.yes(inside + " is static", Modifier.isStatic(inside.getModifiers()));
            CHECKS.no(inside + " is public", Modifier.isPublic(inside.getModifiers()));
            CHECKS.yes(inside + " has at most twenty fields", inside.getDeclaredFields().length <= 20);
            for (Method m : inside.getDeclaredMethods()) {
                CHECKS.no(m + " bears a public name", names.contains(m.getName()));
                CHECKS.yes(m + " has at most seven parameters", m.getParameterCount() <= 7);
            }
        }
        for (Method m : QuorumNodes.class.getDeclaredMethods()) {
            boolean hidden = Modifier.isPrivate(m.getModifiers());
            CHECKS.no(m + " bears a public name", hidden && names.contains(m.getName()));
        }
    }

    private static void text() throws Exception {
        String whole = Files.readString(Path.of("src/main/java/QuorumNodes.java"));
        String code = whole.replaceAll("(?s)/\\*.*?\\*/", "").replaceAll("//[^\n]*", "");
        for (String word : List.of("throw", "try", "catch", "synchronized", "assert", "import", "package", "protected",
                "hashCode", "toString", "equals", "instanceof", "static \\{", "->", "::")) {
            String edges = Character.isLetter(word.charAt(0)) ? "\\b" : "";
            CHECKS.no("'" + word + "' stands in the class", Pattern.compile(edges + word).matcher(code).find());
        }
        CHECKS.no("'new' in a call's own lines", code.substring(code.indexOf("public int read("),
            code.indexOf("private static final class Copies")).contains("new "));
    }
}
