import java.lang.reflect.Constructor;
import java.lang.reflect.Field;
import java.lang.reflect.Member;
import java.lang.reflect.Method;
import java.lang.reflect.Modifier;
import java.util.List;
import java.util.Set;
import java.util.TreeSet;

/** The class has the document's face and no more; nothing inside it bears the name of a public method. */
public final class FaceTest {
    private static final Checks CHECKS = new Checks();

    private static final List<String> FACE = List.of(
        "QuorumNodes(int,int,int)", "int NONE", "int DOWN",
        "int read(int,int)", "int write(int,int,int)", "int propose(int,int,int,int)", "int retire(int)",
        "int again(int)", "boolean gossip(int,int)", "boolean join(int,int)", "int deliver(int)",
        "boolean lose(int)", "boolean twice(int)", "boolean crash(int)", "boolean restart(int)",
        "boolean arm(int,int)", "int node(int,int)", "int cell(int,int,int)", "int map(int,int,int)",
        "int task(int,int)", "int message(int,int)", "int count(int)");

    public static void main(String[] args) {
        face();
        nested();
        CHECKS.end();
    }

    private static void face() {
        Set<String> shown = new TreeSet<>();
        for (Constructor<?> c : QuorumNodes.class.getDeclaredConstructors()) {
            add(shown, c, "QuorumNodes" + parameters(c.getParameterTypes()));
        }
        for (Method m : QuorumNodes.class.getDeclaredMethods()) {
            add(shown, m, m.getReturnType().getSimpleName() + " " + m.getName() + parameters(m.getParameterTypes()));
        }
        for (Field f : QuorumNodes.class.getDeclaredFields()) {
            add(shown, f, f.getType().getSimpleName() + " " + f.getName());
        }
        CHECKS.yes("the face " + shown, shown.equals(new TreeSet<>(FACE)));
        int modifiers = QuorumNodes.class.getModifiers();
        CHECKS.yes("public and final", Modifier.isPublic(modifiers) && Modifier.isFinal(modifiers));
        CHECKS.same("NONE", QuorumNodes.NONE, -1);
        CHECKS.same("DOWN", QuorumNodes.DOWN, -9);
    }

    private static void add(Set<String> shown, Member member, String name) {
        if (!Modifier.isPrivate(member.getModifiers())) {
            CHECKS.yes(name + " is public", Modifier.isPublic(member.getModifiers()));
            shown.add(name);
        }
    }

    private static String parameters(Class<?>[] types) {
        StringBuilder text = new StringBuilder("(");
        for (Class<?> type : types) {
            text.append(text.length() > 1 ? "," : "").append(type.getSimpleName());
        }
        return text.append(")").toString();
    }

    private static void nested() {
        Set<String> names = new TreeSet<>();
        for (Method m : QuorumNodes.class.getDeclaredMethods()) {
            if (Modifier.isPublic(m.getModifiers())) {
                names.add(m.getName());
            }
        }
        for (Class<?> inside : QuorumNodes.class.getDeclaredClasses()) {
            CHECKS.no(inside + " is public", Modifier.isPublic(inside.getModifiers()));
            for (Method m : inside.getDeclaredMethods()) {
                CHECKS.no(m + " bears a public name", names.contains(m.getName()));
            }
        }
        for (Method m : QuorumNodes.class.getDeclaredMethods()) {
            boolean hidden = Modifier.isPrivate(m.getModifiers());
            CHECKS.no(m + " bears a public name", hidden && names.contains(m.getName()));
        }
    }
}
