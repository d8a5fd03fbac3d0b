import java.io.IOException;
import java.lang.reflect.Constructor;
import java.lang.reflect.Field;
import java.lang.reflect.Method;
import java.lang.reflect.Modifier;
import java.nio.file.Files;
import java.nio.file.Path;
import java.util.ArrayList;
import java.util.List;
import java.util.TreeSet;

/** The program keeps to the rules of ../shared/LANGUAGE.md, as far as they can be seen from outside. */
public final class FormTest {
    private static final Path SOURCE = Path.of("src/main/java/SwapOrbits.java");
    private static final String[] KEPT_OUT = {"->", "::", "synchronized", "assert ", "finally", "Exact(", "static {",
        "package ", "protected ", "import static", "native ", "System.", "Thread", "Random", "Object", "Exception", "throw",
        "try", "catch", "instanceof", "(int[])", "hashCode", "equals", "toString"};
    private static final String[] IMPORTS = {"java.util.Arrays", "java.util.ArrayList", "java.util.List", "java.util.Iterator"};
    private static int wrong = 0;

    private static void holds(String rule, boolean does) {
        if (!does) {
            wrong++;
            System.out.println(rule);
        }
    }

    public static void main(String[] args) throws IOException {
        List<Class<?>> classes = new ArrayList<>();
        classes.add(SwapOrbits.class);
        for (Class<?> inside : SwapOrbits.class.getDeclaredClasses()) {
            classes.add(inside);
            holds("rule 1: " + inside + " is static and not shown",
                Modifier.isStatic(inside.getModifiers()) && !Modifier.isPublic(inside.getModifiers()));
        }
        holds("rule 11: at most twelve classes", classes.size() <= 12);
        for (Class<?> one : classes) {
            lookAt(one);
        }
        lookAtNames();
        String source = Files.readString(SOURCE);
        lookAtText(source);
        lookAtHeadings(source);
        lookAtLengths(source.split("\n"));
        System.out.println(wrong == 0 ? "the form is as due" : wrong + " rules are not kept");
        if (wrong != 0) {
            System.exit(1);
        }
    }

    private static void lookAt(Class<?> one) {
        int fields = 0;
        for (Field field : one.getDeclaredFields()) {
            boolean isStatic = Modifier.isStatic(field.getModifiers());
            holds("rule 5: " + field + " is final", !isStatic || Modifier.isFinal(field.getModifiers()));
            fields += isStatic ? 0 : 1;
        }
        holds("rule 11: at most twenty fields in " + one, fields <= 20);
        for (Method method : one.getDeclaredMethods()) {
            holds("rule 11: at most seven parameters of " + method, method.getParameterCount() <= 7);
            holds("rule 6: " + method + " throws nothing", method.getExceptionTypes().length == 0);
        }
        for (Constructor<?> constructor : one.getDeclaredConstructors()) {
            holds("rule 11: at most seven parameters of " + constructor, constructor.getParameterCount() <= 7);
        }
    }

    private static void lookAtNames() {
        TreeSet<String> shown = new TreeSet<>();
        for (Method method : SwapOrbits.class.getDeclaredMethods()) {
            if (Modifier.isPublic(method.getModifiers())) {
                shown.add(method.getName());
            }
        }
        for (Method method : SwapOrbits.class.getDeclaredMethods()) {
            holds("rule 1: the private " + method + " bears a name of its own",
                Modifier.isPublic(method.getModifiers()) || !shown.contains(method.getName()));
        }
    }

    private static void lookAtText(String source) {
        String bare = source.replaceAll("(?s)/\\*.*?\\*/", "").replaceAll("//[^\n]*", "");
        for (String word : KEPT_OUT) {
            holds("rules 2 to 13: '" + word.trim() + "' is not in the program", !bare.contains(word));
        }
        for (String line : bare.split("\n")) {
            if (line.startsWith("import ")) {
                String name = line.substring("import ".length(), line.indexOf(';'));
                holds("rule 4: " + name + " may be used", List.of(IMPORTS).contains(name));
            }
        }
    }

    /** The document's terms tell what the interface says ahead of which calls. */
    private static void lookAtHeadings(String source) {
        String shown = source.replaceAll("(?s)public (?:int|long) (\\w+)\\(.*?\\) \\{", "<$1>")
            .replaceAll("(?m)^(?!.*<\\w+>|.*// ---- ).*\n", "").replaceAll("\\s+", " ");
        holds("terms: the calls and what is said ahead of them, here " + shown, shown.contains(
            "<set> <move> <back> <edge> <weight> <told> // ---- the group"
            + " <number> <element> <cycles> <keeps> <keepsFit> <reach> <order> // ---- plans"
            + " <orbits> <orbitsOf> <fits> <full> <sum> <head> <mates> <rank> <nth> <by> <fit> <made>"));
    }

    /** A method ends at the first closing brace that stands as far in as the line that opened it. */
    private static void lookAtLengths(String[] lines) {
        for (int at = 0; at < lines.length; at++) {
            if (lines[at].matches(" +(public |private |static |final )*[\\w\\[\\]]+ ?\\w*\\(.*\\) \\{")
                && !lines[at].matches(" *(if|for|while|switch) .*")) {
                String end = lines[at].replaceAll("\\S.*", "") + "}";
                int last = at;
                while (last < lines.length && !lines[last].equals(end)) {
                    last++;
                }
                holds("rule 11: the method at line " + (at + 1) + " is short", last - at < 60);
            }
        }
    }
}
