import java.io.IOException;
import java.lang.reflect.Method;
import java.nio.file.Files;
import java.nio.file.Path;
import java.util.regex.Matcher;
import java.util.regex.Pattern;

/** The example of README.md is carried out: each call must answer the number that stands behind it. */
public final class ReadmeTest {
    private static final Pattern CALL = Pattern.compile("(?m)^s\\.(\\w+)\\(([^)]*)\\); +// (-?\\d+)\\b");
    private static final Pattern ANY_CALL = Pattern.compile("(?m)^s\\.");

    private static long answer(SwapOrbits s, String call, String arguments) throws ReflectiveOperationException {
        String[] texts = arguments.isEmpty() ? new String[0] : arguments.split(", *");
        Object[] numbers = new Object[texts.length];
        Class<?>[] types = new Class<?>[texts.length];
        for (int at = 0; at < texts.length; at++) {
            numbers[at] = Integer.parseInt(texts[at]);
            types[at] = int.class;
        }
        Method method = SwapOrbits.class.getMethod(call, types);
        return ((Number) method.invoke(s, numbers)).longValue();
    }

    public static void main(String[] args) throws IOException, ReflectiveOperationException {
        String text = Files.readString(Path.of("README.md"));
        SwapOrbits s = new SwapOrbits();
        long calls = 0;
        int wrong = 0;
        for (Matcher found = CALL.matcher(text); found.find(); calls++) {
            long got = answer(s, found.group(1), found.group(2));
            if (got != Long.parseLong(found.group(3))) {
                wrong++;
                System.out.println("README.md: " + found.group() + " answered " + got);
            }
        }
        if (calls == 0 || calls != ANY_CALL.matcher(text).results().count()) {
            wrong++;
            System.out.println("README.md: there are calls without an answer, or none at all");
        }
        System.out.println(wrong == 0 ? "the example is as due" : wrong + " are not as due");
        if (wrong != 0) {
            System.exit(1);
        }
    }
}
