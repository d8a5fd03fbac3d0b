import java.lang.reflect.Constructor;
import java.lang.reflect.Field;
import java.lang.reflect.Method;
import java.lang.reflect.Modifier;
import java.util.Arrays;
import java.util.TreeSet;

/** The class shows what the document's face shows, and nothing else. */
public final class FaceTest {
    private static final String[] FACE = {
        "int set(int,int)", "int move(int)", "int back()", "int edge(int,int)", "int weight(int,int)", "int told(int)",
        "int number(int)", "int element(int)", "int cycles(int)", "int keeps(int)", "int keepsFit(int)", "int reach(int)",
        "int order(int)", "int orbits()", "int orbitsOf(int,int,int)", "int fits()", "int full()", "long sum()",
        "int head(int)", "int mates(int)", "int rank(int)", "int nth(int)", "int by(int,int)", "int fit(int)",
        "int made(int,int)", "NONE = -1", "OUTSIDE = -2", "NO = -3", "ROOM = -4", "SwapOrbits()"};

    private static String types(Class<?>[] types) {
        StringBuilder text = new StringBuilder("(");
        for (int i = 0; i < types.length; i++) {
            text.append(i == 0 ? "" : ",").append(types[i].getName());
        }
        return text.append(")").toString();
    }

    public static void main(String[] args) throws IllegalAccessException {
        TreeSet<String> found = new TreeSet<>();
        for (Method method : SwapOrbits.class.getDeclaredMethods()) {
            if (!Modifier.isPrivate(method.getModifiers())) {
                found.add(method.getReturnType().getName() + " " + method.getName() + types(method.getParameterTypes()));
            }
        }
        for (Field field : SwapOrbits.class.getDeclaredFields()) {
            if (!Modifier.isPrivate(field.getModifiers())) {
                found.add(field.getName() + " = " + field.getInt(null));
            }
        }
        for (Constructor<?> constructor : SwapOrbits.class.getDeclaredConstructors()) {
            if (!Modifier.isPrivate(constructor.getModifiers())) {
                found.add("SwapOrbits" + types(constructor.getParameterTypes()));
            }
        }
        TreeSet<String> want = new TreeSet<>(Arrays.asList(FACE));
        boolean isFinal = Modifier.isFinal(SwapOrbits.class.getModifiers());
        if (!found.equals(want) || !isFinal) {
            System.out.println("the face is " + found + ", due is " + want + (isFinal ? "" : "; the class is not final"));
            System.exit(1);
        }
        System.out.println("the face is as due");
    }
}
