import java.lang.reflect.InvocationTargetException;
import java.lang.reflect.Method;
import java.util.Arrays;
import java.util.Comparator;
import java.util.NoSuchElementException;
import java.util.Random;

/** All promises: whatever is asked, a call throws only what its face declares, and each refusal is counted. */
public final class NeverThrowsTest {
    private static final Check CHECK = new Check("NeverThrowsTest");
    private static final int[] EDGES = {0, 1, -1, 2, 5, 8, 9, 23, 24, 60, 150, 300, 600, 999, 1000, 1 << 23, 1 << 24,
        Integer.MAX_VALUE, Integer.MIN_VALUE};

    public static void main(String[] args) throws IllegalAccessException {
        Method[] face = HopedHours.class.getDeclaredMethods();
        face = Arrays.stream(face).filter(m -> java.lang.reflect.Modifier.isPublic(m.getModifiers()))
                .sorted(Comparator.comparing(Method::getName)).toArray(Method[]::new);
        for (int seed = 0; seed < 400; seed++) {
            run(face, new Random(seed));
        }
        CHECK.end();
    }

    private static void run(Method[] face, Random random) throws IllegalAccessException {
        Model m = Model.random(random);
        HopedHours x = random.nextInt(5) == 0 ? new HopedHours() : Check.made(m.text());
        int missing = 0;
        int unfit = 0;
        // with what is fed these are fewer than the 512 calls of an object's use
        for (int i = 0; i < 380; i++) {
            Method method = face[random.nextInt(face.length)];
            Object[] arguments = new Object[method.getParameterCount()];
            for (int a = 0; a < arguments.length; a++) {
                arguments[a] = argument(random, method);
            }
            if (random.nextInt(20) == 0) {
                Check.feed(x, random.nextBoolean() ? "call 0;hour;again 9[go 0 1;bed 0;];" : "hope*999*999-heard/(hour-3)");
            }
            try {
                method.invoke(x, arguments);
            } catch (InvocationTargetException e) {
                Class<?> kind = e.getCause().getClass();
                boolean declared = Arrays.asList(method.getExceptionTypes()).contains(kind);
                CHECK.due(method.getName() + Arrays.toString(arguments) + " threw " + e.getCause(), declared ? 1 : 0, 1);
                missing += kind == NoSuchElementException.class ? 1 : 0;
                unfit += kind == IllegalArgumentException.class ? 1 : 0;
            }
        }
        CHECK.due("missing", x.status(0), missing);
        CHECK.due("unfit", x.status(1), unfit);
    }

    private static int argument(Random random, Method method) {
        if (method.getName().equals("feed")) {
            return random.nextInt();
        }
        return random.nextInt(3) == 0 ? EDGES[random.nextInt(EDGES.length)] : random.nextInt(5);
    }
}
