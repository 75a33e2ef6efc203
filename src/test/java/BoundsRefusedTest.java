import java.lang.reflect.InvocationTargetException;
import java.lang.reflect.Method;
import java.util.ArrayList;
import java.util.Arrays;
import java.util.List;
import java.util.NoSuchElementException;

/**
 * Promises 9 to 39, 42: each argument of each call that asks, at the last value that is taken and the first that is not,
 * on both sides, in an empty, a small and a full CITY; which of two refusals comes first, what stays, what is counted.
 */
public final class BoundsRefusedTest {
    private static final Check CHECK = new Check("BoundsRefusedTest");
    private static final String FULL = "street 1;".repeat(9)
            + "lane 0 1;lane 0 2;lane 0 3;lane 0 4;lane 0 5;lane 0 6;lane 0 7;lane 0 8;"
            + "lane 1 2;lane 1 3;lane 1 4;lane 1 5;lane 1 6;lane 1 7;"
            + "man 0 23 24;".repeat(6) + "sleeper 8 23;".repeat(8);
    private static final String SMALL = "street 3;street 4;lane 1 0;man 1 6 2;sleeper 0 7;";
    private static final String[] TOWNS = {"", SMALL, FULL};
    // how many streets, lanes, men, sleepers each of them has
    private static final int[][] MANY = {{0, 0, 0, 0}, {2, 1, 1, 1}, {9, 14, 6, 8}};

    /**
     * Behind each name its arguments: S, L, M, Z for a street, lane, man, sleeper by number (no such one is missing),
     * m, z for bits of men, sleepers, y for a sleeper whose lack is an argument's, else least..most, * whatever.
     */
    private static final String[] CALLS = {
        "told 0..10", "street S 0..4", "lane L 0..1", "man M 0..4", "sleeper Z 0..2",
        "would 0..23 0..23 0..999 0..8 0..5 1..24 0..300 0..24", "says M S", "wakes M S", "nearest M 0..23 0..1",
        "raise z", "who 0..2", "listen 0..1", "way S S", "past S S 0..23", "shut S S", "believe 1..9 0..16 0..1",
        "roster 0..16777215", "thief 0..60 0..2", "oil M m 0..999", "sounds 0..23", "busiest 0..1", "reach M", "range M",
        "late M", "agree 0..1", "waker Z 0..1", "deepest 0..1", "farthest M 0..1", "year * 1..96 0..16 0..3",
        "span * 1..20 1..96 0..16 0..2 y", "status *", "count *", "silent", "fault"};

    private static String town;
    private static int[] many;
    private static Method method;
    private static String[] kinds;

    public static void main(String[] args) throws IllegalAccessException {
        for (int i = 0; i < TOWNS.length; i++) {
            town = TOWNS[i];
            many = MANY[i];
            for (String call : CALLS) {
                String[] parts = call.split(" ");
                kinds = Arrays.copyOfRange(parts, 1, parts.length);
                method = named(parts[0]);
                edges();
                pairs();
            }
        }
        exceptionsOfEachCall();
        toTheLastCall();
        CHECK.end();
    }

    private static Method named(String name) {
        for (Method each : HopedHours.class.getMethods()) {
            if (each.getName().equals(name)) {
                return each;
            }
        }
        throw new IllegalStateException("no call " + name);
    }

    private static boolean isElement(String kind) {
        return "SLMZ".contains(kind);
    }

    private static long least(String kind) {
        if (kind.equals("*")) {
            return Integer.MIN_VALUE;
        }
        return kind.contains("..") ? Integer.parseInt(kind.substring(0, kind.indexOf('.'))) : 0;
    }

    private static long most(String kind) {
        switch (kind) {
            case "*": return Integer.MAX_VALUE;
            case "S": return many[0] - 1;
            case "L": return many[1] - 1;
            case "M": return many[2] - 1;
            case "Z": return many[3] - 1;
            case "y": return many[3] - 1;
            case "m": return (1 << many[2]) - 1;
            case "z": return (1 << many[3]) - 1;
            default: return Integer.parseInt(kind.substring(kind.lastIndexOf('.') + 1));
        }
    }

    private static boolean takes(String kind, long value) {
        return value >= least(kind) && value <= most(kind);
    }

    /** Values around both bounds, and the farthest ones. */
    private static List<Integer> values(String kind) {
        List<Integer> values = new ArrayList<>();
        long[] all = {least(kind), most(kind), least(kind) - 1, most(kind) + 1, Integer.MIN_VALUE, Integer.MAX_VALUE,
            1L << 31 | least(kind), -most(kind) - 2};
        for (long value : all) {
            int number = (int) value;
            if (!values.contains(number)) {
                values.add(number);
            }
        }
        return values;
    }

    private static Object[] good() {
        Object[] arguments = new Object[kinds.length];
        for (int i = 0; i < kinds.length; i++) {
            arguments[i] = (int) least(kinds[i]);
        }
        // two streets must be unlike for shut alone, and may be so for all others
        if (kinds.length > 1 && kinds[0].equals("S") && kinds[1].equals("S")) {
            arguments[1] = 1;
        }
        return arguments;
    }

    private static void edges() throws IllegalAccessException {
        asked(good());
        for (int i = 0; i < kinds.length; i++) {
            for (int value : values(kinds[i])) {
                Object[] arguments = good();
                arguments[i] = value;
                asked(arguments);
            }
        }
    }

    /** Two wrong ones at once: who is missing comes ahead of others. */
    private static void pairs() throws IllegalAccessException {
        for (int i = 0; i < kinds.length; i++) {
            for (int other = i + 1; other < kinds.length; other++) {
                for (int value : new int[] {-1, Integer.MAX_VALUE}) {
                    Object[] arguments = good();
                    arguments[i] = value;
                    arguments[other] = value;
                    asked(arguments);
                    Object[] all = new Object[kinds.length];
                    Arrays.fill(all, value);
                    asked(all);
                }
            }
        }
    }

    private static Class<?> due(Object[] arguments) {
        boolean unfit = false;
        for (int i = 0; i < kinds.length; i++) {
            boolean taken = takes(kinds[i], (int) arguments[i]);
            if (!taken && isElement(kinds[i])) {
                return NoSuchElementException.class;
            }
            unfit |= !taken;
        }
        unfit |= method.getName().equals("shut") && arguments[0].equals(arguments[1]);
        unfit |= method.getName().equals("believe") && (int) arguments[0] % 2 == 0;
        return unfit ? IllegalArgumentException.class : null;
    }

    private static HopedHours lived() {
        HopedHours x = Check.made(town);
        if (!town.isEmpty()) {
            Check.law(x, "hope+calls+hour");
            Check.work(x, "call 0;hour;go 0 0;");
            x.image();
            Check.work(x, "bed 0;call 0;");
            Check.book(x, "1 7;");
        }
        Check.law(x, "hope+");
        Check.feed(x, "1 7;");
        return x;
    }

    private static void asked(Object[] arguments) throws IllegalAccessException {
        String what = "'" + town + "' " + method.getName() + Arrays.toString(arguments);
        HopedHours x = lived();
        CHECK.missing(what + ", ahead of it", () -> x.man(-1, 9));
        CHECK.unfit(what + ", ahead of it", () -> x.told(-1));
        Class<?> thrown = null;
        try {
            method.invoke(x, arguments);
        } catch (InvocationTargetException e) {
            thrown = e.getCause().getClass();
        }
        Class<?> due = due(arguments);
        CHECK.due(what + " threw " + thrown + ", due is " + due + ": alike", thrown == due ? 1 : 0, 1);
        CHECK.due(what + ", missing", x.status(0), due == NoSuchElementException.class ? 2 : 1);
        CHECK.due(what + ", unfit", x.status(1), due == IllegalArgumentException.class ? 2 : 1);
        CHECK.alike("behind " + what, told(x), told(lived()));
    }

    /** All that is told, and what lies in the image and ahead of the latest work. */
    private static String told(HopedHours x) {
        StringBuilder all = new StringBuilder(Check.state(x));
        all.append(" undo ").append(x.undo()).append(Check.night(x));
        all.append(" restore ").append(x.restore()).append(Check.night(x));
        all.append(" undo ").append(x.undo()).append(Check.night(x));
        return all.append(" tape ").append(x.book(4)).append(' ').append(x.fault()).toString();
    }

    /** Each call that the face lets throw is in the table, or a text. */
    private static void exceptionsOfEachCall() {
        List<String> told = new ArrayList<>(List.of("city", "law", "work", "book"));
        for (String call : CALLS) {
            told.add(call.split(" ")[0]);
        }
        for (Method each : HopedHours.class.getDeclaredMethods()) {
            if (each.getExceptionTypes().length > 0 && java.lang.reflect.Modifier.isPublic(each.getModifiers())) {
                CHECK.due(each.getName() + " is tested", told.contains(each.getName()) ? 1 : 0, 1);
            }
        }
    }

    /** An object is used for 512 calls: each refused one of them is counted. */
    private static void toTheLastCall() {
        HopedHours x = new HopedHours();
        for (int i = 0; i < 255; i++) {
            CHECK.missing("reach", () -> x.reach(0));
            CHECK.unfit("sounds", () -> x.sounds(24));
        }
        CHECK.due("the 511th call", x.status(0), 255);
        CHECK.due("the 512th call", x.status(1), 255);
    }
}
