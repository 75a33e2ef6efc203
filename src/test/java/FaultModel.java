import java.util.ArrayList;
import java.util.List;
import java.util.TreeSet;
import java.util.regex.Matcher;
import java.util.regex.Pattern;

/** The four texts read once more, from a list of tokens: the kind and the place of the first FAULT. */
final class FaultModel {
    private static final Pattern TOKEN = Pattern.compile(" *([0-9]+|[a-z]+|[^ ])", Pattern.DOTALL);

    private static final class Fault extends RuntimeException {
        private static final long serialVersionUID = 1;
        final int kind;
        final int place;

        Fault(int kind, int place) {
            this.kind = kind;
            this.place = place;
        }
    }

    private final List<String> tokens = new ArrayList<>();
    private final List<Integer> places = new ArrayList<>();
    private int next = 0;
    private int streets;
    private int men;

    private FaultModel(String text) {
        Matcher matcher = TOKEN.matcher(text);
        while (matcher.find()) {
            tokens.add(matcher.group(1));
            places.add(matcher.start(1));
        }
        tokens.add("");
        places.add(text.length());
    }

    /** 0 and -1 without a FAULT. */
    static int[] of(char kind, String text, int streets, int men) {
        FaultModel model = new FaultModel(text);
        model.streets = streets;
        model.men = men;
        try {
            switch (kind) {
                case 'c': model.city(); break;
                case 'l': model.law(0); break;
                case 'w': model.steps(0); break;
                default: model.book(); break;
            }
            model.need("");
            return new int[] {0, -1};
        } catch (Fault fault) {
            return new int[] {fault.kind, fault.place};
        }
    }

    private boolean is(String token) {
        return tokens.get(next).equals(token);
    }

    private Fault fault(int kind) {
        return new Fault(kind, places.get(next));
    }

    private void need(String token) {
        if (!is(token)) {
            throw fault(1);
        }
        next = Math.min(next + 1, tokens.size() - 1);
    }

    private int number(int least, int most) {
        String token = tokens.get(next);
        if (!token.matches("[0-9]+")) {
            throw fault(1);
        }
        java.math.BigInteger value = new java.math.BigInteger(token);
        if (value.compareTo(java.math.BigInteger.valueOf(least)) < 0
                || value.compareTo(java.math.BigInteger.valueOf(most)) > 0) {
            throw fault(2);
        }
        next++;
        return value.intValue();
    }

    private void city() {
        int told = 0;
        int lanes = 0;
        int watchmen = 0;
        int sleepers = 0;
        TreeSet<Integer> between = new TreeSet<>();
        while (!is("")) {
            boolean full = is("street") && told == 9 || is("lane") && lanes == 14 || is("man") && watchmen == 6
                    || is("sleeper") && sleepers == 8;
            if (full) {
                throw fault(3);
            }
            if (is("street")) {
                next++;
                number(0, 30);
                told++;
            } else if (is("lane")) {
                next++;
                int a = number(0, told - 1);
                int b = number(0, told - 1);
                if (a == b || !between.add(Math.min(a, b) * 10 + Math.max(a, b))) {
                    next--;
                    throw fault(2);
                }
                lanes++;
            } else if (is("man")) {
                next++;
                number(0, told - 1);
                number(0, 23);
                number(1, 24);
                watchmen++;
            } else {
                need("sleeper");
                number(0, told - 1);
                number(0, 23);
                sleepers++;
            }
            need(";");
        }
    }

    private void law(int open) {
        while (true) {
            unit(open);
            if (!tokens.get(next).matches("[-+*/%]")) {
                return;
            }
            next++;
        }
    }

    private void unit(int open) {
        String token = tokens.get(next);
        if (token.matches("hope|hour|calls|street|men|walks|night|heard")) {
            next++;
        } else if (token.matches("[(]|least|most")) {
            if (open == 6) {
                throw fault(3);
            }
            next++;
            if (token.equals("(")) {
                law(open + 1);
                need(")");
            } else {
                need("[");
                law(open + 1);
                need(",");
                law(open + 1);
                need("]");
            }
        } else {
            number(0, 999);
        }
    }

    private void steps(int open) {
        while (!is(open == 0 ? "" : "]")) {
            if (is("go")) {
                next++;
                number(0, men - 1);
                number(0, streets - 1);
            } else if (is("call") || is("bed")) {
                next++;
                number(0, men - 1);
            } else if (is("again")) {
                if (open == 6) {
                    throw fault(3);
                }
                next++;
                number(0, 60);
                need("[");
                steps(open + 1);
                need("]");
            } else {
                need("hour");
            }
            need(";");
        }
    }

    private void book() {
        TreeSet<Integer> told = new TreeSet<>();
        while (!is("")) {
            if (!told.add(number(0, streets - 1))) {
                next--;
                throw fault(2);
            }
            number(0, 23);
            need(";");
        }
    }
}
