import java.util.ArrayList;
import java.util.List;
import java.util.Random;
import java.util.TreeMap;
import java.util.TreeSet;

/** A second, slow telling of the document, built from parts instead of texts; the class is held against it. */
final class Model {
    int streets;
    int[] worth;
    List<int[]> lanes = new ArrayList<>();
    List<int[]> men = new ArrayList<>();
    List<int[]> sleepers = new ArrayList<>();
    Term law;
    TreeMap<Integer, Integer> book = new TreeMap<>();
    Scene now;

    /** What WORK changes. */
    static final class Scene {
        int hour;
        int night;
        List<Integer> places = new ArrayList<>();
        List<Boolean> up = new ArrayList<>();
        List<Integer> calls = new ArrayList<>();
        TreeMap<Integer, Integer> heard = new TreeMap<>();
        TreeSet<Integer> awake = new TreeSet<>();

        Scene copy() {
            Scene other = new Scene();
            other.hour = hour;
            other.night = night;
            other.places.addAll(places);
            other.up.addAll(up);
            other.calls.addAll(calls);
            other.heard.putAll(heard);
            other.awake.addAll(awake);
            return other;
        }
    }

    /** A part of a LAW: a leaf (a number or a name) or two parts with what joins them. */
    static final class Term {
        String sign;
        Term left;
        Term right;

        int value(TreeMap<String, Integer> names) {
            if (left == null) {
                return names.containsKey(sign) ? names.get(sign) : Integer.parseInt(sign);
            }
            long a = left.value(names);
            long b = right.value(names);
            switch (sign) {
                case "+": return (int) (a + b);
                case "-": return (int) (a - b);
                case "*": return (int) (a * b);
                case "/": return b == 0 ? 0 : (int) (a / b);
                case "%": return b == 0 ? 0 : (int) (a % b);
                case "least": return a < b ? (int) a : (int) b;
                default: return a > b ? (int) a : (int) b;
            }
        }

        String text() {
            if (left == null) {
                return sign;
            }
            if (sign.length() > 1) {
                return sign + "[" + left.text() + "," + right.text() + "]";
            }
            return "(" + left.text() + sign + right.text() + ")";
        }

        static Term random(Random random, int depth) {
            Term term = new Term();
            String[] names = {"hope", "hour", "calls", "street", "men", "walks", "night", "heard"};
            if (depth == 0 || random.nextInt(5) == 0) {
                term.sign = random.nextInt(3) == 0 ? "" + random.nextInt(random.nextInt(9) == 0 ? 1000 : 12)
                        : names[random.nextInt(8)];
                return term;
            }
            String[] signs = {"+", "+", "-", "-", "*", "/", "%", "least", "most"};
            term.sign = signs[random.nextInt(9)];
            term.left = random(random, depth - 1);
            term.right = random(random, depth - 1);
            return term;
        }
    }

    static Model random(Random random) {
        Model m = new Model();
        m.streets = 1 + random.nextInt(9);
        m.worth = new int[m.streets];
        for (int i = 0; i < m.streets; i++) {
            m.worth[i] = random.nextInt(random.nextBoolean() ? 31 : 4);
        }
        for (int tries = random.nextInt(30); tries > 0 && m.lanes.size() < 14; tries--) {
            int a = random.nextInt(m.streets);
            int b = random.nextInt(m.streets);
            if (a != b && !m.linked(a, b)) {
                m.lanes.add(new int[] {a, b});
            }
        }
        int hours = random.nextBoolean() ? 24 : 4;
        for (int i = random.nextInt(7); i > 0; i--) {
            m.men.add(new int[] {random.nextInt(m.streets), random.nextInt(hours), 1 + random.nextInt(24)});
        }
        for (int i = random.nextInt(9); i > 0; i--) {
            m.sleepers.add(new int[] {random.nextInt(m.streets), random.nextInt(hours)});
        }
        m.now = new Scene();
        for (int[] man : m.men) {
            m.now.places.add(man[0]);
            m.now.up.add(true);
            m.now.calls.add(0);
        }
        return m;
    }

    String text() {
        StringBuilder text = new StringBuilder();
        for (int v : worth) {
            text.append("street ").append(v).append(';');
        }
        for (int[] lane : lanes) {
            text.append("lane ").append(lane[0]).append(' ').append(lane[1]).append(';');
        }
        for (int[] man : men) {
            text.append("man ").append(man[0]).append(' ').append(man[1]).append(' ').append(man[2]).append(';');
        }
        for (int[] sleeper : sleepers) {
            text.append("sleeper ").append(sleeper[0]).append(' ').append(sleeper[1]).append(';');
        }
        return text.toString();
    }

    boolean linked(int a, int b) {
        for (int[] lane : lanes) {
            if (lane[0] == a && lane[1] == b || lane[0] == b && lane[1] == a) {
                return true;
            }
        }
        return false;
    }

    int cry(Scene s, int man, int street, int hour) {
        TreeMap<String, Integer> names = new TreeMap<>();
        names.put("hope", men.get(man)[1]);
        names.put("hour", hour);
        names.put("calls", s.calls.get(man));
        names.put("street", street);
        int others = 0;
        for (int other = 0; other < men.size(); other++) {
            if (other != man && s.up.get(other) && s.places.get(other) == street) {
                others++;
            }
        }
        names.put("men", others);
        names.put("walks", men.get(man)[2]);
        names.put("night", s.night);
        names.put("heard", s.heard.getOrDefault(street, 24));
        int value = law == null ? names.get("hope") + names.get("calls") : law.value(names);
        return ((value % 24) + 24) % 24;
    }

    int cry(int man, int street) {
        return cry(now, man, street, now.hour);
    }

    boolean call(Scene s, int man) {
        if (!s.up.get(man)) {
            return false;
        }
        int street = s.places.get(man);
        int hour = cry(s, man, street, s.hour);
        s.heard.put(street, hour);
        for (int i = 0; i < sleepers.size(); i++) {
            if (sleepers.get(i)[0] == street && sleepers.get(i)[1] == hour) {
                s.awake.add(i);
            }
        }
        s.calls.set(man, s.calls.get(man) + 1);
        return true;
    }

    boolean go(Scene s, int man, int street) {
        if (!s.up.get(man) || !linked(s.places.get(man), street)) {
            return false;
        }
        s.places.set(man, street);
        return call(s, man);
    }

    void bed(Scene s, int man) {
        s.up.set(man, !s.up.get(man));
    }

    void hour(Scene s) {
        s.hour = (s.hour + 1) % 24;
        if (s.hour == 0) {
            s.night++;
            s.heard.clear();
            s.awake.clear();
        }
    }

    /** The fewest lanes to each street by streets of these alone, by trying all lanes over and over. */
    int[] far(int from, int open) {
        int[] far = new int[streets];
        java.util.Arrays.fill(far, 99);
        if ((open >> from & 1) == 1) {
            far[from] = 0;
        }
        for (int round = 0; round < streets; round++) {
            for (int[] lane : lanes) {
                if ((open >> lane[0] & 1) == 1 && (open >> lane[1] & 1) == 1) {
                    far[lane[0]] = Math.min(far[lane[0]], far[lane[1]] + 1);
                    far[lane[1]] = Math.min(far[lane[1]], far[lane[0]] + 1);
                }
            }
        }
        for (int i = 0; i < streets; i++) {
            far[i] = far[i] >= 99 ? -1 : far[i];
        }
        return far;
    }

    int[] far(int from) {
        return far(from, 511);
    }

    int past(int from, int to, int hour) {
        int open = 511;
        for (int street : now.heard.keySet()) {
            if (now.heard.get(street) == hour) {
                open &= ~(1 << street);
            }
        }
        return far(from, open)[to];
    }

    int shut(int from, int to) {
        int best = -1;
        for (int closed = 0; closed < 1 << streets; closed++) {
            boolean ends = (closed >> from & 1) == 1 || (closed >> to & 1) == 1;
            if (!ends && far(from, 511 & ~closed)[to] == -1
                    && (best == -1 || Integer.bitCount(closed) < Integer.bitCount(best))) {
                best = closed;
            }
        }
        return best;
    }

    int raise(int told) {
        int best = -1;
        for (int by = 0; by < 1 << men.size(); by++) {
            if ((best == -1 || Integer.bitCount(by) < Integer.bitCount(best)) && unions(by).contains(told)) {
                best = by;
            }
        }
        return best;
    }

    private final TreeMap<Integer, TreeSet<Integer>> unionsByMen = new TreeMap<>();

    /** All sets of sleepers, smaller ones too, that wake if these men each call somewhere. */
    private TreeSet<Integer> unions(int by) {
        if (unionsByMen.containsKey(by)) {
            return unionsByMen.get(by);
        }
        TreeSet<Integer> sets = new TreeSet<>();
        if (by == 0) {
            sets.add(0);
        } else {
            int man = 31 - Integer.numberOfLeadingZeros(by);
            for (int rest : unions(by & ~(1 << man))) {
                for (int street = 0; street < streets; street++) {
                    int woken = wakes(man, street);
                    for (int part = woken;; part = (part - 1) & woken) {
                        sets.add(rest | part);
                        if (part == 0) {
                            break;
                        }
                    }
                }
            }
        }
        unionsByMen.put(by, sets);
        return sets;
    }

    int wakes(int man, int street) {
        int bits = 0;
        for (int i = 0; i < sleepers.size(); i++) {
            if (sleepers.get(i)[0] == street && sleepers.get(i)[1] == cry(man, street)) {
                bits |= 1 << i;
            }
        }
        return bits;
    }

    List<int[]> pairs(TreeMap<Integer, Integer> lines) {
        List<int[]> pairs = new ArrayList<>();
        for (int man = 0; man < men.size(); man++) {
            for (int hour = 0; hour < 24; hour++) {
                boolean fits = true;
                for (int street : lines.keySet()) {
                    fits &= cry(now, man, street, hour) == lines.get(street);
                }
                if (fits) {
                    pairs.add(new int[] {man, hour});
                }
            }
        }
        return pairs;
    }

    /** The street, and how many pairs are left at the worst: by a line more, for each hour it could have. */
    int[] listen() {
        int[] best = {-1, -1};
        for (int street = 0; street < streets; street++) {
            if (!book.containsKey(street)) {
                int worst = 0;
                for (int hour = 0; hour < 24; hour++) {
                    TreeMap<Integer, Integer> more = new TreeMap<>(book);
                    more.put(street, hour);
                    worst = Math.max(worst, pairs(more).size());
                }
                if (best[0] == -1 || worst < best[1]) {
                    best = new int[] {street, worst};
                }
            }
        }
        return best;
    }

    int roster(int hours) {
        int best = -1;
        for (int by = 0; by < 1 << men.size(); by++) {
            int walked = 0;
            for (int man = 0; man < men.size(); man++) {
                for (int t = 0; (by >> man & 1) == 1 && t < men.get(man)[2]; t++) {
                    walked |= 1 << (men.get(man)[1] + t) % 24;
                }
            }
            if ((walked & hours) == hours && (best == -1 || Integer.bitCount(by) < Integer.bitCount(best))) {
                best = by;
            }
        }
        return best;
    }

    /** How many RESTS, the first, what the thief has. */
    int[] thief(int k) {
        int[][] has = new int[streets][streets];
        for (int his = 0; his < streets; his++) {
            for (int lit = 0; lit < streets; lit++) {
                has[his][lit] = worth[his] - (his == lit || linked(his, lit) ? k : 0);
            }
        }
        int[] answer = {0, -1, 0};
        for (int his = 0; his < streets; his++) {
            for (int lit = 0; lit < streets; lit++) {
                int most = has[0][lit];
                int least = has[his][0];
                for (int other = 0; other < streets; other++) {
                    most = Math.max(most, has[other][lit]);
                    least = Math.min(least, has[his][other]);
                }
                if (has[his][lit] == most && has[his][lit] == least) {
                    if (answer[0] == 0) {
                        answer = new int[] {0, 10 * his + lit, most};
                    }
                    answer[0]++;
                }
            }
        }
        return answer;
    }

    /** By giving one to each who can have more, as long as there is enough for all of these. */
    int oil(int man, int told, int n) {
        int[] got = new int[men.size()];
        while (true) {
            List<Integer> thirsty = new ArrayList<>();
            for (int i = 0; i < men.size(); i++) {
                if ((told >> i & 1) == 1 && got[i] < men.get(i)[2]) {
                    thirsty.add(i);
                }
            }
            if (thirsty.isEmpty() || thirsty.size() > n) {
                return got[man];
            }
            for (int i : thirsty) {
                got[i]++;
            }
            n -= thirsty.size();
        }
    }

    /** Goes, wakings, the night, the men who are up, the sleepers who are awake. */
    int[] year(int seed, int steps, int q) {
        Scene s = now.copy();
        long state = seed & 0xffffffffL;
        int goes = 0;
        int wakings = 0;
        for (int i = 0; i < steps && !men.isEmpty(); i++) {
            int[] drawn = new int[3];
            int[] by = {men.size(), streets, 16};
            for (int d = 0; d < 3; d++) {
                state = (state * 1103515245L + 12345L) & 0xffffffffL;
                drawn[d] = (int) ((state / 65536 % 32768) % by[d]);
            }
            int before = s.awake.size();
            if (go(s, drawn[0], drawn[1])) {
                goes++;
            }
            wakings += s.awake.size() - before;
            if (drawn[2] < q) {
                bed(s, drawn[0]);
            }
            hour(s);
        }
        return new int[] {goes, wakings, s.night, upBits(s), awakeBits(s)};
    }

    static int upBits(Scene s) {
        int bits = 0;
        for (int i = 0; i < s.up.size(); i++) {
            bits |= s.up.get(i) ? 1 << i : 0;
        }
        return bits;
    }

    static int awakeBits(Scene s) {
        int bits = 0;
        for (int i : s.awake) {
            bits |= 1 << i;
        }
        return bits;
    }
}
