import java.util.ArrayList;
import java.util.List;
import java.util.Random;
import java.util.TreeMap;

/** Promises 8 to 41 on random cities, laws and works, against the model's answers. */
public final class RandomRunsTest {
    private static final Check CHECK = new Check("RandomRunsTest");
    // an object is used for 512 calls, so each run is made anew for each part of what is looked at
    private static final int TURNS = 12;
    private static final int FIRST_TURNS = 0;
    private static final int LAST_TURNS = 1;
    private static final int FIRST_MEN = 2;
    private static final int LAST_MEN = 3;
    private static final int THE_REST = 4;
    private static int begun;
    private static int done;
    private static int refused;

    public static void main(String[] args) {
        for (int seed = 1; seed <= 400; seed++) {
            for (int part = FIRST_TURNS; part <= THE_REST; part++) {
                run(new Random(seed), part);
            }
        }
        CHECK.end();
    }

    private static void run(Random random, int part) {
        Model m = Model.random(random);
        HopedHours x = Check.made(m.text());
        List<Model.Scene> undo = new ArrayList<>();
        List<List<Model.Scene>> images = new ArrayList<>();
        for (int turn = 0; turn < TURNS; turn++) {
            change(random, m, x, undo, images);
            if (part == (turn < TURNS / 2 ? FIRST_TURNS : LAST_TURNS)) {
                state(m, x);
                CHECK.due("works", x.count(2), undo.size());
                CHECK.due("images", x.count(0), images.size());
            }
        }
        if (part == FIRST_MEN || part == LAST_MEN) {
            int from = part == FIRST_MEN ? 0 : 3;
            for (int man = from; man < from + 3 && man < m.men.size(); man++) {
                ofMan(random, m, x, man);
            }
            state(m, x);
        } else if (part == THE_REST) {
            asked(random, m, x);
            state(m, x);
        }
    }

    private static void change(Random random, Model m, HopedHours x, List<Model.Scene> undo,
            List<List<Model.Scene>> images) {
        int kind = random.nextInt(10);
        if (kind == 0) {
            law(random, m, x);
        } else if (kind == 1) {
            book(random, m, x);
        } else if (kind == 2) {
            CHECK.due("undo", x.undo(), undo.size() - 1);
            if (!undo.isEmpty()) {
                m.now = undo.remove(undo.size() - 1).copy();
                CHECK.due("refused behind undo", x.told(9), 0);
            }
        } else if (kind == 3) {
            CHECK.due("image", x.image(), images.size() == 3 ? -1 : images.size() + 1);
            if (images.size() < 3) {
                List<Model.Scene> image = new ArrayList<>(undo);
                image.add(m.now.copy());
                images.add(image);
            }
        } else if (kind == 4) {
            CHECK.due("restore", x.restore(), images.size() - 1);
            if (!images.isEmpty()) {
                List<Model.Scene> image = images.remove(images.size() - 1);
                m.now = image.remove(image.size() - 1).copy();
                undo.clear();
                undo.addAll(image);
                CHECK.due("refused behind restore", x.told(9), 0);
            }
        } else {
            undo.add(m.now.copy());
            work(random, m, x);
        }
    }

    private static void law(Random random, Model m, HopedHours x) {
        Model.Term law = Model.Term.random(random, 3);
        if (law.text().length() <= 150) {
            m.law = law;
            CHECK.due("law " + law.text(), Check.law(x, law.text()), 1);
        }
    }

    private static void book(Random random, Model m, HopedHours x) {
        TreeMap<Integer, Integer> lines = new TreeMap<>();
        int man = m.men.isEmpty() ? -1 : random.nextInt(m.men.size());
        int hour = random.nextInt(24);
        for (int i = random.nextInt(3); i > 0; i--) {
            int street = random.nextInt(m.streets);
            // mostly what somebody would say, so that pairs are left
            lines.put(street, man == -1 || random.nextInt(9) == 0 ? random.nextInt(24) : m.cry(m.now, man, street, hour));
        }
        StringBuilder text = new StringBuilder();
        for (int street : lines.keySet()) {
            text.append(street).append(' ').append(lines.get(street)).append(';');
        }
        m.book = lines;
        CHECK.due("book", Check.book(x, text.toString()), lines.size());
    }

    private static void work(Random random, Model m, HopedHours x) {
        List<Object[]> steps = steps(random, m, 2 + random.nextInt(4), 3);
        while (text(steps).length() > 150) {
            steps.remove(steps.size() - 1);
        }
        begun = 0;
        done = 0;
        refused = 0;
        perform(m, steps);
        CHECK.due("work " + text(steps), Check.work(x, text(steps)), done);
        CHECK.due("refused", x.told(9), refused);
    }

    private static List<Object[]> steps(Random random, Model m, int many, int depth) {
        List<Object[]> steps = new ArrayList<>();
        for (int i = 0; i < many; i++) {
            int kind = random.nextInt(12);
            if (kind == 0 && depth > 0) {
                steps.add(new Object[] {"again", random.nextInt(8), steps(random, m, random.nextInt(4), depth - 1)});
            } else if (kind < 3 || m.men.isEmpty()) {
                steps.add(new Object[] {"hour"});
            } else if (kind < 5) {
                steps.add(new Object[] {"call", random.nextInt(m.men.size())});
            } else if (kind < 6) {
                steps.add(new Object[] {"bed", random.nextInt(m.men.size())});
            } else {
                steps.add(new Object[] {"go", random.nextInt(m.men.size()), random.nextInt(m.streets)});
            }
        }
        return steps;
    }

    @SuppressWarnings("unchecked")
    private static String text(List<Object[]> steps) {
        StringBuilder text = new StringBuilder();
        for (Object[] step : steps) {
            text.append(step[0]);
            for (int i = 1; i < step.length; i++) {
                text.append(' ');
                text.append(step[i] instanceof List ? "[" + text((List<Object[]>) step[i]) + "]" : step[i]);
            }
            text.append(';');
        }
        return text.toString();
    }

    @SuppressWarnings("unchecked")
    private static void perform(Model m, List<Object[]> steps) {
        for (Object[] step : steps) {
            if (begun == 200) {
                return;
            }
            begun++;
            boolean could = true;
            if (step[0].equals("again")) {
                for (int i = (Integer) step[1]; i > 0; i--) {
                    perform(m, (List<Object[]>) step[2]);
                }
                continue;
            } else if (step[0].equals("hour")) {
                m.hour(m.now);
            } else if (step[0].equals("bed")) {
                m.bed(m.now, (Integer) step[1]);
            } else if (step[0].equals("call")) {
                could = m.call(m.now, (Integer) step[1]);
            } else {
                could = m.go(m.now, (Integer) step[1], (Integer) step[2]);
            }
            done += could ? 1 : 0;
            refused += could ? 0 : 1;
        }
    }

    private static void state(Model m, HopedHours x) {
        CHECK.due("hour", x.told(4), m.now.hour);
        CHECK.due("night", x.told(5), m.now.night);
        CHECK.due("up", x.told(6), Model.upBits(m.now));
        CHECK.due("awake", x.told(7), Model.awakeBits(m.now));
        CHECK.due("lines", x.told(8), m.book.size());
        CHECK.due("calls", x.told(10), m.now.calls.stream().mapToInt(i -> i).sum());
        for (int man = 0; man < m.men.size(); man++) {
            CHECK.due("place", x.man(man, 0), m.now.places.get(man));
            CHECK.due("his calls", x.man(man, 3), m.now.calls.get(man));
        }
        int silent = 0;
        for (int street = 0; street < m.streets; street++) {
            CHECK.due("heard", x.street(street, 4), m.now.heard.getOrDefault(street, -1));
            silent |= m.now.heard.containsKey(street) ? 0 : 1 << street;
        }
        CHECK.due("silent", x.silent(), silent);
    }

    private static void asked(Random random, Model m, HopedHours x) {
        for (int sleeper = 0; sleeper < m.sleepers.size(); sleeper++) {
            waker(m, x, sleeper);
        }
        for (int a = 0; a < m.streets; a++) {
            int b = random.nextInt(m.streets);
            CHECK.due("way", x.way(a, b), m.far(a)[b]);
            int hour = m.now.heard.getOrDefault(random.nextInt(m.streets), random.nextInt(24));
            CHECK.due("past", x.past(a, b, hour), m.past(a, b, hour));
            if (a != b) {
                CHECK.due("shut", x.shut(a, b), m.shut(a, b));
            }
        }
        for (int i = 0; i < 5; i++) {
            int told = random.nextInt(1 << m.sleepers.size()) & random.nextInt(1 << m.sleepers.size());
            CHECK.due("raise " + told, x.raise(told), m.raise(told));
            int hours = random.nextInt(1 << 24) & random.nextInt(1 << 24);
            CHECK.due("roster " + hours, x.roster(hours), m.roster(hours));
        }
        guesses(m, x);
        thiefAndYears(random, m, x);
        pairsAndMosts(m, x);
    }

    private static void ofMan(Random random, Model m, HopedHours x, int man) {
        int[] far = m.far(m.now.places.get(man));
        int range = 0;
        int reach = 0;
        int farthest = 0;
        int[][] nearest = new int[24][];
        for (int street = 0; street < m.streets; street++) {
            int hour = m.cry(man, street);
            range |= 1 << hour;
            CHECK.due("says", x.says(man, street), hour);
            CHECK.due("wakes", x.wakes(man, street), m.wakes(man, street));
            if (far[street] >= 0) {
                reach |= 1 << street;
                farthest = far[street] > far[farthest] || far[farthest] < 0 ? street : farthest;
                if (nearest[hour] == null || far[street] < nearest[hour][0]) {
                    nearest[hour] = new int[] {far[street], street};
                }
            }
        }
        CHECK.due("range", x.range(man), range);
        CHECK.due("reach", x.reach(man), reach);
        CHECK.due("farthest", x.farthest(man, 0), far[farthest]);
        CHECK.due("farthest", x.farthest(man, 1), farthest);
        for (int hour = 0; hour < 24; hour++) {
            CHECK.due("nearest", x.nearest(man, hour, 0), nearest[hour] == null ? -1 : nearest[hour][0]);
            CHECK.due("nearest", x.nearest(man, hour, 1), nearest[hour] == null ? -1 : nearest[hour][1]);
        }
        int late = 0;
        int home = m.cry(man, m.now.places.get(man));
        while ((home + late) % 24 != m.now.hour && (home + 24 - late) % 24 != m.now.hour) {
            late++;
        }
        CHECK.due("late", x.late(man), late);
        int told = random.nextInt(1 << m.men.size());
        int n = random.nextInt(100);
        CHECK.due("oil " + told + " " + n, x.oil(man, told, n), m.oil(man, told, n));
    }

    private static void waker(Model m, HopedHours x, int sleeper) {
        int street = m.sleepers.get(sleeper)[0];
        int[] far = m.far(street);
        int best = -1;
        for (int man = 0; man < m.men.size(); man++) {
            int lanes = far[m.now.places.get(man)];
            if (lanes >= 0 && m.cry(man, street) == m.sleepers.get(sleeper)[1]
                    && (best == -1 || lanes < far[m.now.places.get(best)])) {
                best = man;
            }
        }
        CHECK.due("waker", x.waker(sleeper, 0), best);
        CHECK.due("waker", x.waker(sleeper, 1), best == -1 ? -1 : far[m.now.places.get(best)]);
    }

    private static void guesses(Model m, HopedHours x) {
        List<int[]> pairs = m.pairs(m.book);
        int men = 0;
        for (int[] pair : pairs) {
            men |= 1 << pair[0];
        }
        CHECK.due("who 0", x.who(0), pairs.size());
        CHECK.due("who 1", x.who(1), pairs.isEmpty() ? -1 : 100 * pairs.get(0)[0] + pairs.get(0)[1]);
        CHECK.due("who 2", x.who(2), men);
        int[] listen = m.listen();
        CHECK.due("listen 0", x.listen(0), listen[0]);
        CHECK.due("listen 1", x.listen(1), listen[1]);
    }

    private static void thiefAndYears(Random random, Model m, HopedHours x) {
        int k = random.nextInt(random.nextBoolean() ? 61 : 5);
        for (int what = 0; what < 3; what++) {
            CHECK.due("thief " + k + " " + what, x.thief(k, what), m.thief(k)[what]);
        }
        int seed = random.nextInt();
        int steps = 1 + random.nextInt(96);
        int q = random.nextInt(17);
        int many = 1 + random.nextInt(20);
        for (int what = 0; what < 4; what++) {
            CHECK.due("year " + what, x.year(seed, steps, q, what), m.year(seed, steps, q)[what]);
        }
        int sleeper = m.sleepers.isEmpty() ? -1 : random.nextInt(m.sleepers.size());
        int fewest = Integer.MAX_VALUE;
        int most = 0;
        int awake = 0;
        for (int i = 0; i < many; i++) {
            int[] year = m.year(seed + i, steps, q);
            fewest = Math.min(fewest, year[1]);
            most = Math.max(most, year[1]);
            awake += sleeper >= 0 ? year[4] >> sleeper & 1 : 0;
        }
        if (sleeper >= 0) {
            CHECK.due("span 0", x.span(seed, many, steps, q, 0, sleeper), fewest);
            CHECK.due("span 1", x.span(seed, many, steps, q, 1, sleeper), most);
            CHECK.due("span 2", x.span(seed, many, steps, q, 2, sleeper), awake);
        }
    }

    private static void pairsAndMosts(Model m, HopedHours x) {
        int agree = 0;
        int first = -1;
        int busiest = -1;
        for (int i = m.men.size() - 1; i >= 0; i--) {
            for (int j = m.men.size() - 1; j > i; j--) {
                if (m.cry(i, m.now.places.get(i)) == m.cry(j, m.now.places.get(j))) {
                    agree++;
                    first = 10 * i + j;
                }
            }
            if (m.now.calls.get(i) > 0 && (busiest == -1 || m.now.calls.get(i) >= m.now.calls.get(busiest))) {
                busiest = i;
            }
        }
        CHECK.due("agree 0", x.agree(0), agree);
        CHECK.due("agree 1", x.agree(1), first);
        CHECK.due("busiest 0", x.busiest(0), busiest);
        CHECK.due("busiest 1", x.busiest(1), busiest == -1 ? -1 : m.now.calls.get(busiest));
        int[] asleep = new int[m.streets];
        int deepest = 0;
        for (int i = 0; i < m.sleepers.size(); i++) {
            asleep[m.sleepers.get(i)[0]] += m.now.awake.contains(i) ? 0 : 1;
        }
        for (int street = 0; street < m.streets; street++) {
            deepest = asleep[street] > asleep[deepest] ? street : deepest;
        }
        CHECK.due("deepest 0", x.deepest(0), asleep[deepest] == 0 ? -1 : deepest);
        CHECK.due("deepest 1", x.deepest(1), asleep[deepest] == 0 ? -1 : asleep[deepest]);
        for (int hour = 0; hour < 24; hour++) {
            int bits = 0;
            for (int street : m.now.heard.keySet()) {
                bits |= m.now.heard.get(street) == hour ? 1 << street : 0;
            }
            CHECK.due("sounds", x.sounds(hour), bits);
        }
    }
}
