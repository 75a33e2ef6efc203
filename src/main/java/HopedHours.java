import java.util.Arrays;
import java.util.NoSuchElementException;

/** A city whose watchmen cry the hour they would like it to be. */
public final class HopedHours {
    public static final int NONE = -1;

    private static final int STREETS = 9;
    private static final int LANES = 14;
    private static final int MEN = 6;
    private static final int SLEEPERS = 8;
    private static final int CLAUSES = 60;
    private static final int HOURS = 24;
    private static final int LAST_NIGHT = 300;

    private static final int TAPE_BYTES = 600;
    private static final int LAW_BYTES = 150;
    private static final int WORK_BYTES = 150;
    private static final int BOOK_BYTES = 60;
    private static final int FED_NUMBERS = 5;
    private static final int NUMBER_BYTES = 4;

    private static final int WORKS = 16;
    private static final int IMAGES = 3;
    private static final int STEPS_BEGUN = 200;
    private static final int TURNS = 60;
    private static final int DEEPEST_OPEN = 6;

    private static final int MISPLACED = 1;
    private static final int WRONG_NUMBER = 2;
    private static final int TOO_MANY = 3;
    private static final int FAULT_SHIFT = 10;
    private static final int WORKS_FULL = -20;

    private static final int LEAST = '<';
    private static final int MOST = '>';

    private final Text text = new Text();
    private final Watch watch = new Watch();
    private final City draftCity = new City();
    private final Law draftLaw = new Law();
    private final Book book = new Book();
    private final Book draftBook = new Book();
    private final Work worker = new Work();
    private final History history = new History();
    private final History[] images = new History[IMAGES];
    private final Rousing rousing = new Rousing();
    private final Guess guess = new Guess();
    private final Years years = new Years();
    private final int[] given = new int[Law.NAMES];
    private int imagesKept = 0;
    private int stepsRefused = 0;
    private int missing = 0;
    private int wrongArguments = 0;

    public HopedHours() {
        for (int i = 0; i < images.length; i++) {
            images[i] = new History();
        }
    }

    // ---- texts ----

    public int feed(int a, int b, int c, int d, int e) {
        if (!text.hasRoom(FED_NUMBERS * NUMBER_BYTES)) {
            return NONE;
        }
        text.append(a);
        text.append(b);
        text.append(c);
        text.append(d);
        text.append(e);
        return text.size;
    }

    public int city(int n) throws IllegalArgumentException {
        needArgument(text.holds(n, TAPE_BYTES));
        text.open(n);
        draftCity.read(text);
        text.drop();
        if (!text.good()) {
            return text.kind - FAULT_SHIFT;
        }
        watch.city.copy(draftCity);
        watch.law.clear();
        book.clear();
        history.begin(watch.city);
        imagesKept = 0;
        stepsRefused = 0;
        return watch.city.men;
    }

    public int law(int n) throws IllegalArgumentException {
        needArgument(text.holds(n, LAW_BYTES));
        text.open(n);
        draftLaw.read(text);
        text.drop();
        if (!text.good()) {
            return text.kind - FAULT_SHIFT;
        }
        watch.law.copy(draftLaw);
        return 1;
    }

    public int work(int n) throws IllegalArgumentException {
        needArgument(text.holds(n, WORK_BYTES));
        if (history.works >= WORKS) {
            text.open(0);
            text.drop();
            return WORKS_FULL;
        }
        text.open(n);
        worker.read(text, watch.city);
        text.drop();
        if (!text.good()) {
            return text.kind - FAULT_SHIFT;
        }
        history.keep();
        worker.perform(watch, history.now);
        stepsRefused = worker.refused;
        return worker.done;
    }

    public int book(int n) throws IllegalArgumentException {
        needArgument(text.holds(n, BOOK_BYTES));
        text.open(n);
        draftBook.read(text, watch.city);
        text.drop();
        if (!text.good()) {
            return text.kind - FAULT_SHIFT;
        }
        book.copy(draftBook);
        return book.lines;
    }

    public int fault() {
        return text.place;
    }

    public int undo() {
        if (!history.goBack()) {
            return NONE;
        }
        stepsRefused = 0;
        return history.works;
    }

    // ---- what there is ----

    public int told(int what) throws IllegalArgumentException {
        City city = watch.city;
        Night now = history.now;
        switch (what) {
            case 0: return city.streets;
            case 1: return city.lanes;
            case 2: return city.men;
            case 3: return city.sleepers;
            case 4: return now.hour;
            case 5: return now.number;
            case 6: return now.up;
            case 7: return now.awake;
            case 8: return book.lines;
            case 9: return stepsRefused;
            case 10: return now.allCalls();
            default: return refuseArgument();
        }
    }

    public int street(int street, int what) throws NoSuchElementException, IllegalArgumentException {
        City city = watch.city;
        needElement(city.hasStreet(street));
        switch (what) {
            case 0: return at(city.worth, street);
            case 1: return at(city.besides, street);
            case 2: return places(history.now.place, city.men, street);
            case 3: return places(city.sleeperStreet, city.sleepers, street);
            case 4: return history.now.heardIn(street) == HOURS ? NONE : history.now.heardIn(street);
            default: return refuseArgument();
        }
    }

    public int lane(int lane, int what) throws NoSuchElementException, IllegalArgumentException {
        City city = watch.city;
        needElement(lane >= 0 && lane < city.lanes);
        switch (what) {
            case 0: return at(city.laneFrom, lane);
            case 1: return at(city.laneTo, lane);
            default: return refuseArgument();
        }
    }

    public int man(int man, int what) throws NoSuchElementException, IllegalArgumentException {
        City city = watch.city;
        Night now = history.now;
        needElement(city.hasMan(man));
        switch (what) {
            case 0: return at(now.place, man);
            case 1: return at(city.hope, man);
            case 2: return at(city.walks, man);
            case 3: return at(now.calls, man);
            case 4: return now.isUp(man) ? 1 : 0;
            default: return refuseArgument();
        }
    }

    public int sleeper(int sleeper, int what) throws NoSuchElementException, IllegalArgumentException {
        City city = watch.city;
        needElement(city.hasSleeper(sleeper));
        switch (what) {
            case 0: return at(city.sleeperStreet, sleeper);
            case 1: return at(city.sleeperHour, sleeper);
            case 2: return hasBit(history.now.awake, sleeper) ? 1 : 0;
            default: return refuseArgument();
        }
    }

    // ---- what is called ----

    public int would(int hope, int hour, int calls, int street, int men, int walks, int night, int heard)
            throws IllegalArgumentException {
        needArgument(isHour(hope) && isHour(hour) && within(calls, 0, 999) && within(street, 0, STREETS - 1));
        needArgument(within(men, 0, MEN - 1) && within(walks, 1, HOURS));
        needArgument(within(night, 0, LAST_NIGHT) && within(heard, 0, HOURS));
        put(given, Law.HOPE, hope);
        put(given, Law.HOUR, hour);
        put(given, Law.CALLS, calls);
        put(given, Law.STREET, street);
        put(given, Law.OTHERS, men);
        put(given, Law.WALKS, walks);
        put(given, Law.NIGHT, night);
        put(given, Law.HEARD, heard);
        return watch.law.hourFor(given);
    }

    public int says(int man, int street) throws NoSuchElementException {
        needElement(watch.city.hasMan(man) && watch.city.hasStreet(street));
        return cryIn(man, street);
    }

    public int wakes(int man, int street) throws NoSuchElementException {
        needElement(watch.city.hasMan(man) && watch.city.hasStreet(street));
        return watch.city.sleepersAt(street, cryIn(man, street));
    }

    public int nearest(int man, int hour, int what) throws NoSuchElementException, IllegalArgumentException {
        City city = watch.city;
        needElement(city.hasMan(man));
        needArgument(isHour(hour) && isChoice(what, 2));
        int wanted = 0;
        for (int street = 0; street < city.streets; street++) {
            if (cryIn(man, street) == hour) {
                wanted |= 1 << street;
            }
        }
        int come = 1 << at(history.now.place, man);
        for (int lanes = 0; lanes < STREETS; lanes++) {
            if ((come & wanted) != 0) {
                return what == 0 ? lanes : lowestBit(come & wanted);
            }
            come = city.grown(come, city.allStreets());
        }
        return NONE;
    }

    public int raise(int sleepers) throws IllegalArgumentException {
        needArgument(isOf(sleepers, watch.city.sleepers));
        return rousing.fewestMen(watch, history.now, sleepers);
    }

    public int who(int what) throws IllegalArgumentException {
        needArgument(isChoice(what, 3));
        guess.match(watch, history.now, book);
        if (what == 0) {
            return guess.size;
        }
        return what == 1 ? guess.first() : guess.men();
    }

    public int listen(int what) throws IllegalArgumentException {
        needArgument(isChoice(what, 2));
        guess.match(watch, history.now, book);
        int best = NONE;
        int fewest = NONE;
        for (int street = 0; street < watch.city.streets; street++) {
            if (book.hourOf(street) == NONE) {
                int left = guess.leftAtWorst(watch, history.now, street);
                if (best == NONE || left < fewest) {
                    best = street;
                    fewest = left;
                }
            }
        }
        return what == 0 ? best : fewest;
    }

    // ---- ways ----

    public int way(int street, int other) throws NoSuchElementException {
        City city = watch.city;
        needElement(city.hasStreet(street) && city.hasStreet(other));
        return city.lanesBetween(street, other, city.allStreets());
    }

    public int past(int street, int other, int hour) throws NoSuchElementException, IllegalArgumentException {
        City city = watch.city;
        needElement(city.hasStreet(street) && city.hasStreet(other));
        needArgument(isHour(hour));
        return city.lanesBetween(street, other, city.allStreets() & ~heardAt(hour));
    }

    public int shut(int street, int other) throws NoSuchElementException, IllegalArgumentException {
        City city = watch.city;
        needElement(city.hasStreet(street) && city.hasStreet(other));
        needArgument(street != other);
        int ends = 1 << street | 1 << other;
        int fewest = STREETS;
        int best = NONE;
        for (int closed = 0; closed <= city.allStreets(); closed++) {
            boolean fewer = (closed & ends) == 0 && Integer.bitCount(closed) < fewest;
            if (fewer && city.lanesBetween(street, other, city.allStreets() & ~closed) == NONE) {
                fewest = Integer.bitCount(closed);
                best = closed;
            }
        }
        return best;
    }

    // ---- reckonings ----

    public long believe(int n, int q, int part) throws IllegalArgumentException {
        needArgument(within(n, 1, 9) && n % 2 == 1 && within(q, 0, 16) && isChoice(part, 2));
        long above = 0;
        for (int right = n / 2 + 1; right <= n; right++) {
            above += choices(n, right) * power(q, right) * power(16 - q, n - right);
        }
        long below = power(16, n);
        // what is below is a power of two, so halving both is all that least terms need
        for (int halves = 0; halves < 4 * n && above % 2 == 0 && below % 2 == 0; halves++) {
            above /= 2;
            below /= 2;
        }
        return part == 0 ? above : below;
    }

    public int roster(int hours) throws IllegalArgumentException {
        City city = watch.city;
        needArgument(isOf(hours, HOURS));
        int fewest = MEN + 1;
        int best = NONE;
        for (int men = 0; men < 1 << city.men; men++) {
            if (Integer.bitCount(men) < fewest && (hours & ~city.hoursWalked(men)) == 0) {
                fewest = Integer.bitCount(men);
                best = men;
            }
        }
        return best;
    }

    public int thief(int k, int what) throws IllegalArgumentException {
        City city = watch.city;
        needArgument(within(k, 0, 60) && isChoice(what, 3));
        int many = 0;
        int first = NONE;
        int loot = 0;
        for (int his = 0; his < city.streets; his++) {
            for (int lit = 0; lit < city.streets; lit++) {
                if (city.isRest(his, lit, k)) {
                    if (many == 0) {
                        first = 10 * his + lit;
                        loot = city.loot(his, lit, k);
                    }
                    many++;
                }
            }
        }
        if (what == 0) {
            return many;
        }
        return what == 1 ? first : loot;
    }

    public int oil(int man, int men, int n) throws NoSuchElementException, IllegalArgumentException {
        City city = watch.city;
        needElement(city.hasMan(man));
        needArgument(isOf(men, city.men) && within(n, 0, 999));
        int bound = 0;
        for (int level = 1; level <= HOURS; level++) {
            if (city.oilGiven(men, level) <= n) {
                bound = level;
            }
        }
        return hasBit(men, man) ? Math.min(at(city.walks, man), bound) : 0;
    }

    // ---- the night as it is ----

    public int sounds(int hour) throws IllegalArgumentException {
        needArgument(isHour(hour));
        return heardAt(hour);
    }

    public int busiest(int what) throws IllegalArgumentException {
        needArgument(isChoice(what, 2));
        int best = NONE;
        int most = 0;
        for (int man = 0; man < watch.city.men; man++) {
            if (at(history.now.calls, man) > most) {
                most = at(history.now.calls, man);
                best = man;
            }
        }
        return what == 0 || best == NONE ? best : most;
    }

    public int reach(int man) throws NoSuchElementException {
        City city = watch.city;
        needElement(city.hasMan(man));
        int come = 1 << at(history.now.place, man);
        for (int lanes = 0; lanes < STREETS; lanes++) {
            come = city.grown(come, city.allStreets());
        }
        return come;
    }

    public int range(int man) throws NoSuchElementException {
        needElement(watch.city.hasMan(man));
        int hours = 0;
        for (int street = 0; street < watch.city.streets; street++) {
            hours |= 1 << cryIn(man, street);
        }
        return hours;
    }

    public int silent() {
        return heardAt(HOURS);
    }

    public int late(int man) throws NoSuchElementException {
        needElement(watch.city.hasMan(man));
        int apart = Math.floorMod(cryAtHome(man) - history.now.hour, HOURS);
        return Math.min(apart, HOURS - apart);
    }

    public int agree(int what) throws IllegalArgumentException {
        needArgument(isChoice(what, 2));
        int many = 0;
        int first = NONE;
        for (int man = 0; man < watch.city.men; man++) {
            int hour = cryAtHome(man);
            for (int other = man + 1; other < watch.city.men; other++) {
                if (cryAtHome(other) == hour) {
                    first = many == 0 ? 10 * man + other : first;
                    many++;
                }
            }
        }
        return what == 0 ? many : first;
    }

    public int waker(int sleeper, int what) throws NoSuchElementException, IllegalArgumentException {
        City city = watch.city;
        needElement(city.hasSleeper(sleeper));
        needArgument(isChoice(what, 2));
        int street = at(city.sleeperStreet, sleeper);
        int best = NONE;
        int fewest = NONE;
        for (int man = 0; man < city.men; man++) {
            int lanes = city.lanesBetween(at(history.now.place, man), street, city.allStreets());
            boolean nearer = lanes != NONE && (best == NONE || lanes < fewest);
            if (nearer && cryIn(man, street) == at(city.sleeperHour, sleeper)) {
                best = man;
                fewest = lanes;
            }
        }
        return what == 0 ? best : fewest;
    }

    public int deepest(int what) throws IllegalArgumentException {
        City city = watch.city;
        needArgument(isChoice(what, 2));
        int best = NONE;
        int most = 0;
        for (int street = 0; street < city.streets; street++) {
            int asleep = places(city.sleeperStreet, city.sleepers, street) & ~history.now.awake;
            if (Integer.bitCount(asleep) > most) {
                most = Integer.bitCount(asleep);
                best = street;
            }
        }
        return what == 0 || best == NONE ? best : most;
    }

    public int farthest(int man, int what) throws NoSuchElementException, IllegalArgumentException {
        City city = watch.city;
        needElement(city.hasMan(man));
        needArgument(isChoice(what, 2));
        int come = 1 << at(history.now.place, man);
        int edge = come;
        int lanes = 0;
        for (int far = 1; far < STREETS; far++) {
            int more = city.grown(come, city.allStreets());
            if (more != come) {
                edge = more & ~come;
                lanes = far;
            }
            come = more;
        }
        return what == 0 ? lanes : lowestBit(edge);
    }

    // ---- years ----

    public int year(int seed, int steps, int q, int what) throws IllegalArgumentException {
        needArgument(isYear(steps, q) && isChoice(what, 4));
        years.live(watch, history.now, seed, steps, q);
        switch (what) {
            case 0: return years.goes;
            case 1: return years.wakings;
            case 2: return years.night.number;
            default: return years.night.up;
        }
    }

    public int span(int seed, int many, int steps, int q, int what, int sleeper) throws IllegalArgumentException {
        needArgument(within(many, 1, 20) && isYear(steps, q) && isChoice(what, 3));
        needArgument(watch.city.hasSleeper(sleeper));
        int fewest = NONE;
        int most = 0;
        int awake = 0;
        for (int i = 0; i < many; i++) {
            years.live(watch, history.now, seed + i, steps, q);
            fewest = i == 0 ? years.wakings : Math.min(fewest, years.wakings);
            most = Math.max(most, years.wakings);
            awake += hasBit(years.night.awake, sleeper) ? 1 : 0;
        }
        if (what == 0) {
            return fewest;
        }
        return what == 1 ? most : awake;
    }

    // ---- images, counts ----

    public int image() {
        History image = imageAt(imagesKept);
        if (image == null) {
            return NONE;
        }
        image.copy(history);
        imagesKept++;
        return imagesKept;
    }

    public int restore() {
        History image = imageAt(imagesKept - 1);
        if (image == null) {
            return NONE;
        }
        history.copy(image);
        imagesKept--;
        stepsRefused = 0;
        return imagesKept;
    }

    public int status(int what) {
        if (what == 0) {
            return missing;
        }
        return what == 1 ? wrongArguments : NONE;
    }

    public int count(int what) {
        switch (what) {
            case 0: return imagesKept;
            case 1: return text.size;
            case 2: return history.works;
            default: return NONE;
        }
    }

    // ---- helpers of the face ----

    private void needElement(boolean there) {
        if (!there) {
            missing++;
            throw new NoSuchElementException("no such street, lane, man or sleeper");
        }
    }

    private void needArgument(boolean fit) {
        if (!fit) {
            wrongArguments++;
            throw new IllegalArgumentException("an argument is out of its range");
        }
    }

    private int refuseArgument() {
        needArgument(false);
        return NONE;
    }

    private History imageAt(int i) {
        return i >= 0 && i < images.length ? images[i] : null;
    }

    private int cryIn(int man, int street) {
        return watch.cry(history.now, man, street, history.now.hour);
    }

    private int cryAtHome(int man) {
        return cryIn(man, at(history.now.place, man));
    }

    private int heardAt(int hour) {
        return places(history.now.heard, watch.city.streets, hour);
    }

    private static boolean isYear(int steps, int q) {
        return within(steps, 1, 96) && within(q, 0, 16);
    }

    private static boolean isHour(int hour) {
        return within(hour, 0, HOURS - 1);
    }

    private static boolean isChoice(int what, int choices) {
        return within(what, 0, choices - 1);
    }

    private static boolean isOf(int bits, int many) {
        return bits >= 0 && bits < 1 << many;
    }

    private static boolean within(int value, int least, int most) {
        return value >= least && value <= most;
    }

    private static boolean hasBit(int bits, int i) {
        return (bits >> i & 1) == 1;
    }

    private static int lowestBit(int bits) {
        return Integer.numberOfTrailingZeros(bits);
    }

    /** Bits of the first so many places of a row that hold a value. */
    private static int places(int[] row, int many, int value) {
        int bits = 0;
        for (int i = 0; i < many && i < row.length; i++) {
            if (row[i] == value) {
                bits |= 1 << i;
            }
        }
        return bits;
    }

    private static int at(int[] row, int i) {
        return i >= 0 && i < row.length ? row[i] : 0;
    }

    private static void put(int[] row, int i, int value) {
        if (i >= 0 && i < row.length) {
            row[i] = value;
        }
    }

    private static void copyRow(int[] from, int[] to) {
        System.arraycopy(from, 0, to, 0, Math.min(from.length, to.length));
    }

    private static long choices(int n, int taken) {
        long ways = 1;
        for (int i = 1; i <= taken; i++) {
            ways = ways * (n - taken + i) / i;
        }
        return ways;
    }

    private static long power(int base, int times) {
        long product = 1;
        for (int i = 0; i < times; i++) {
            product *= base;
        }
        return product;
    }

    /** The TAPE, and the reading of a text from it; behind the first FAULT nothing more is read. */
    private static final class Text {
        private final int[] tape = new int[TAPE_BYTES];
        int size = 0;
        int kind = 0;
        int place = NONE;
        private int length = 0;
        private int next = 0;
        private int mark = 0;

        boolean hasRoom(int bytes) {
            return size + bytes <= TAPE_BYTES;
        }

        boolean holds(int bytes, int most) {
            return bytes >= 0 && bytes <= most && bytes <= size;
        }

        void append(int number) {
            for (int shift = 24; shift >= 0; shift -= 8) {
                put(tape, size, number >>> shift & 255);
                size++;
            }
        }

        void open(int bytes) {
            length = bytes;
            next = 0;
            mark = 0;
            kind = 0;
            place = NONE;
        }

        void drop() {
            size = 0;
        }

        boolean good() {
            return kind == 0;
        }

        /** A FAULT at the first byte of what was looked at last. */
        void refuse(int fault) {
            if (kind == 0) {
                kind = fault;
                place = mark;
            }
        }

        /** The next sign behind blanks, NONE at the end. */
        int look() {
            while (next < length && at(tape, next) == ' ') {
                next++;
            }
            mark = next;
            return next < length ? at(tape, next) : NONE;
        }

        boolean ended() {
            return look() == NONE;
        }

        void pass() {
            next++;
        }

        boolean needSign(int sign) {
            if (good() && look() == sign) {
                pass();
            } else if (good()) {
                refuse(MISPLACED);
            }
            return good();
        }

        int number(int least, int most) {
            if (!good()) {
                return 0;
            }
            if (!isDigit(look())) {
                refuse(MISPLACED);
                return 0;
            }
            int value = 0;
            while (next < length && isDigit(at(tape, next))) {
                // 1000 is above all numbers that may stand in a text, and more digits must not wrap
                value = Math.min(1000, value * 10 + at(tape, next) - '0');
                next++;
            }
            if (!within(value, least, most)) {
                refuse(WRONG_NUMBER);
                return 0;
            }
            return value;
        }

        void word() {
            look();
            while (next < length && isLetter(at(tape, next))) {
                next++;
            }
        }

        /** Whether the word read last is this one. */
        boolean isWord(String name) {
            if (next - mark != name.length()) {
                return false;
            }
            for (int i = 0; i < name.length(); i++) {
                if (at(tape, mark + i) != name.charAt(i)) {
                    return false;
                }
            }
            return true;
        }

        static boolean isDigit(int sign) {
            return sign >= '0' && sign <= '9';
        }

        private static boolean isLetter(int sign) {
            return sign >= 'a' && sign <= 'z';
        }
    }

    /** What a CITY tells: it changes by no WORK. */
    private static final class City {
        int streets = 0;
        int lanes = 0;
        int men = 0;
        int sleepers = 0;
        private int clauses = 0;
        final int[] worth = new int[STREETS];
        final int[] besides = new int[STREETS];
        final int[] laneFrom = new int[LANES];
        final int[] laneTo = new int[LANES];
        final int[] manStreet = new int[MEN];
        final int[] hope = new int[MEN];
        final int[] walks = new int[MEN];
        final int[] sleeperStreet = new int[SLEEPERS];
        final int[] sleeperHour = new int[SLEEPERS];

        void copy(City other) {
            streets = other.streets;
            lanes = other.lanes;
            men = other.men;
            sleepers = other.sleepers;
            clauses = other.clauses;
            copyRow(other.worth, worth);
            copyRow(other.besides, besides);
            copyRow(other.laneFrom, laneFrom);
            copyRow(other.laneTo, laneTo);
            copyRow(other.manStreet, manStreet);
            copyRow(other.hope, hope);
            copyRow(other.walks, walks);
            copyRow(other.sleeperStreet, sleeperStreet);
            copyRow(other.sleeperHour, sleeperHour);
        }

        void read(Text text) {
            streets = 0;
            lanes = 0;
            men = 0;
            sleepers = 0;
            clauses = 0;
            Arrays.fill(besides, 0);
            for (int i = 0; i <= CLAUSES && text.good() && !text.ended(); i++) {
                readClause(text);
            }
        }

        private void readClause(Text text) {
            text.word();
            if (text.isWord("street")) {
                readStreet(text);
            } else if (text.isWord("lane")) {
                readLane(text);
            } else if (text.isWord("man")) {
                readMan(text);
            } else if (text.isWord("sleeper")) {
                readSleeper(text);
            } else {
                text.refuse(MISPLACED);
            }
            clauses++;
        }

        private void needPlace(Text text, int told, int most) {
            if (told >= most || clauses >= CLAUSES) {
                text.refuse(TOO_MANY);
            }
        }

        private void readStreet(Text text) {
            needPlace(text, streets, STREETS);
            int value = text.number(0, 30);
            if (text.needSign(';')) {
                put(worth, streets, value);
                streets++;
            }
        }

        private void readLane(Text text) {
            needPlace(text, lanes, LANES);
            int from = text.number(0, streets - 1);
            int to = text.number(0, streets - 1);
            if (from == to || hasLane(from, to)) {
                text.refuse(WRONG_NUMBER);
            }
            if (text.needSign(';')) {
                put(laneFrom, lanes, from);
                put(laneTo, lanes, to);
                put(besides, from, at(besides, from) | 1 << to);
                put(besides, to, at(besides, to) | 1 << from);
                lanes++;
            }
        }

        private void readMan(Text text) {
            needPlace(text, men, MEN);
            int street = text.number(0, streets - 1);
            int hour = text.number(0, HOURS - 1);
            int hours = text.number(1, HOURS);
            if (text.needSign(';')) {
                put(manStreet, men, street);
                put(hope, men, hour);
                put(walks, men, hours);
                men++;
            }
        }

        private void readSleeper(Text text) {
            needPlace(text, sleepers, SLEEPERS);
            int street = text.number(0, streets - 1);
            int hour = text.number(0, HOURS - 1);
            if (text.needSign(';')) {
                put(sleeperStreet, sleepers, street);
                put(sleeperHour, sleepers, hour);
                sleepers++;
            }
        }

        boolean hasStreet(int i) {
            return i >= 0 && i < streets;
        }

        boolean hasMan(int i) {
            return i >= 0 && i < men;
        }

        boolean hasSleeper(int i) {
            return i >= 0 && i < sleepers;
        }

        boolean hasLane(int from, int to) {
            return hasBit(at(besides, from), to);
        }

        int allStreets() {
            return (1 << streets) - 1;
        }

        /** SLEEPERS of a STREET who wake at an HOUR. */
        int sleepersAt(int street, int hour) {
            return places(sleeperStreet, sleepers, street) & places(sleeperHour, sleepers, hour);
        }

        /** These STREETS, and those of the open ones to which one LANE leads from them. */
        int grown(int come, int open) {
            int more = come;
            for (int street = 0; street < streets; street++) {
                if (hasBit(come, street)) {
                    more |= at(besides, street) & open;
                }
            }
            return more;
        }

        /** The fewest LANES by open STREETS alone, both ends too; NONE. */
        int lanesBetween(int from, int to, int open) {
            int come = 1 << from & open;
            for (int far = 0; far < STREETS; far++) {
                if (hasBit(come, to)) {
                    return far;
                }
                int more = grown(come, open);
                if (more == come) {
                    return NONE;
                }
                come = more;
            }
            return NONE;
        }

        int hoursWalked(int told) {
            int hours = 0;
            for (int man = 0; man < men; man++) {
                if (hasBit(told, man)) {
                    long walked = ((1L << at(walks, man)) - 1) << at(hope, man);
                    // HOURS behind 23 come again from 0 on
                    hours |= (int) ((walked | walked >> HOURS) & ((1 << HOURS) - 1));
                }
            }
            return hours;
        }

        int oilGiven(int told, int bound) {
            int sum = 0;
            for (int man = 0; man < men; man++) {
                if (hasBit(told, man)) {
                    sum += Math.min(at(walks, man), bound);
                }
            }
            return sum;
        }

        /** What the thief has in his STREET while the captain lights one. */
        int loot(int his, int lit, int k) {
            boolean seen = his == lit || hasLane(lit, his);
            return at(worth, his) - (seen ? k : 0);
        }

        boolean isRest(int his, int lit, int k) {
            int has = loot(his, lit, k);
            for (int other = 0; other < streets; other++) {
                // the captain has as much less as the thief has, so he looks for the least
                if (loot(other, lit, k) > has || loot(his, other, k) < has) {
                    return false;
                }
            }
            return true;
        }
    }

    /** The LAW as a row of numbers, names and, behind their two values, operators; empty without one. */
    private static final class Law {
        static final int HOPE = 0;
        static final int HOUR = 1;
        static final int CALLS = 2;
        static final int STREET = 3;
        static final int OTHERS = 4;
        static final int WALKS = 5;
        static final int NIGHT = 6;
        static final int HEARD = 7;
        static final int NAMES = 8;

        // a number in the row stands for itself, and is at most 999
        private static final int NAME = 1000;
        private static final int OPERATOR = 2000;

        private final int[] row = new int[LAW_BYTES];
        private final int[] values = new int[LAW_BYTES];
        private int size = 0;

        void clear() {
            size = 0;
        }

        void copy(Law other) {
            size = other.size;
            copyRow(other.row, row);
        }

        private void add(int code) {
            put(row, size, code);
            size++;
        }

        void read(Text text) {
            size = 0;
            readSum(text, 0);
            if (text.good() && !text.ended()) {
                text.refuse(MISPLACED);
            }
        }

        private void readSum(Text text, int open) {
            readProduct(text, open);
            for (int i = 0; i < LAW_BYTES && text.good(); i++) {
                int sign = text.look();
                if (sign != '+' && sign != '-') {
                    return;
                }
                text.pass();
                readProduct(text, open);
                add(OPERATOR + sign);
            }
        }

        private void readProduct(Text text, int open) {
            readUnit(text, open);
            for (int i = 0; i < LAW_BYTES && text.good(); i++) {
                int sign = text.look();
                if (sign != '*' && sign != '/' && sign != '%') {
                    return;
                }
                text.pass();
                readUnit(text, open);
                add(OPERATOR + sign);
            }
        }

        private void readUnit(Text text, int open) {
            if (!text.good()) {
                return;
            }
            int sign = text.look();
            if (Text.isDigit(sign)) {
                add(text.number(0, 999));
            } else if (sign == '(') {
                readInner(text, open);
            } else {
                readWord(text, open);
            }
        }

        private void readInner(Text text, int open) {
            if (open >= DEEPEST_OPEN) {
                text.refuse(TOO_MANY);
                return;
            }
            text.pass();
            readSum(text, open + 1);
            text.needSign(')');
        }

        private void readWord(Text text, int open) {
            text.word();
            int name = nameOf(text);
            if (name != NONE) {
                add(NAME + name);
                return;
            }
            boolean least = text.isWord("least");
            if (!least && !text.isWord("most")) {
                text.refuse(MISPLACED);
            } else if (open >= DEEPEST_OPEN) {
                text.refuse(TOO_MANY);
            } else {
                text.needSign('[');
                readSum(text, open + 1);
                text.needSign(',');
                readSum(text, open + 1);
                text.needSign(']');
                add(OPERATOR + (least ? LEAST : MOST));
            }
        }

        private static int nameOf(Text text) {
            if (text.isWord("hope")) {
                return HOPE;
            }
            if (text.isWord("hour")) {
                return HOUR;
            }
            if (text.isWord("calls")) {
                return CALLS;
            }
            if (text.isWord("street")) {
                return STREET;
            }
            if (text.isWord("men")) {
                return OTHERS;
            }
            if (text.isWord("walks")) {
                return WALKS;
            }
            if (text.isWord("night")) {
                return NIGHT;
            }
            return text.isWord("heard") ? HEARD : NONE;
        }

        /** The CALL for what the names stand for. */
        int hourFor(int[] given) {
            if (size == 0) {
                return Math.floorMod(at(given, HOPE) + at(given, CALLS), HOURS);
            }
            int top = -1;
            for (int i = 0; i < size && i < row.length; i++) {
                int code = row[i];
                if (code < OPERATOR) {
                    top++;
                    put(values, top, code < NAME ? code : at(given, code - NAME));
                } else {
                    top--;
                    put(values, top, result(code - OPERATOR, at(values, top), at(values, top + 1)));
                }
            }
            return Math.floorMod(at(values, 0), HOURS);
        }

        private static int result(int operator, int left, int right) {
            switch (operator) {
                case '+': return left + right;
                case '-': return left - right;
                case '*': return left * right;
                case '/': return right == 0 ? 0 : left / right;
                case '%': return right == 0 ? 0 : left % right;
                case LEAST: return left < right ? left : right;
                default: return left > right ? left : right;
            }
        }
    }

    /** All that WORK changes. */
    private static final class Night {
        int hour = 0;
        int number = 0;
        int up = 0;
        int awake = 0;
        final int[] place = new int[MEN];
        final int[] calls = new int[MEN];
        final int[] heard = new int[STREETS];

        void begin(City city) {
            hour = 0;
            number = 0;
            up = (1 << city.men) - 1;
            copyRow(city.manStreet, place);
            Arrays.fill(calls, 0);
            beQuiet();
        }

        private void beQuiet() {
            awake = 0;
            Arrays.fill(heard, HOURS);
        }

        void copy(Night other) {
            hour = other.hour;
            number = other.number;
            up = other.up;
            awake = other.awake;
            copyRow(other.place, place);
            copyRow(other.calls, calls);
            copyRow(other.heard, heard);
        }

        boolean isUp(int man) {
            return hasBit(up, man);
        }

        int heardIn(int street) {
            return at(heard, street);
        }

        int allCalls() {
            int sum = 0;
            for (int man = 0; man < MEN; man++) {
                sum += at(calls, man);
            }
            return sum;
        }

        boolean isLastHour() {
            return hour == HOURS - 1 && number >= LAST_NIGHT;
        }

        void passHour() {
            hour++;
            if (hour == HOURS) {
                hour = 0;
                number++;
                beQuiet();
            }
        }

        void turnBed(int man) {
            up ^= 1 << man;
        }
    }

    /** The CITY and its LAW, by which MEN go and call in any NIGHT. */
    private static final class Watch {
        final City city = new City();
        final Law law = new Law();
        private final int[] given = new int[Law.NAMES];

        /** SAYS of a MAN and a STREET, were it that HOUR. */
        int cry(Night night, int man, int street, int hour) {
            int others = places(night.place, city.men, street) & night.up & ~(1 << man);
            put(given, Law.HOPE, at(city.hope, man));
            put(given, Law.HOUR, hour);
            put(given, Law.CALLS, at(night.calls, man));
            put(given, Law.STREET, street);
            put(given, Law.OTHERS, Integer.bitCount(others));
            put(given, Law.WALKS, at(city.walks, man));
            put(given, Law.NIGHT, night.number);
            put(given, Law.HEARD, night.heardIn(street));
            return law.hourFor(given);
        }

        boolean callOut(Night night, int man) {
            if (!night.isUp(man)) {
                return false;
            }
            int street = at(night.place, man);
            int hour = cry(night, man, street, night.hour);
            put(night.heard, street, hour);
            night.awake |= city.sleepersAt(street, hour);
            put(night.calls, man, at(night.calls, man) + 1);
            return true;
        }

        boolean walk(Night night, int man, int street) {
            if (!night.isUp(man) || !city.hasLane(at(night.place, man), street)) {
                return false;
            }
            put(night.place, man, street);
            return true;
        }
    }

    /** WORK as rows of steps; an again holds where the steps behind it go on. */
    private static final class Work {
        private static final int GO = 0;
        private static final int CALL = 1;
        private static final int BED = 2;
        private static final int HOUR = 3;
        private static final int AGAIN = 4;

        private final int[] kinds = new int[WORK_BYTES];
        private final int[] firsts = new int[WORK_BYTES];
        private final int[] seconds = new int[WORK_BYTES];
        private int size = 0;
        private int begun = 0;
        int done = 0;
        int refused = 0;

        void read(Text text, City city) {
            size = 0;
            readSteps(text, city, 0);
        }

        private void readSteps(Text text, City city, int open) {
            for (int i = 0; i <= WORK_BYTES && text.good(); i++) {
                if (text.look() == (open == 0 ? NONE : ']')) {
                    return;
                }
                readStep(text, city, open);
                text.needSign(';');
            }
        }

        private void readStep(Text text, City city, int open) {
            text.word();
            if (text.isWord("go")) {
                int man = text.number(0, city.men - 1);
                add(GO, man, text.number(0, city.streets - 1));
            } else if (text.isWord("call")) {
                add(CALL, text.number(0, city.men - 1), 0);
            } else if (text.isWord("bed")) {
                add(BED, text.number(0, city.men - 1), 0);
            } else if (text.isWord("hour")) {
                add(HOUR, 0, 0);
            } else if (text.isWord("again")) {
                readAgain(text, city, open);
            } else {
                text.refuse(MISPLACED);
            }
        }

        private void readAgain(Text text, City city, int open) {
            if (open >= DEEPEST_OPEN) {
                text.refuse(TOO_MANY);
                return;
            }
            int here = size;
            add(AGAIN, text.number(0, TURNS), 0);
            text.needSign('[');
            readSteps(text, city, open + 1);
            text.needSign(']');
            put(seconds, here, size);
        }

        private void add(int kind, int first, int second) {
            put(kinds, size, kind);
            put(firsts, size, first);
            put(seconds, size, second);
            size++;
        }

        void perform(Watch watch, Night night) {
            begun = 0;
            done = 0;
            refused = 0;
            performSteps(watch, night, 0, size, 0);
        }

        private void performSteps(Watch watch, Night night, int from, int to, int open) {
            if (open > DEEPEST_OPEN) {
                return;
            }
            for (int i = from; i < to && begun < STEPS_BEGUN; i++) {
                begun++;
                if (at(kinds, i) != AGAIN) {
                    performStep(watch, night, i);
                } else {
                    int end = at(seconds, i);
                    for (int turn = 0; turn < at(firsts, i) && begun < STEPS_BEGUN; turn++) {
                        performSteps(watch, night, i + 1, end, open + 1);
                    }
                    i = Math.max(i, end - 1);
                }
            }
        }

        private void performStep(Watch watch, Night night, int i) {
            boolean could = true;
            int man = at(firsts, i);
            switch (at(kinds, i)) {
                case GO:
                    could = watch.walk(night, man, at(seconds, i)) && watch.callOut(night, man);
                    break;
                case CALL:
                    could = watch.callOut(night, man);
                    break;
                case BED:
                    night.turnBed(man);
                    break;
                default:
                    could = passHour(night);
                    break;
            }
            if (could) {
                done++;
            } else {
                refused++;
            }
        }

        private static boolean passHour(Night night) {
            if (night.isLastHour()) {
                return false;
            }
            night.passHour();
            return true;
        }
    }

    /** The NIGHT as it is, and as it was ahead of each WORK that can be undone. */
    private static final class History {
        final Night now = new Night();
        private final Night[] before = new Night[WORKS];
        int works = 0;

        History() {
            for (int i = 0; i < before.length; i++) {
                before[i] = new Night();
            }
        }

        private Night nightBefore(int i) {
            return i >= 0 && i < before.length ? before[i] : null;
        }

        void begin(City city) {
            now.begin(city);
            works = 0;
        }

        void keep() {
            Night kept = nightBefore(works);
            if (kept != null) {
                kept.copy(now);
                works++;
            }
        }

        boolean goBack() {
            Night kept = nightBefore(works - 1);
            if (kept == null) {
                return false;
            }
            now.copy(kept);
            works--;
            return true;
        }

        void copy(History other) {
            now.copy(other.now);
            works = other.works;
            for (int i = 0; i < works; i++) {
                Night mine = nightBefore(i);
                Night kept = other.nightBefore(i);
                if (mine != null && kept != null) {
                    mine.copy(kept);
                }
            }
        }
    }

    /** The BOOK: which HOUR one called in which STREET. */
    private static final class Book {
        private final int[] hours = new int[STREETS];
        int lines = 0;

        Book() {
            Arrays.fill(hours, NONE);
        }

        void clear() {
            lines = 0;
            Arrays.fill(hours, NONE);
        }

        void copy(Book other) {
            lines = other.lines;
            copyRow(other.hours, hours);
        }

        int hourOf(int street) {
            return at(hours, street);
        }

        void read(Text text, City city) {
            clear();
            for (int i = 0; i <= BOOK_BYTES && text.good() && !text.ended(); i++) {
                readLine(text, city);
            }
        }

        private void readLine(Text text, City city) {
            int street = text.number(0, city.streets - 1);
            if (hourOf(street) != NONE) {
                text.refuse(WRONG_NUMBER);
            }
            int hour = text.number(0, HOURS - 1);
            if (text.needSign(';')) {
                put(hours, street, hour);
                lines++;
            }
        }
    }

    /** RAISE: whom each MAN would wake in each STREET. */
    private static final class Rousing {
        private final int[] woken = new int[MEN * STREETS];

        int fewestMen(Watch watch, Night night, int sleepers) {
            prepare(watch, night);
            int fewest = MEN + 1;
            int best = NONE;
            for (int men = 0; men < 1 << watch.city.men; men++) {
                if (Integer.bitCount(men) < fewest && canWake(watch.city, men, sleepers, 0)) {
                    fewest = Integer.bitCount(men);
                    best = men;
                }
            }
            return best;
        }

        private void prepare(Watch watch, Night night) {
            City city = watch.city;
            for (int man = 0; man < city.men; man++) {
                for (int street = 0; street < city.streets; street++) {
                    int hour = watch.cry(night, man, street, night.hour);
                    put(woken, man * STREETS + street, city.sleepersAt(street, hour));
                }
            }
        }

        /** Somebody must wake the first SLEEPER in his STREET, so only such MEN are tried for him. */
        private boolean canWake(City city, int men, int sleepers, int tried) {
            if (sleepers == 0) {
                return true;
            }
            if (tried >= MEN) {
                return false;
            }
            int first = lowestBit(sleepers);
            int street = at(city.sleeperStreet, first);
            for (int man = 0; man < city.men; man++) {
                int wakes = at(woken, man * STREETS + street);
                boolean fit = hasBit(men, man) && hasBit(wakes, first);
                if (fit && canWake(city, men & ~(1 << man), sleepers & ~wakes, tried + 1)) {
                    return true;
                }
            }
            return false;
        }
    }

    /** WHO: pairs of a MAN and an HOUR that fit the BOOK, each as 100 times the MAN, and the HOUR. */
    private static final class Guess {
        private final int[] pairs = new int[MEN * HOURS];
        private final int[] left = new int[HOURS];
        int size = 0;

        void match(Watch watch, Night night, Book book) {
            size = 0;
            for (int man = 0; man < watch.city.men; man++) {
                for (int hour = 0; hour < HOURS; hour++) {
                    if (fits(watch, night, book, man, hour)) {
                        put(pairs, size, 100 * man + hour);
                        size++;
                    }
                }
            }
        }

        private static boolean fits(Watch watch, Night night, Book book, int man, int hour) {
            for (int street = 0; street < watch.city.streets; street++) {
                int called = book.hourOf(street);
                if (called != NONE && watch.cry(night, man, street, hour) != called) {
                    return false;
                }
            }
            return true;
        }

        int first() {
            return size == 0 ? NONE : at(pairs, 0);
        }

        int men() {
            int bits = 0;
            for (int i = 0; i < size; i++) {
                bits |= 1 << at(pairs, i) / 100;
            }
            return bits;
        }

        int leftAtWorst(Watch watch, Night night, int street) {
            Arrays.fill(left, 0);
            int most = 0;
            for (int i = 0; i < size; i++) {
                int pair = at(pairs, i);
                int called = watch.cry(night, pair / 100, street, pair % 100);
                put(left, called, at(left, called) + 1);
                most = Math.max(most, at(left, called));
            }
            return most;
        }
    }

    /** A YEAR by a SEED, lived in a NIGHT of its own. */
    private static final class Years {
        final Night night = new Night();
        int goes = 0;
        int wakings = 0;
        private int seed = 0;

        void live(Watch watch, Night now, int from, int steps, int q) {
            night.copy(now);
            goes = 0;
            wakings = 0;
            seed = from;
            int men = watch.city.men;
            for (int i = 0; i < steps && men > 0; i++) {
                int man = draw(men);
                int street = draw(watch.city.streets);
                int awake = night.awake;
                if (watch.walk(night, man, street) && watch.callOut(night, man)) {
                    goes++;
                    wakings += Integer.bitCount(night.awake & ~awake);
                }
                if (draw(16) < q) {
                    night.turnBed(man);
                }
                night.passHour();
            }
        }

        private int draw(int by) {
            seed = seed * 1_103_515_245 + 12_345;
            int bits = seed >>> 16 & 0x7fff;
            return by > 0 ? bits % by : 0;
        }
    }
}
