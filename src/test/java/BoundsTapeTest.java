/** The bounds of the TAPE, and of n in city, law, work and book: promises 1 to 6, 43. */
public final class BoundsTapeTest {
    private static final Check CHECK = new Check("BoundsTapeTest");
    private static final String TOWN = "street 5;street 9;lane 0 1;man 0 6 12;sleeper 1 6;";
    private static final int BLANKS = 0x20202020;

    public static void main(String[] args) {
        emptyTape();
        orderOfBytes();
        signsOfAllKinds();
        fullTape();
        nBeyondTheTape();
        nBeyondTheText();
        emptyThen();
        CHECK.end();
    }

    /** "city", "law", "work" or "book" of an object, by its name. */
    private static int read(HopedHours x, String kind, int n) {
        switch (kind) {
            case "city": return x.city(n);
            case "law": return x.law(n);
            case "work": return x.work(n);
            default: return x.book(n);
        }
    }

    private static final String[] KINDS = {"city", "law", "work", "book"};
    private static final int[] MOST = {600, 150, 150, 60};
    private static final String[] GOOD = {TOWN, "hope", "hour;", "1 5;"};
    private static final int[] ANSWERS = {1, 1, 1, 1};

    private static void emptyTape() {
        int[] due = {0, -9, 0, 0};
        for (int kind = 0; kind < KINDS.length; kind++) {
            HopedHours x = new HopedHours();
            String name = KINDS[kind];
            CHECK.due("bytes at first", x.count(1), 0);
            CHECK.unfit(name + "(1) of no bytes", () -> read(x, name, 1));
            CHECK.due(name + "(0) of no bytes", read(x, name, 0), due[kind]);
            CHECK.due("fault of " + name + "(0)", x.fault(), due[kind] == 0 ? -1 : 0);
            CHECK.due("bytes", x.count(1), 0);
        }
    }

    /** Twenty bytes, of each number the highest first: any other order would be a fault. */
    private static void orderOfBytes() {
        HopedHours x = new HopedHours();
        // "stre" "et 7" ";str" "eet " "23; "
        CHECK.due("feed", x.feed(0x73747265, 0x65742037, 0x3b737472, 0x65657420, 0x32333b20), 20);
        CHECK.due("city", x.city(20), 0);
        CHECK.due("street 0", x.street(0, 0), 7);
        CHECK.due("street 1", x.street(1, 0), 23);
    }

    /** Numbers below 0 bring bytes of 128 and more; no such byte, and no 0, can stand anywhere. */
    private static void signsOfAllKinds() {
        for (int sign = 0; sign < 256; sign++) {
            HopedHours x = Check.made(TOWN);
            x.feed(sign << 24 | 0x202020, BLANKS, BLANKS, BLANKS, BLANKS);
            CHECK.due("city of the byte " + sign, x.city(20), sign == ' ' ? 0 : -9);
            CHECK.due("its place", x.fault(), sign == ' ' ? -1 : 0);
            x.feed(BLANKS, BLANKS, BLANKS, BLANKS, 0x20202000 | sign);
            boolean digit = sign >= '0' && sign <= '9';
            CHECK.due("law of the byte " + sign, x.law(20), digit ? 1 : -9);
            // behind a blank and behind ( the text ends too early
            CHECK.due("its place", x.fault(), digit ? -1 : sign == ' ' || sign == '(' ? 20 : 19);
        }
        HopedHours x = new HopedHours();
        x.feed(-1, -1, -1, -1, Integer.MIN_VALUE);
        CHECK.due("bytes of 255", x.city(20), -9);
    }

    private static void fullTape() {
        HopedHours x = new HopedHours();
        String text = "street 11;" + " ".repeat(580) + "street 30;";
        Check.feed(x, text.substring(0, 580));
        CHECK.due("580 bytes", x.count(1), 580);
        Check.feed(x, text.substring(580));
        CHECK.due("the last twenty", x.count(1), 600);
        CHECK.due("twenty more", x.feed(BLANKS, BLANKS, BLANKS, BLANKS, BLANKS), -1);
        CHECK.due("and again", x.feed(0, 0, 0, 0, 0), -1);
        CHECK.due("nothing was done", x.count(1), 600);
        CHECK.due("a refused feed is no refused call", x.status(0) + x.status(1), 0);
        CHECK.due("all 600 are as they were", x.city(600), 0);
        CHECK.due("the last byte was read", x.told(0), 2);
        CHECK.due("its worth", x.street(1, 0), 30);
        CHECK.due("there is room again", x.feed(BLANKS, BLANKS, BLANKS, BLANKS, BLANKS), 20);
    }

    /** IllegalArgumentException: n is not 0 to the TAPE's bytes (it stays). */
    private static void nBeyondTheTape() {
        for (int kind = 0; kind < KINDS.length; kind++) {
            HopedHours x = Check.made(TOWN, "hour * 2");
            Check.book(x, "x");
            String name = KINDS[kind];
            String padded = GOOD[kind] + " ".repeat((20 - GOOD[kind].length() % 20) % 20);
            Check.feed(x, padded);
            String before = Check.state(x);
            int refused = 0;
            for (int n : new int[] {-1, -20, Integer.MIN_VALUE, padded.length() + 1, 601, Integer.MAX_VALUE}) {
                CHECK.unfit(name + "(" + n + ")", () -> read(x, name, n));
                CHECK.due("counted", x.status(1), ++refused);
            }
            CHECK.due("no other is counted", x.status(0), 0);
            CHECK.alike("behind refused " + name, Check.state(x), before);
            CHECK.due("the fault of the latest text stays", x.fault(), 0);
            CHECK.due(name + " of all bytes", read(x, name, padded.length()), ANSWERS[kind]);
            CHECK.due("no fault", x.fault(), -1);
        }
    }

    /** n to 600, 150, 150, 60, though the TAPE has more. */
    private static void nBeyondTheText() {
        for (int kind = 0; kind < KINDS.length; kind++) {
            HopedHours x = Check.made(TOWN);
            String name = KINDS[kind];
            int most = MOST[kind];
            int tape = Math.min(600, most + 20 - most % 20);
            int cut = GOOD[kind].endsWith(";") ? 1 : 0;
            String good = GOOD[kind].substring(0, GOOD[kind].length() - cut);
            // the last byte that may be read is one that must be read
            String text = good + " ".repeat(most - good.length() - cut) + (cut == 1 ? ";" : "") + " ".repeat(tape - most);
            Check.feed(x, text);
            CHECK.due("bytes", x.count(1), tape);
            CHECK.unfit(name + ", one too many", () -> read(x, name, most + 1));
            CHECK.unfit(name + ", all and one", () -> read(x, name, tape + 1));
            CHECK.due("bytes stay", x.count(1), tape);
            CHECK.due(name + " to the last byte", read(x, name, most), ANSWERS[kind]);
            Check.feed(x, text);
            CHECK.due(name + " without its last byte", read(x, name, most - 1), cut == 1 ? -9 : 1);
            CHECK.due("ends too early", x.fault(), cut == 1 ? most - 1 : -1);
        }
    }

    /** The TAPE is empty then: behind fewer bytes than there are, behind a FAULT, behind none at all. */
    private static void emptyThen() {
        for (int kind = 0; kind < KINDS.length; kind++) {
            HopedHours x = Check.made(TOWN);
            String name = KINDS[kind];
            String good = GOOD[kind];
            Check.feed(x, good + "and what stands behind it");
            CHECK.due(name + " of the first bytes", read(x, name, good.length()), ANSWERS[kind]);
            CHECK.due("empty", x.count(1), 0);
            Check.feed(x, "?" + good);
            CHECK.due(name + " with a fault", read(x, name, good.length() + 1), -9);
            CHECK.due("empty", x.count(1), 0);
            Check.feed(x, good);
            CHECK.due(name + "(0)", read(x, name, 0), name.equals("law") ? -9 : 0);
            CHECK.due("empty", x.count(1), 0);
            CHECK.due("the next twenty are the first", Check.feed(x, "x"), 20);
        }
    }
}
