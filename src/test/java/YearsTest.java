/** Promises 38 and 39: years by seeds. */
public final class YearsTest {
    private static final Check CHECK = new Check("YearsTest");
    private static final String TOWN = "street 0;street 0;street 0;lane 0 1;lane 1 2;lane 2 0;man 0 5 24;man 1 7 3;"
            + "sleeper 1 5;sleeper 2 8;sleeper 0 6;";

    public static void main(String[] args) {
        byHand();
        asWork();
        withoutMen();
        spans();
        refusals();
        CHECK.end();
    }

    /** Seed 0: bits 16 to 30 of 12345 are 0, so the first man is drawn; then two more draws, told here in numbers. */
    private static void byHand() {
        HopedHours x = Check.made("street 0;street 0;lane 0 1;man 0 5 24;sleeper 1 5;");
        int second = 12345 * 1103515245 + 12345;
        int third = second * 1103515245 + 12345;
        int street = (second >> 16 & 32767) % 2;
        int bed = (third >> 16 & 32767) % 16;
        CHECK.due("go", x.year(0, 1, 0, 0), street);
        CHECK.due("woke", x.year(0, 1, 0, 1), street);
        CHECK.due("no bed", x.year(0, 1, bed, 3), 1);
        CHECK.due("bed", x.year(0, 1, bed + 1, 3), 0);
        CHECK.due("the night", x.year(0, 23, 0, 2), 0);
        CHECK.due("the next night", x.year(0, 24, 0, 2), 1);
        CHECK.due("four nights", x.year(0, 96, 16, 2), 4);
        CHECK.due("asked twice", x.year(0, 40, 0, 0), x.year(0, 40, 0, 0));
        CHECK.due("asked twice", x.year(0, 40, 0, 1), x.year(0, 40, 0, 1));
        Check.work(x, "again 23[hour;];");
        CHECK.due("from now on", x.year(0, 1, 0, 2), 1);
        CHECK.due("nothing stays changed", x.told(4), 23);
        CHECK.due("no night has passed", x.told(5), 0);
        CHECK.due("nobody went", x.told(10), 0);
    }

    /** The same steps as WORK: eight to a text, so that 96 are twelve texts. */
    private static void asWork() {
        for (int seed : new int[] {1, 77, -5, Integer.MAX_VALUE, Integer.MIN_VALUE}) {
            HopedHours x = Check.made(TOWN);
            HopedHours y = Check.made(TOWN);
            int state = seed;
            int goes = 0;
            for (int text = 0; text < 12; text++) {
                StringBuilder steps = new StringBuilder();
                for (int i = 0; i < 8; i++) {
                    int man = ((state = state * 1103515245 + 12345) >>> 16 & 32767) % 2;
                    int street = ((state = state * 1103515245 + 12345) >>> 16 & 32767) % 3;
                    boolean bed = ((state = state * 1103515245 + 12345) >>> 16 & 32767) % 16 < 3;
                    steps.append("go ").append(man).append(' ').append(street).append(';');
                    steps.append(bed ? "bed " + man + ";" : "").append("hour;");
                    goes -= bed ? 2 : 1;
                }
                goes += Check.work(y, steps.toString());
            }
            CHECK.due("goes", x.year(seed, 96, 3, 0), goes);
            CHECK.due("night", x.year(seed, 96, 3, 2), y.told(5));
            CHECK.due("up", x.year(seed, 96, 3, 3), y.told(6));
            CHECK.due("calls are the goes", y.told(10), goes);
        }
    }

    private static void withoutMen() {
        HopedHours x = Check.made("street 0;sleeper 0 0;");
        Check.work(x, "again 30[hour;];");
        CHECK.due("no goes", x.year(5, 96, 16, 0), 0);
        CHECK.due("no wakings", x.year(5, 96, 16, 1), 0);
        CHECK.due("no hours", x.year(5, 96, 16, 2), 1);
        CHECK.due("nobody is up", x.year(5, 96, 16, 3), 0);
        CHECK.due("span", x.span(5, 20, 96, 16, 0, 0), 0);
        CHECK.due("span", x.span(5, 20, 96, 16, 1, 0), 0);
        CHECK.due("span", x.span(5, 20, 96, 16, 2, 0), 0);
    }

    private static void spans() {
        HopedHours x = Check.made(TOWN);
        int fewest = 999;
        int most = -1;
        for (int i = 0; i < 20; i++) {
            int woke = x.year(Integer.MAX_VALUE - 9 + i, 40, 2, 1);
            fewest = Math.min(fewest, woke);
            most = Math.max(most, woke);
        }
        CHECK.due("seeds that wrap, fewest", x.span(Integer.MAX_VALUE - 9, 20, 40, 2, 0, 0), fewest);
        CHECK.due("most", x.span(Integer.MAX_VALUE - 9, 20, 40, 2, 1, 2), most);
        CHECK.due("one seed", x.span(9, 1, 40, 2, 0, 0), x.year(9, 40, 2, 1));
        // awake now, and no night ends by these steps; nobody else is told
        Check.work(x, "go 0 1;");
        CHECK.due("awake now", x.told(7), 1);
        CHECK.due("awake then by each seed", x.span(3, 7, 5, 0, 2, 0), 7);
        CHECK.due("asleep when the night ends", x.span(3, 7, 24, 0, 2, 0), 0);
        Check.law(x, "9");
        CHECK.due("he who is awake does not wake", x.span(3, 20, 20, 0, 1, 0), 0);
        Check.law(x, "5");
        CHECK.due("though he hears it again", x.span(3, 20, 20, 0, 1, 0), 0);
    }

    private static void refusals() {
        HopedHours x = Check.made(TOWN);
        int[][] year = {{0, 0, 0}, {97, 0, 0}, {1, -1, 0}, {1, 17, 0}, {1, 0, -1}, {1, 0, 4}};
        for (int[] a : year) {
            CHECK.unfit("year", () -> x.year(1, a[0], a[1], a[2]));
        }
        int[][] span = {{0, 1, 0, 0, 0}, {21, 1, 0, 0, 0}, {1, 0, 0, 0, 0}, {1, 97, 0, 0, 0}, {1, 1, -1, 0, 0},
            {1, 1, 17, 0, 0}, {1, 1, 0, -1, 0}, {1, 1, 0, 3, 0}, {1, 1, 0, 0, 3}, {1, 1, 0, 1, 3}, {1, 1, 0, 2, -1}};
        for (int[] a : span) {
            CHECK.unfit("span", () -> x.span(1, a[0], a[1], a[2], a[3], a[4]));
        }
        CHECK.due("counted", x.status(1), year.length + span.length);
    }
}
