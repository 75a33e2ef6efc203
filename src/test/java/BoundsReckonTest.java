/** The bounds of what is reckoned: BELIEVE, ROSTER, THIEF, OIL, YEARS: "==== 3.", promises 24 to 27, 38, 39. */
public final class BoundsReckonTest {
    private static final Check CHECK = new Check("BoundsReckonTest");
    private static final int ALL_HOURS = (1 << 24) - 1;

    public static void main(String[] args) {
        believe();
        rosterOfNobody();
        rosterRoundTheClock();
        rosterOfAsFew();
        thiefOfNoStreets();
        thiefAtTheEdges();
        thiefOfAlikeOnes();
        oilOfNothing();
        oilToTheLast();
        yearOfNobody();
        yearSteps();
        yearBeds();
        yearGoes();
        yearWakings();
        seedsThatWrap();
        spanEdges();
        spanSleepers();
        CHECK.end();
    }

    private static void fraction(int n, int q, long above, long below) {
        HopedHours x = new HopedHours();
        CHECK.due("above " + n + " " + q, x.believe(n, q, 0), above);
        CHECK.due("below " + n + " " + q, x.believe(n, q, 1), below);
    }

    /** n 1 to 9, odd, q 0 to 16; in least terms. */
    private static void believe() {
        for (int n = 1; n <= 9; n += 2) {
            fraction(n, 0, 0, 1);
            fraction(n, 16, 1, 1);
            fraction(n, 8, 1, 2);
        }
        fraction(1, 1, 1, 16);
        fraction(1, 15, 15, 16);
        fraction(1, 2, 1, 8);
        // 3 * 15 and 1 over 4096; 46 over 4096
        fraction(3, 1, 23, 2048);
        fraction(3, 15, 2025, 2048);
        // 126 * 15^4 + 84 * 15^3 + 36 * 15^2 + 9 * 15 + 1 over 16^9, halved once
        fraction(9, 1, 6670486 / 2, 1L << 35);
        fraction(9, 15, (1L << 35) - 6670486 / 2, 1L << 35);
        HopedHours x = new HopedHours();
        for (int n : new int[] {Integer.MIN_VALUE, -3, -1, 0, 2, 4, 6, 8, 10, 11, Integer.MAX_VALUE}) {
            CHECK.unfit("n " + n, () -> x.believe(n, 8, 0));
        }
        CHECK.due("counted", x.status(1), 11);
    }

    private static void rosterOfNobody() {
        HopedHours x = new HopedHours();
        CHECK.due("no hours", x.roster(0), 0);
        CHECK.due("hour 0", x.roster(1), -1);
        CHECK.due("all hours", x.roster(ALL_HOURS), -1);
        CHECK.unfit("hour 24", () -> x.roster(1 << 24));
        CHECK.unfit("all and hour 24", () -> x.roster((1 << 25) - 1));
        CHECK.unfit("-1", () -> x.roster(-1));
        CHECK.unfit("the least", () -> x.roster(Integer.MIN_VALUE));
        CHECK.unfit("the most", () -> x.roster(Integer.MAX_VALUE));
        HopedHours y = Check.made("street 0;man 0 0 1;");
        CHECK.due("no hours, one man", y.roster(0), 0);
    }

    /** From the HOUR he hopes on, as many as he can; behind 23 comes 0. */
    private static void rosterRoundTheClock() {
        for (int hope : new int[] {0, 1, 12, 22, 23}) {
            for (int walks : new int[] {1, 2, 12, 23, 24}) {
                HopedHours x = Check.made("street 0;man 0 " + hope + " " + walks + ";");
                for (int hour = 0; hour < 24; hour++) {
                    boolean walked = (hour - hope + 24) % 24 < walks;
                    CHECK.due("man " + hope + " " + walks + " at " + hour, x.roster(1 << hour), walked ? 1 : -1);
                }
                CHECK.due("all hours by " + walks, x.roster(ALL_HOURS), walks == 24 ? 1 : -1);
            }
        }
    }

    private static void rosterOfAsFew() {
        HopedHours x = Check.made("street 0;man 0 0 4;man 0 4 4;man 0 8 4;man 0 12 4;man 0 16 4;man 0 20 4;");
        CHECK.due("all six", x.roster(ALL_HOURS), 63);
        CHECK.due("the last alone", x.roster(1 << 23), 32);
        HopedHours y = Check.made("street 0;man 0 0 4;man 0 2 4;man 0 0 6;man 0 0 6;");
        CHECK.due("one comes ahead of two", y.roster(63), 4);
        CHECK.due("the least of three", y.roster(1), 1);
        CHECK.due("of two", y.roster(2 | 16), 4);
        CHECK.due("of three", y.roster(4), 1);
    }

    private static void thiefOfNoStreets() {
        HopedHours x = new HopedHours();
        for (int k : new int[] {0, 1, 60}) {
            CHECK.due("no rests", x.thief(k, 0), 0);
            CHECK.due("no first", x.thief(k, 1), -1);
            CHECK.due("he has nothing", x.thief(k, 2), 0);
        }
        CHECK.unfit("k 61", () -> x.thief(61, 0));
        CHECK.unfit("k -1", () -> x.thief(-1, 0));
    }

    private static void thiefAtTheEdges() {
        HopedHours x = Check.made("street 0;");
        CHECK.due("one street, k 60", x.thief(60, 0), 1);
        CHECK.due("its rest", x.thief(60, 1), 0);
        CHECK.due("60 less than 0", x.thief(60, 2), -60);
        CHECK.due("k 0", x.thief(0, 2), 0);
        HopedHours y = Check.made("street 0;".repeat(8) + "street 30;");
        CHECK.due("k 0: whatever is lit", y.thief(0, 0), 9);
        CHECK.due("k 0: the first", y.thief(0, 1), 80);
        CHECK.due("k 0: 30", y.thief(0, 2), 30);
        // k 29: street 8 lit leaves 1, more than 0 elsewhere
        CHECK.due("k 29", y.thief(29, 0), 1);
        CHECK.due("k 29: the first", y.thief(29, 1), 88);
        CHECK.due("k 29: what is left", y.thief(29, 2), 1);
        // k 30: he would not have more elsewhere, the captain not either
        CHECK.due("k 30", y.thief(30, 0), 1);
        CHECK.due("k 30: the first", y.thief(30, 1), 88);
        CHECK.due("k 30: nothing", y.thief(30, 2), 0);
        CHECK.due("k 31: no rest", y.thief(31, 0), 0);
        CHECK.due("k 31: none", y.thief(31, 1), -1);
        CHECK.due("k 31: 0 without", y.thief(31, 2), 0);
    }

    /** Neither would have more: as much is no more. A LANE lights the next STREET, no farther one. */
    private static void thiefOfAlikeOnes() {
        HopedHours x = Check.made("street 5;street 5;");
        CHECK.due("k 0: all", x.thief(0, 0), 4);
        CHECK.due("k 0: the first", x.thief(0, 1), 0);
        CHECK.due("k 1: he goes where no light is, the captain follows", x.thief(1, 0), 0);
        HopedHours y = Check.made("street 5;street 5;lane 1 0;");
        CHECK.due("k 1: both are lit by each", y.thief(1, 0), 4);
        CHECK.due("k 1: 4 is left", y.thief(1, 2), 4);
        HopedHours z = Check.made("street 5;street 5;street 5;lane 0 1;lane 1 2;");
        // 1 lights all three: he has 4 anywhere; by 0 or 2 he would have 5 at the other end
        CHECK.due("k 1: the middle one", z.thief(1, 0), 3);
        CHECK.due("k 1: the first", z.thief(1, 1), 1);
        CHECK.due("k 1: 4", z.thief(1, 2), 4);
    }

    private static void oilOfNothing() {
        HopedHours x = Check.made("street 0;" + "man 0 0 24;".repeat(6));
        CHECK.due("of nothing", x.oil(5, 63, 0), 0);
        CHECK.due("among nobody", x.oil(5, 0, 999), 0);
        CHECK.due("not told", x.oil(5, 31, 999), 0);
        CHECK.due("the last alone", x.oil(5, 32, 999), 24);
        CHECK.unfit("a 7th", () -> x.oil(0, 64, 0));
        CHECK.unfit("a 7th and all", () -> x.oil(0, 127, 0));
        CHECK.unfit("below", () -> x.oil(0, -1, 0));
        CHECK.unfit("n -1", () -> x.oil(0, 1, -1));
        CHECK.unfit("n 1000", () -> x.oil(0, 1, 1000));
        CHECK.missing("no man, ahead of others", () -> x.oil(6, 64, 1000));
        HopedHours y = new HopedHours();
        CHECK.missing("nobody at all", () -> y.oil(0, 0, 0));
    }

    /** The greatest bound by which no more than n are given; all, if they are no more. */
    private static void oilToTheLast() {
        HopedHours x = Check.made("street 0;" + "man 0 0 24;".repeat(6));
        CHECK.due("144 is all", x.oil(0, 63, 144), 24);
        CHECK.due("143 is one too few", x.oil(0, 63, 143), 23);
        CHECK.due("138 is 23 each", x.oil(0, 63, 138), 23);
        CHECK.due("137", x.oil(0, 63, 137), 22);
        CHECK.due("6 is one each", x.oil(5, 63, 6), 1);
        CHECK.due("5 is none each", x.oil(5, 63, 5), 0);
        HopedHours y = Check.made("street 0;man 0 0 1;man 0 0 2;man 0 0 24;");
        int[][] due = {{0, 0, 0}, {0, 0, 0}, {0, 0, 0}, {1, 1, 1}, {1, 1, 1}, {1, 2, 2}, {1, 2, 3}};
        for (int n = 0; n < due.length; n++) {
            for (int man = 0; man < 3; man++) {
                CHECK.due("man " + man + " of " + n, y.oil(man, 7, n), due[n][man]);
            }
        }
        CHECK.due("26", y.oil(2, 7, 26), 23);
        CHECK.due("27 is all", y.oil(2, 7, 27), 24);
        CHECK.due("28", y.oil(2, 7, 28), 24);
        CHECK.due("999", y.oil(0, 7, 999), 1);
    }

    /** Without MEN nothing is done, no HOUR passes. */
    private static void yearOfNobody() {
        HopedHours x = Check.made("street 0;street 0;lane 0 1;sleeper 0 0;");
        Check.work(x, "again 47[hour;];");
        for (int steps : new int[] {1, 96}) {
            CHECK.due("goes", x.year(1, steps, 16, 0), 0);
            CHECK.due("wakings", x.year(1, steps, 16, 1), 0);
            CHECK.due("the night as it is", x.year(1, steps, 16, 2), 1);
            CHECK.due("nobody is up", x.year(1, steps, 16, 3), 0);
        }
        CHECK.due("span", x.span(1, 20, 96, 16, 0, 0) + x.span(1, 20, 96, 16, 1, 0) + x.span(1, 20, 96, 16, 2, 0), 0);
        CHECK.due("a city of nothing", new HopedHours().year(1, 96, 16, 2), 0);
    }

    private static void yearSteps() {
        HopedHours x = Check.made("street 0;man 0 0 1;");
        int[] steps = {1, 23, 24, 47, 48, 95, 96};
        int[] nights = {0, 0, 1, 1, 2, 3, 4};
        for (int i = 0; i < steps.length; i++) {
            CHECK.due(steps[i] + " steps", x.year(9, steps[i], 0, 2), nights[i]);
        }
        Check.work(x, "again 23[hour;];");
        CHECK.due("one from hour 23", x.year(9, 1, 0, 2), 1);
        CHECK.due("96 from hour 23", x.year(9, 96, 0, 2), 4);
        CHECK.unfit("0 steps", () -> x.year(9, 0, 0, 2));
        CHECK.unfit("97 steps", () -> x.year(9, 97, 0, 2));
        CHECK.unfit("q -1", () -> x.year(9, 1, -1, 2));
        CHECK.unfit("q 17", () -> x.year(9, 1, 17, 2));
        CHECK.unfit("what 4", () -> x.year(9, 1, 0, 4));
        CHECK.unfit("what -1", () -> x.year(9, 1, 0, -1));
    }

    /** DRAW by 16 below Q: by 0 never, by 16 each time. */
    private static void yearBeds() {
        HopedHours x = Check.made("street 0;man 0 0 1;");
        for (int seed = -40; seed <= 40; seed++) {
            CHECK.due("q 0", x.year(seed, 96, 0, 3), 1);
            CHECK.due("q 16, an odd number", x.year(seed, 95, 16, 3), 0);
            CHECK.due("q 16, an even one", x.year(seed, 96, 16, 3), 1);
        }
        HopedHours y = Check.made("street 0;man 0 0 1;");
        Check.work(y, "bed 0;");
        CHECK.due("in bed at first", y.year(3, 96, 0, 3), 0);
        CHECK.due("up by one step", y.year(3, 1, 16, 3), 1);
    }

    private static int drawn(int seed, int times) {
        int state = seed;
        for (int i = 0; i < times; i++) {
            state = state * 1103515245 + 12345;
        }
        return state >>> 16 & 32767;
    }

    /** A go that can't be done is none: no other street, no lane, in bed. */
    private static void yearGoes() {
        HopedHours one = Check.made("street 0;man 0 0 1;sleeper 0 0;");
        CHECK.due("one street", one.year(5, 96, 3, 0), 0);
        CHECK.due("nobody wakes by no go", one.year(5, 96, 3, 1), 0);
        HopedHours apart = Check.made("street 0;street 0;man 0 0 1;");
        CHECK.due("no lane", apart.year(5, 96, 0, 0), 0);
        HopedHours bed = Check.made("street 0;street 0;lane 0 1;man 0 0 1;");
        Check.work(bed, "bed 0;");
        CHECK.due("in bed", bed.year(5, 96, 0, 0), 0);
        HopedHours x = Check.made("street 0;street 0;lane 0 1;man 0 0 1;");
        for (int seed : new int[] {0, 1, 2, 3, -1, Integer.MAX_VALUE, Integer.MIN_VALUE}) {
            CHECK.due("the second draw, seed " + seed, x.year(seed, 1, 0, 0), drawn(seed, 2) % 2);
            int bedAt = drawn(seed, 3) % 16;
            CHECK.due("the third draw is no less", x.year(seed, 1, bedAt, 3), 1);
            CHECK.due("the third draw is below", x.year(seed, 1, bedAt + 1, 3), 0);
        }
    }

    /** One who is awake does not wake again; behind the night's end he does. */
    private static void yearWakings() {
        HopedHours x = Check.made("street 0;street 0;lane 0 1;man 0 5 1;sleeper 0 5;sleeper 1 5;", "5");
        for (int seed = 0; seed < 20; seed++) {
            CHECK.due("each once a night", x.year(seed, 24, 0, 1) <= 2 ? 1 : 0, 1);
            CHECK.due("four nights", x.year(seed, 96, 0, 1) <= 8 ? 1 : 0, 1);
            CHECK.due("wakings of four nights", x.year(seed, 96, 0, 1) > x.year(seed, 24, 0, 1) ? 1 : 0, 1);
        }
        Check.work(x, "call 0;go 0 1;");
        CHECK.due("both are awake", x.told(7), 3);
        CHECK.due("nobody wakes", x.year(3, 24, 0, 1), 0);
        CHECK.due("behind the night's end", x.year(3, 40, 0, 1) > 0 ? 1 : 0, 1);
    }

    private static void seedsThatWrap() {
        HopedHours x = Check.made("street 0;street 0;lane 0 1;man 0 5 1;man 1 6 1;sleeper 0 7;sleeper 1 8;");
        for (int what = 0; what <= 1; what++) {
            int edge = x.year(Integer.MAX_VALUE, 40, 2, 1);
            int behind = x.year(Integer.MIN_VALUE, 40, 2, 1);
            int due = what == 0 ? Math.min(edge, behind) : Math.max(edge, behind);
            CHECK.due("behind the most comes the least", x.span(Integer.MAX_VALUE, 2, 40, 2, what, 0), due);
            CHECK.due("from -1 to 0", x.span(-1, 2, 40, 2, what, 0), what == 0
                    ? Math.min(x.year(-1, 40, 2, 1), x.year(0, 40, 2, 1)) : Math.max(x.year(-1, 40, 2, 1), x.year(0, 40, 2, 1)));
        }
    }

    private static void spanEdges() {
        HopedHours x = Check.made("street 0;street 0;lane 0 1;man 0 5 1;sleeper 0 7;sleeper 1 8;");
        CHECK.due("one seed, fewest", x.span(4, 1, 96, 16, 0, 0), x.year(4, 96, 16, 1));
        CHECK.due("one seed, most", x.span(4, 1, 96, 16, 1, 1), x.year(4, 96, 16, 1));
        int fewest = 99;
        int most = 0;
        for (int i = 0; i < 20; i++) {
            fewest = Math.min(fewest, x.year(100 + i, 96, 0, 1));
            most = Math.max(most, x.year(100 + i, 96, 0, 1));
        }
        CHECK.due("20 seeds, fewest", x.span(100, 20, 96, 0, 0, 0), fewest);
        CHECK.due("20 seeds, most", x.span(100, 20, 96, 0, 1, 0), most);
        CHECK.due("one step", x.span(100, 20, 1, 0, 1, 0), 0);
        int[][] wrong = {{0, 1, 0, 0, 0}, {21, 1, 0, 0, 0}, {-1, 1, 0, 0, 0}, {1, 0, 0, 0, 0}, {1, 97, 0, 0, 0},
            {1, 1, -1, 0, 0}, {1, 1, 17, 0, 0}, {1, 1, 0, -1, 0}, {1, 1, 0, 3, 0}, {1, 1, 0, 0, -1}, {1, 1, 0, 0, 2},
            {1, 1, 0, 1, 2}, {1, 1, 0, 2, 2}, {21, 97, 17, 3, 2}};
        for (int[] a : wrong) {
            CHECK.unfit("span", () -> x.span(1, a[0], a[1], a[2], a[3], a[4]));
        }
        CHECK.due("counted, as arguments", x.status(1), wrong.length);
        CHECK.due("and not as missing", x.status(0), 0);
        HopedHours y = Check.made("street 0;man 0 0 1;");
        CHECK.unfit("no sleepers, fewest", () -> y.span(1, 1, 1, 0, 0, 0));
        CHECK.unfit("no sleepers, most", () -> y.span(1, 1, 1, 0, 1, 0));
        CHECK.unfit("no sleepers, awake", () -> y.span(1, 1, 1, 0, 2, 0));
    }

    /** By how many a SLEEPER is awake then: none to all. */
    private static void spanSleepers() {
        HopedHours x = Check.made("street 0;street 0;lane 0 1;man 0 5 1;sleeper 0 5;sleeper 1 9;", "5");
        CHECK.due("asleep", x.span(1, 20, 1, 0, 2, 1), 0);
        Check.work(x, "call 0;");
        CHECK.due("awake by all 20", x.span(1, 20, 1, 0, 2, 0), 20);
        CHECK.due("awake by one", x.span(1, 1, 23, 0, 2, 0), 1);
        CHECK.due("the night has ended, nobody called since", x.span(1, 20, 24, 0, 2, 0), 0);
        CHECK.due("the last sleeper sleeps", x.span(1, 20, 23, 0, 2, 1), 0);
        int awake = 0;
        HopedHours y = Check.made("street 0;street 0;lane 0 1;man 0 5 1;sleeper 1 5;", "5");
        for (int seed = 0; seed < 20; seed++) {
            awake += drawn(seed, 2) % 2;
        }
        CHECK.due("by those who go", y.span(0, 20, 1, 0, 2, 0), awake);
        CHECK.due("some, not all", awake > 0 && awake < 20 ? 1 : 0, 1);
    }
}
