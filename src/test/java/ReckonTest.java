/** Promises 24 to 27: whom to believe, a roster, the thief, lamp oil. */
public final class ReckonTest {
    private static final Check CHECK = new Check("ReckonTest");

    public static void main(String[] args) {
        believe();
        roster();
        thief();
        oil();
        CHECK.end();
    }

    private static void fraction(int n, int q, long above, long below) {
        HopedHours x = new HopedHours();
        CHECK.due("believe above " + n + " " + q, x.believe(n, q, 0), above);
        CHECK.due("believe below " + n + " " + q, x.believe(n, q, 1), below);
    }

    private static void believe() {
        fraction(1, 0, 0, 1);
        fraction(1, 1, 1, 16);
        fraction(1, 12, 3, 4);
        fraction(1, 16, 1, 1);
        fraction(3, 4, 5, 32);
        fraction(3, 8, 1, 2);
        // 3 * 9 * 7 + 27 over 64 times 64
        fraction(3, 12, 27, 32);
        fraction(9, 16, 1, 1);
        fraction(9, 0, 0, 1);
        fraction(9, 12, 124659, 131072);
        fraction(7, 3, 1789857, 67108864);
        for (int n = 1; n <= 9; n += 2) {
            for (int q = 0; q <= 16; q++) {
                countedFraction(n, q);
            }
        }
        HopedHours x = new HopedHours();
        for (int n : new int[] {-1, 0, 2, 8, 10, 11}) {
            CHECK.unfit("believe n " + n, () -> x.believe(n, 1, 0));
        }
        CHECK.unfit("q -1", () -> x.believe(1, -1, 0));
        CHECK.unfit("q 17", () -> x.believe(1, 17, 0));
        CHECK.unfit("part -1", () -> x.believe(1, 1, -1));
        CHECK.unfit("part 2", () -> x.believe(1, 1, 2));
    }

    /** By counting each of the 2 to the n ways in which the men are right or wrong. */
    private static void countedFraction(int n, int q) {
        long sum = 0;
        for (int right = 0; right < 1 << n; right++) {
            if (2 * Integer.bitCount(right) > n) {
                long ways = 1;
                for (int man = 0; man < n; man++) {
                    ways *= (right >> man & 1) == 1 ? q : 16 - q;
                }
                sum += ways;
            }
        }
        long shared = java.math.BigInteger.valueOf(sum).gcd(java.math.BigInteger.valueOf(1L << 4 * n)).longValue();
        fraction(n, q, sum / shared, (1L << 4 * n) / shared);
    }

    private static void roster() {
        HopedHours x = Check.made("street 0;man 0 6 12;man 0 22 4;man 0 0 24;man 0 2 1;man 0 3 3;");
        CHECK.due("no hours", x.roster(0), 0);
        CHECK.due("hour 6", x.roster(1 << 6), 1);
        CHECK.due("hour 17", x.roster(1 << 17), 1);
        CHECK.due("hour 18", x.roster(1 << 18), 4);
        CHECK.due("hours 22 to 1", x.roster(3 << 22 | 3), 2);
        CHECK.due("hour 2", x.roster(1 << 2), 4);
        CHECK.due("hour 5", x.roster(1 << 5), 4);
        CHECK.due("all hours", x.roster(0xffffff), 4);
        HopedHours y = Check.made("street 0;man 0 6 12;man 0 22 4;man 0 7 1;man 0 2 1;man 0 3 3;man 0 18 4;");
        CHECK.due("all hours by five", y.roster(0xffffff), 1 | 2 | 8 | 16 | 32);
        CHECK.due("hour 7 by the least", y.roster(1 << 7), 1);
        CHECK.due("hours 1, 2", y.roster(6), 2 | 8);
        CHECK.due("hours 1, 7", y.roster(1 << 1 | 1 << 7), 3);
        Check.work(y, "bed 0;");
        CHECK.due("in bed, too", y.roster(1 << 8), 1);
        HopedHours z = Check.made("street 0;man 0 6 12;");
        CHECK.due("nobody walks then", z.roster(1 << 18), -1);
        CHECK.unfit("bit 24", () -> z.roster(1 << 24));
        CHECK.unfit("below 0", () -> z.roster(-1));
    }

    private static void thief() {
        HopedHours x = Check.made("street 5;street 9;street 2;street 7;lane 0 1;lane 1 2;lane 2 3;");
        CHECK.due("k 0: street 1 whatever is lit", x.thief(0, 0), 4);
        CHECK.due("first", x.thief(0, 1), 10);
        CHECK.due("loot", x.thief(0, 2), 9);
        // k 2: street 1 has 7 while 0, 1 or 2 is lit; lit 2 lights 3, too (5); lit 0 or 1 leaves 7 in street 3
        CHECK.due("k 2", x.thief(2, 0), 3);
        CHECK.due("k 2 first", x.thief(2, 1), 10);
        CHECK.due("k 2 loot", x.thief(2, 2), 7);
        CHECK.due("k 10", x.thief(10, 0), 0);
        CHECK.due("k 10 first", x.thief(10, 1), -1);
        CHECK.due("k 10 loot", x.thief(10, 2), 0);
        HopedHours y = Check.made("street 1;");
        CHECK.due("one street", y.thief(60, 0), 1);
        CHECK.due("one street first", y.thief(60, 1), 0);
        CHECK.due("below 0", y.thief(60, 2), -59);
        HopedHours z = Check.made("street 4;street 6;lane 1 0;");
        CHECK.due("both are lit by each", z.thief(3, 0), 2);
        CHECK.due("the first", z.thief(3, 1), 10);
        CHECK.due("loot", z.thief(3, 2), 3);
        CHECK.unfit("k -1", () -> z.thief(-1, 0));
        CHECK.unfit("k 61", () -> z.thief(61, 0));
        CHECK.unfit("what -1", () -> z.thief(0, -1));
        CHECK.unfit("what 3", () -> z.thief(0, 3));
    }

    private static void oil() {
        HopedHours x = Check.made("street 0;man 0 0 12;man 0 0 2;man 0 0 5;man 0 0 24;");
        int[] all = {12, 2, 5, 0};
        for (int man = 0; man < 4; man++) {
            CHECK.due("all of 19", x.oil(man, 7, 19), all[man]);
            CHECK.due("all of 999", x.oil(man, 7, 999), all[man]);
            CHECK.due("a bound of 1", x.oil(man, 7, 5), man < 3 ? 1 : 0);
            CHECK.due("nothing", x.oil(man, 15, 0), 0);
            CHECK.due("nobody", x.oil(man, 0, 9), 0);
        }
        CHECK.due("a bound of 11", x.oil(0, 7, 18), 11);
        CHECK.due("below the bound", x.oil(1, 7, 18), 2);
        CHECK.due("a bound of 4", x.oil(2, 7, 10), 4);
        CHECK.due("a bound of 3, one is left", x.oil(2, 7, 9), 3);
        CHECK.due("24 of 24", x.oil(3, 8, 24), 24);
        CHECK.due("23 of 23", x.oil(3, 8, 23), 23);
        CHECK.due("none of them", x.oil(3, 7, 99), 0);
        CHECK.missing("no such man, ahead of others", () -> x.oil(4, 16, -1));
        CHECK.missing("man -1", () -> x.oil(-1, 0, 0));
        CHECK.unfit("bits of no men", () -> x.oil(0, 16, 0));
        CHECK.unfit("bits below 0", () -> x.oil(0, -1, 0));
        CHECK.unfit("n -1", () -> x.oil(0, 1, -1));
        CHECK.unfit("n 1000", () -> x.oil(0, 1, 1000));
    }
}
