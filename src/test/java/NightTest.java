/** Promises 28 to 37: the night as it is. */
public final class NightTest {
    private static final Check CHECK = new Check("NightTest");
    // 0 - 1 - 2, 3 - 4
    private static final String TOWN = "street 0;street 0;street 0;street 0;street 0;lane 0 1;lane 1 2;lane 3 4;"
            + "man 0 6 9;man 2 7 9;man 4 6 9;sleeper 1 6;sleeper 1 7;sleeper 2 7;sleeper 3 6;";

    public static void main(String[] args) {
        soundsAndSilent();
        busiest();
        reachAndFarthest();
        range();
        late();
        agree();
        waker();
        deepest();
        CHECK.end();
    }

    private static void soundsAndSilent() {
        HopedHours x = Check.made(TOWN);
        CHECK.due("silent at first", x.silent(), 31);
        CHECK.due("no sounds at first", x.sounds(0), 0);
        Check.work(x, "call 0;call 2;call 1;");
        CHECK.due("6", x.sounds(6), 1 | 16);
        CHECK.due("7", x.sounds(7), 4);
        CHECK.due("silent", x.silent(), 2 | 8);
        Check.work(x, "call 2;again 23[hour;];");
        CHECK.due("heard last", x.sounds(7), 4 | 16);
        CHECK.due("no more", x.sounds(6), 1);
        Check.work(x, "hour;");
        CHECK.due("another night", x.sounds(7), 0);
        CHECK.due("silent again", x.silent(), 31);
        CHECK.unfit("sounds(24)", () -> x.sounds(24));
        CHECK.unfit("sounds(-1)", () -> x.sounds(-1));
    }

    private static void busiest() {
        HopedHours x = Check.made(TOWN);
        CHECK.due("none did", x.busiest(0), -1);
        CHECK.due("none did", x.busiest(1), -1);
        Check.work(x, "call 2;call 1;");
        CHECK.due("the first of alike ones", x.busiest(0), 1);
        CHECK.due("once", x.busiest(1), 1);
        Check.work(x, "call 2;again 24[hour;];");
        CHECK.due("most", x.busiest(0), 2);
        CHECK.due("twice, all nights", x.busiest(1), 2);
        CHECK.unfit("busiest(2)", () -> x.busiest(2));
        CHECK.unfit("busiest(-1)", () -> x.busiest(-1));
    }

    private static void reachAndFarthest() {
        HopedHours x = Check.made(TOWN + "man 1 0 1;");
        CHECK.due("reach 0", x.reach(0), 7);
        CHECK.due("reach 1", x.reach(1), 7);
        CHECK.due("reach 2", x.reach(2), 24);
        int[] lanes = {2, 2, 1, 1};
        int[] streets = {2, 0, 3, 0};
        for (int man = 0; man < 4; man++) {
            CHECK.due("farthest lanes " + man, x.farthest(man, 0), lanes[man]);
            CHECK.due("farthest street " + man, x.farthest(man, 1), streets[man]);
        }
        HopedHours y = Check.made("street 0;".repeat(9)
                + "lane 0 1;lane 1 2;lane 2 3;lane 3 4;lane 4 5;lane 5 6;lane 6 7;lane 7 8;man 0 0 1;man 8 0 1;");
        CHECK.due("the longest reach", y.reach(0), 511);
        CHECK.due("the farthest", y.farthest(0, 0), 8);
        CHECK.due("the farthest", y.farthest(0, 1), 8);
        CHECK.due("and back", y.farthest(1, 1), 0);
        HopedHours z = Check.made("street 0;street 0;man 1 0 1;");
        CHECK.due("alone", z.reach(0), 2);
        CHECK.due("alone", z.farthest(0, 0), 0);
        CHECK.due("alone", z.farthest(0, 1), 1);
        CHECK.missing("reach", () -> z.reach(1));
        CHECK.missing("reach -1", () -> z.reach(-1));
        CHECK.missing("farthest, ahead of others", () -> z.farthest(1, 2));
        CHECK.unfit("farthest what 2", () -> z.farthest(0, 2));
        CHECK.unfit("farthest what -1", () -> z.farthest(0, -1));
    }

    private static void range() {
        HopedHours x = Check.made(TOWN);
        CHECK.due("one hour", x.range(0), 1 << 6);
        Check.law(x, "street * 2 + men + hour");
        Check.work(x, "hour;");
        // others are in 2 and 4
        CHECK.due("each street", x.range(0), 1 << 1 | 1 << 3 | 1 << 6 | 1 << 7 | 1 << 10);
        CHECK.missing("range", () -> x.range(3));
        CHECK.missing("range -1", () -> x.range(-1));
    }

    private static void late() {
        HopedHours x = Check.made("street 0;man 0 23 1;man 0 11 1;man 0 12 1;man 0 13 1;");
        int[] at0 = {1, 11, 12, 11};
        int[] at1 = {2, 10, 11, 12};
        for (int man = 0; man < 4; man++) {
            CHECK.due("late " + man, x.late(man), at0[man]);
        }
        Check.work(x, "hour;");
        for (int man = 0; man < 4; man++) {
            CHECK.due("late an hour on " + man, x.late(man), at1[man]);
        }
        Check.law(x, "street * 5 + hour");
        CHECK.due("not late", x.late(0), 0);
        CHECK.missing("late", () -> x.late(4));
        CHECK.missing("late -1", () -> x.late(-1));
    }

    private static void agree() {
        HopedHours x = Check.made(TOWN + "man 2 6 1;");
        CHECK.due("0 2, 0 3, 2 3", x.agree(0), 3);
        CHECK.due("the first", x.agree(1), 2);
        Check.work(x, "call 0;bed 2;");
        CHECK.due("0 1, 2 3, in bed, too", x.agree(0), 2);
        CHECK.due("the first", x.agree(1), 1);
        Check.law(x, "street");
        CHECK.due("each in his own street", x.agree(0), 1);
        CHECK.due("1 3", x.agree(1), 13);
        HopedHours y = Check.made("street 0;man 0 1 1;man 0 2 1;");
        CHECK.due("none", y.agree(0), 0);
        CHECK.due("none", y.agree(1), -1);
        CHECK.unfit("agree(2)", () -> y.agree(2));
        CHECK.unfit("agree(-1)", () -> y.agree(-1));
    }

    private static void waker() {
        HopedHours x = Check.made(TOWN + "man 1 9 1;man 1 7 1;");
        int[] men = {0, 4, 4, 2};
        int[] lanes = {1, 0, 1, 1};
        // man 1 is in street 2 himself and says 7 there
        men[2] = 1;
        lanes[2] = 0;
        for (int sleeper = 0; sleeper < 4; sleeper++) {
            CHECK.due("waker of " + sleeper, x.waker(sleeper, 0), men[sleeper]);
            CHECK.due("lanes of " + sleeper, x.waker(sleeper, 1), lanes[sleeper]);
        }
        Check.work(x, "bed 1;go 4 2;");
        // man 1 is in bed, man 4 says 8 now
        CHECK.due("in bed, too", x.waker(1, 0), 1);
        CHECK.due("by a lane", x.waker(1, 1), 1);
        Check.work(x, "call 2;");
        CHECK.due("nobody there says it", x.waker(3, 0), -1);
        CHECK.due("nobody there says it", x.waker(3, 1), -1);
        Check.law(x, "6");
        CHECK.due("0 and 1 and 4 are as near, 3 is there", x.waker(0, 0), 3);
        Check.work(x, "bed 3;go 3 0;bed 3;go 3 0;");
        CHECK.due("the first of alike ones", x.waker(0, 0), 0);
        CHECK.due("a lane", x.waker(0, 1), 1);
        CHECK.missing("waker, ahead of others", () -> x.waker(4, 2));
        CHECK.missing("waker -1", () -> x.waker(-1, 0));
        CHECK.unfit("waker what 2", () -> x.waker(0, 2));
        CHECK.unfit("waker what -1", () -> x.waker(0, -1));
    }

    private static void deepest() {
        HopedHours x = Check.made(TOWN);
        CHECK.due("street 1", x.deepest(0), 1);
        CHECK.due("two", x.deepest(1), 2);
        Check.work(x, "go 0 1;");
        CHECK.due("the first of alike ones", x.deepest(0), 1);
        CHECK.due("one", x.deepest(1), 1);
        Check.work(x, "call 0;");
        CHECK.due("street 2", x.deepest(0), 2);
        Check.work(x, "call 1;go 2 3;");
        CHECK.due("all are awake", x.deepest(0), -1);
        CHECK.due("all are awake", x.deepest(1), -1);
        CHECK.due("no sleepers", new HopedHours().deepest(0), -1);
        CHECK.unfit("deepest(2)", () -> x.deepest(2));
        CHECK.unfit("deepest(-1)", () -> x.deepest(-1));
    }
}
