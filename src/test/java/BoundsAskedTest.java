/** The bounds of what is asked of the night and of the ways in it: "==== 3.", promises 9 to 13, 15 to 18, 21 to 23, 28 to 37. */
public final class BoundsAskedTest {
    private static final Check CHECK = new Check("BoundsAskedTest");
    private static final String NINE = "street 1;".repeat(9);
    // 0 - 1 - .. - 8
    private static final String LINE = NINE
            + "lane 0 1;lane 1 2;lane 2 3;lane 3 4;lane 4 5;lane 5 6;lane 6 7;lane 7 8;";

    public static void main(String[] args) {
        nothingIsTold();
        streetsAlone();
        lastOnes();
        saysAndWakes();
        nearest();
        raiseNobody();
        raiseAll();
        raiseOfAsFew();
        ways();
        waysPast();
        shut();
        soundsAndSilent();
        busiest();
        reachAndFarthest();
        range();
        late();
        agree();
        waker();
        deepest();
        nothingStaysChanged();
        CHECK.end();
    }

    private static void nothingIsTold() {
        HopedHours x = new HopedHours();
        CHECK.due("raise nobody", x.raise(0), 0);
        CHECK.unfit("raise one", () -> x.raise(1));
        CHECK.due("silent", x.silent(), 0);
        CHECK.due("busiest", x.busiest(0) + x.busiest(1), -2);
        CHECK.due("agree", x.agree(0), 0);
        CHECK.due("agree", x.agree(1), -1);
        CHECK.due("deepest", x.deepest(0) + x.deepest(1), -2);
        for (int hour = 0; hour < 24; hour++) {
            CHECK.due("sounds", x.sounds(hour), 0);
        }
    }

    private static void streetsAlone() {
        HopedHours x = Check.made(NINE);
        CHECK.due("silent", x.silent(), 511);
        CHECK.due("no lanes", x.street(8, 1), 0);
        CHECK.due("no men", x.street(8, 2), 0);
        CHECK.due("no sleepers", x.street(8, 3), 0);
        CHECK.due("nothing heard", x.street(8, 4), -1);
        CHECK.missing("no man", () -> x.says(0, 0));
        CHECK.missing("no man", () -> x.reach(0));
        CHECK.missing("no sleeper", () -> x.waker(0, 0));
    }

    /** The last of each, and the first behind it. */
    private static void lastOnes() {
        HopedHours x = Check.made(LINE + "lane 8 0;lane 0 2;lane 0 3;lane 0 4;lane 0 5;lane 6 0;" + "man 8 23 24;".repeat(6)
                + "sleeper 8 23;".repeat(8));
        CHECK.due("street 8", x.street(8, 0), 1);
        CHECK.due("its lanes", x.street(8, 1), 128 | 1);
        CHECK.due("its men", x.street(8, 2), 63);
        CHECK.due("its sleepers", x.street(8, 3), 255);
        CHECK.due("lane 13", x.lane(13, 0), 6);
        CHECK.due("man 5", x.man(5, 2), 24);
        CHECK.due("sleeper 7", x.sleeper(7, 1), 23);
        Check.work(x, "call 5;");
        CHECK.due("all are awake", x.told(7), 255);
        CHECK.due("sleeper 7 is awake", x.sleeper(7, 2), 1);
        CHECK.due("heard last", x.street(8, 4), 23);
        CHECK.due("says", x.says(5, 8), 0);
        CHECK.due("wakes awake ones", x.wakes(4, 8), 255);
        CHECK.missing("street 9", () -> x.street(9, 0));
        CHECK.missing("lane 14", () -> x.lane(14, 0));
        CHECK.missing("man 6", () -> x.man(6, 0));
        CHECK.missing("sleeper 8", () -> x.sleeper(8, 0));
    }

    /** Were he in it now, up; others where they are; calls as by now. */
    private static void saysAndWakes() {
        HopedHours x = Check.made("street 0;street 0;man 0 6 1;man 0 6 1;man 1 6 1;sleeper 0 7;sleeper 0 8;sleeper 1 6;",
                "hope+men");
        CHECK.due("one other", x.says(0, 0), 7);
        CHECK.due("two others, where no lane leads", x.says(2, 0), 8);
        CHECK.due("wakes", x.wakes(2, 0), 2);
        CHECK.due("one other", x.wakes(0, 0), 1);
        Check.work(x, "bed 0;");
        CHECK.due("in bed he says it, too", x.says(0, 0), 7);
        CHECK.due("one in bed is no other", x.says(1, 0), 6);
        CHECK.due("nobody wakes at 6", x.wakes(1, 0), 0);
        CHECK.due("from elsewhere", x.says(2, 0), 7);
    }

    private static void nearest() {
        HopedHours x = Check.made(LINE + "man 0 0 1;man 8 0 1;man 4 0 1;", "street");
        CHECK.due("where he is", x.nearest(0, 0, 0) * 10 + x.nearest(0, 0, 1), 0);
        CHECK.due("the longest way", x.nearest(0, 8, 0) * 10 + x.nearest(0, 8, 1), 88);
        CHECK.due("and back", x.nearest(1, 0, 0) * 10 + x.nearest(1, 0, 1), 80);
        CHECK.due("nowhere", x.nearest(0, 9, 0) + x.nearest(0, 9, 1), -2);
        CHECK.due("hour 23 nowhere", x.nearest(0, 23, 0) + x.nearest(0, 23, 1), -2);
        Check.law(x, "23-street%2");
        CHECK.due("hour 23 where he is", x.nearest(2, 23, 0) * 10 + x.nearest(2, 23, 1), 4);
        CHECK.due("of as near ones the least", x.nearest(2, 22, 0) * 10 + x.nearest(2, 22, 1), 13);
        HopedHours y = Check.made("street 0;street 0;man 0 5 1;", "street");
        CHECK.due("where no lane leads", y.nearest(0, 1, 0) + y.nearest(0, 1, 1), -2);
        CHECK.due("hour 0", y.nearest(0, 0, 0) + y.nearest(0, 0, 1), 0);
    }

    private static void raiseNobody() {
        HopedHours x = Check.made("street 0;" + "sleeper 0 5;".repeat(8));
        CHECK.due("nobody", x.raise(0), 0);
        CHECK.due("no men", x.raise(1), -1);
        CHECK.due("no men", x.raise(255), -1);
        CHECK.unfit("a 9th", () -> x.raise(256));
        CHECK.unfit("below", () -> x.raise(-1));
        CHECK.unfit("the least", () -> x.raise(Integer.MIN_VALUE));
        HopedHours y = Check.made("street 0;sleeper 0 5;sleeper 0 6;man 0 5 1;");
        CHECK.due("both are told", y.raise(3), -1);
        CHECK.unfit("a 3rd", () -> y.raise(4));
        CHECK.due("the last of them", y.raise(2), -1);
    }

    private static void raiseAll() {
        HopedHours x = Check.made("street 0;" + "sleeper 0 5;".repeat(8) + "man 0 6 1;".repeat(5) + "man 0 5 1;");
        CHECK.due("all by the last man", x.raise(255), 32);
        CHECK.due("the last by the last man", x.raise(128), 32);
        Check.work(x, "bed 5;");
        CHECK.due("in bed, too", x.raise(255), 32);
        HopedHours y = Check.made(NINE + "man 0 5 1;".repeat(6)
                + "sleeper 0 5;sleeper 1 5;sleeper 2 5;sleeper 3 5;sleeper 4 5;sleeper 8 5;sleeper 8 5;sleeper 7 5;");
        CHECK.due("six streets by six men", y.raise(127), 63);
        CHECK.due("seven streets by six men", y.raise(255), -1);
        CHECK.due("two of one street by one man", y.raise(96), 1);
        Check.work(y, "call 1;");
        CHECK.due("who called says another hour", y.raise(1 | 2), 5);
        CHECK.due("the awake one is told, too", y.raise(1), 1);
    }

    /** Of as few the least bits; fewest come ahead of least. */
    private static void raiseOfAsFew() {
        HopedHours x = Check.made("street 0;street 0;man 0 5 1;man 0 6 1;man 0 7 1;man 0 5 1;"
                + "sleeper 0 5;sleeper 1 6;sleeper 1 7;", "hope+street*(7-hope)*(hope/6)");
        CHECK.due("says 7 in street 1", x.says(1, 1), 7);
        CHECK.due("the least of two", x.raise(1), 1);
        CHECK.due("the least of two who say 7", x.raise(4), 2);
        CHECK.due("nobody says 6 there", x.raise(2), -1);
        HopedHours y = Check.made("street 0;man 0 5 1;man 0 6 1;man 0 7 1;sleeper 0 5;sleeper 0 6;", "least[hope,street+6]");
        CHECK.due("two hours by two men", y.raise(3), 3);
        HopedHours z = Check.made("street 0;street 0;man 0 5 1;man 0 5 2;man 0 5 3;sleeper 0 5;sleeper 1 5;",
                "hope+street*(walks%2)");
        // men 0 and 2 say 6 in street 1, man 1 says 5 in both
        CHECK.due("man 1 must be in street 1", z.raise(3), 3);
        CHECK.due("man 1 alone", z.raise(2), 2);
        CHECK.due("man 0 is the least", z.raise(1), 1);
    }

    private static void ways() {
        HopedHours x = Check.made(LINE);
        CHECK.due("the longest", x.way(0, 8), 8);
        CHECK.due("and back", x.way(8, 0), 8);
        CHECK.due("one street", x.way(8, 8) + x.way(0, 0), 0);
        CHECK.due("one lane", x.way(7, 8), 1);
        HopedHours y = Check.made("street 0;street 0;");
        CHECK.due("no way", y.way(0, 1) + y.way(1, 0), -2);
        CHECK.due("one street", y.way(1, 1), 0);
    }

    /** The first and the last one, too; heard last alone counts. */
    private static void waysPast() {
        HopedHours x = Check.made(LINE + "man 4 23 1;man 0 0 1;");
        CHECK.due("nothing was heard", x.past(0, 8, 23) + x.past(0, 8, 0), 16);
        Check.work(x, "call 0;");
        CHECK.due("none past it", x.past(0, 8, 23), -1);
        CHECK.due("another hour", x.past(0, 8, 0) + x.past(0, 8, 22), 16);
        CHECK.due("up to it", x.past(0, 3, 23), 3);
        CHECK.due("behind it", x.past(5, 8, 23), 3);
        CHECK.due("the last one", x.past(0, 4, 23), -1);
        CHECK.due("the first one", x.past(4, 8, 23), -1);
        CHECK.due("that one alone", x.past(4, 4, 23), -1);
        CHECK.due("another alone", x.past(5, 5, 23), 0);
        Check.work(x, "call 0;");
        CHECK.due("0 is heard last", x.past(0, 8, 23), 8);
        CHECK.due("none past 0", x.past(0, 8, 0), -1);
        Check.work(x, "again 24[hour;];");
        CHECK.due("nothing is heard any more", x.past(0, 8, 0), 8);
        CHECK.missing("no street ahead of no hour", () -> x.past(9, 0, 24));
        CHECK.missing("no other ahead of no hour", () -> x.past(0, -1, -1));
        CHECK.unfit("hour 24", () -> x.past(0, 0, 24));
        CHECK.unfit("hour -1", () -> x.past(0, 0, -1));
    }

    private static void shut() {
        HopedHours x = Check.made(LINE);
        CHECK.due("a lane between", x.shut(7, 8), -1);
        CHECK.due("the least of seven", x.shut(0, 8), 2);
        CHECK.due("and back", x.shut(8, 0), 2);
        CHECK.due("the only one between", x.shut(6, 8), 128);
        CHECK.unfit("one street", () -> x.shut(8, 8));
        CHECK.unfit("one street", () -> x.shut(0, 0));
        CHECK.missing("no street, twice", () -> x.shut(9, 9));
        HopedHours y = Check.made("street 0;street 0;");
        CHECK.due("no way, none to shut", y.shut(0, 1), 0);
        HopedHours z = Check.made(NINE + "lane 1 0;lane 2 0;lane 3 0;lane 4 0;lane 5 0;lane 6 0;lane 7 0;"
                + "lane 1 8;lane 2 8;lane 3 8;lane 4 8;lane 5 8;lane 6 8;lane 7 8;");
        CHECK.due("all seven others", z.shut(0, 8), 254);
        CHECK.due("the ends alone", z.shut(3, 4), 257);
        // two of 0 - 1 - 2 - 5 and 0 - 3 - 4 - 5: the least bits are 1 and 3
        HopedHours w = Check.made("street 0;".repeat(6) + "lane 0 1;lane 1 2;lane 2 5;lane 0 3;lane 3 4;lane 4 5;");
        CHECK.due("of as few the least", w.shut(0, 5), 2 | 8);
        // one that all ways have comes ahead of lesser bits of two
        HopedHours v = Check.made("street 0;".repeat(5) + "lane 0 1;lane 0 2;lane 1 3;lane 2 3;lane 3 4;");
        CHECK.due("fewest first", v.shut(0, 4), 8);
    }

    private static void soundsAndSilent() {
        HopedHours x = Check.made(NINE + "lane 0 8;man 0 0 1;man 8 23 1;", "hope");
        CHECK.due("all are silent", x.silent(), 511);
        Check.work(x, "call 0;call 1;");
        CHECK.due("0", x.sounds(0), 1);
        CHECK.due("23", x.sounds(23), 256);
        CHECK.due("silent", x.silent(), 254);
        Check.work(x, "go 1 0;");
        CHECK.due("heard last", x.sounds(0), 0);
        CHECK.due("in two", x.sounds(23), 257);
        Check.work(x, "again 23[hour;];");
        CHECK.due("hour 23", x.silent(), 254);
        Check.work(x, "hour;");
        CHECK.due("hour 0", x.silent(), 511);
        CHECK.due("no sound", x.sounds(23), 0);
    }

    private static void busiest() {
        HopedHours x = Check.made("street 0;" + "man 0 0 1;".repeat(6));
        CHECK.due("none did", x.busiest(0) + x.busiest(1), -2);
        Check.work(x, "call 5;");
        CHECK.due("the last", x.busiest(0) * 10 + x.busiest(1), 51);
        Check.work(x, "call 4;");
        CHECK.due("the first of alike ones", x.busiest(0) * 10 + x.busiest(1), 41);
        Check.work(x, "bed 5;call 5;bed 5;call 5;");
        CHECK.due("a refused call is none", x.busiest(0) * 10 + x.busiest(1), 52);
        Check.work(x, "again 60[call 0;call 0;call 0;call 0;];");
        CHECK.due("199 of one work", x.busiest(0) * 1000 + x.busiest(1), 199);
    }

    private static void reachAndFarthest() {
        HopedHours x = Check.made(LINE + "man 0 0 1;man 8 0 1;man 4 0 1;");
        CHECK.due("all", x.reach(0) & x.reach(1) & x.reach(2), 511);
        CHECK.due("farthest of 0", x.farthest(0, 0) * 10 + x.farthest(0, 1), 88);
        CHECK.due("farthest of 8", x.farthest(1, 0) * 10 + x.farthest(1, 1), 80);
        CHECK.due("the first such street", x.farthest(2, 0) * 10 + x.farthest(2, 1), 40);
        HopedHours y = Check.made(NINE + "lane 0 1;man 8 0 1;");
        CHECK.due("his own alone", y.reach(0), 256);
        CHECK.due("no lanes, his own", y.farthest(0, 0) * 10 + y.farthest(0, 1), 8);
        Check.work(y, "bed 0;");
        CHECK.due("in bed, too", y.reach(0), 256);
    }

    private static void range() {
        HopedHours x = Check.made(NINE + "man 8 0 1;", "23-street*23/8");
        CHECK.due("0 and 23 and between", x.range(0),
                1 << 23 | 1 << 21 | 1 << 18 | 1 << 15 | 1 << 12 | 1 << 9 | 1 << 6 | 1 << 3 | 1);
        Check.law(x, "0-1");
        CHECK.due("23 alone", x.range(0), 1 << 23);
        Check.law(x, "24");
        CHECK.due("0 alone", x.range(0), 1);
    }

    /** Round the clock the shorter way, 0 to 12. */
    private static void late() {
        HopedHours x = Check.made("street 0;man 0 0 1;");
        int[] hours = {0, 11, 12, 13, 23};
        int[] due = {0, 11, 12, 11, 1};
        for (int i = 0; i < hours.length; i++) {
            Check.law(x, String.valueOf(hours[i]));
            CHECK.due("from hour 0 to " + hours[i], x.late(0), due[i]);
        }
        Check.work(x, "again 23[hour;];");
        int[] from23 = {1, 12, 11, 10, 0};
        for (int i = 0; i < hours.length; i++) {
            Check.law(x, String.valueOf(hours[i]));
            CHECK.due("from hour 23 to " + hours[i], x.late(0), from23[i]);
        }
        Check.work(x, "bed 0;");
        CHECK.due("in bed, too", x.late(0), 0);
    }

    private static void agree() {
        HopedHours one = Check.made("street 0;man 0 5 1;");
        CHECK.due("one man", one.agree(0), 0);
        CHECK.due("one man", one.agree(1), -1);
        HopedHours x = Check.made("street 0;" + "man 0 5 1;".repeat(6));
        CHECK.due("all pairs", x.agree(0), 15);
        CHECK.due("the first", x.agree(1), 1);
        HopedHours y = Check.made("street 0;man 0 1 1;man 0 2 1;man 0 3 1;man 0 4 1;man 0 5 1;man 0 5 1;");
        CHECK.due("the last pair", y.agree(0), 1);
        CHECK.due("4 and 5", y.agree(1), 45);
        Check.work(y, "call 5;");
        CHECK.due("none", y.agree(0), 0);
        CHECK.due("none", y.agree(1), -1);
    }

    private static void waker() {
        HopedHours x = Check.made(LINE + "man 0 6 1;man 0 6 1;man 8 6 1;man 8 7 1;sleeper 8 6;sleeper 0 6;sleeper 4 6;"
                + "sleeper 0 9;sleeper 0 7;");
        CHECK.due("in his own street", x.waker(0, 0) * 10 + x.waker(0, 1), 20);
        CHECK.due("the first of alike ones", x.waker(1, 0) * 10 + x.waker(1, 1), 0);
        CHECK.due("the first of as near ones", x.waker(2, 0) * 10 + x.waker(2, 1), 4);
        CHECK.due("nobody says it", x.waker(3, 0) + x.waker(3, 1), -2);
        CHECK.due("the longest way", x.waker(4, 0) * 10 + x.waker(4, 1), 38);
        Check.work(x, "bed 2;");
        CHECK.due("in bed, too", x.waker(0, 0), 2);
        Check.work(x, "bed 2;call 2;");
        CHECK.due("who called says 7 now", x.waker(0, 0) * 10 + x.waker(0, 1), 8);
        CHECK.due("two say 7, the first", x.waker(4, 0) * 10 + x.waker(4, 1), 28);
        HopedHours y = Check.made("street 0;street 0;man 0 6 1;sleeper 1 6;");
        CHECK.due("no way", y.waker(0, 0) + y.waker(0, 1), -2);
    }

    private static void deepest() {
        HopedHours x = Check.made(NINE + "lane 8 7;man 8 5 1;man 7 5 1;" + "sleeper 8 5;".repeat(4) + "sleeper 7 5;".repeat(4));
        CHECK.due("the first of alike ones", x.deepest(0) * 10 + x.deepest(1), 74);
        Check.work(x, "call 1;");
        CHECK.due("the other one", x.deepest(0) * 10 + x.deepest(1), 84);
        Check.work(x, "call 0;");
        CHECK.due("all are awake", x.deepest(0) + x.deepest(1), -2);
        Check.work(x, "again 24[hour;];");
        CHECK.due("all sleep", x.deepest(0) * 10 + x.deepest(1), 74);
        HopedHours y = Check.made("street 0;" + "sleeper 0 5;".repeat(8));
        CHECK.due("eight", y.deepest(0) * 10 + y.deepest(1), 8);
        CHECK.due("no sleepers", Check.made(NINE).deepest(1), -1);
    }

    /** Asked, nothing stays changed. */
    private static void nothingStaysChanged() {
        String town = "street 4;street 7;lane 0 1;man 0 5 3;man 1 6 4;sleeper 1 5;sleeper 0 7;";
        HopedHours x = Check.made(town);
        HopedHours y = Check.made(town);
        for (HopedHours z : new HopedHours[] {x, y}) {
            Check.work(z, "go 0 1;hour;go 0 1;");
            z.image();
            Check.work(z, "bed 1;call 0;go 0 1;");
            Check.book(z, "1 7;");
        }
        x.says(0, 0);
        x.wakes(1, 1);
        x.nearest(0, 7, 1);
        x.raise(3);
        x.who(0);
        x.listen(0);
        x.way(0, 1);
        x.past(0, 1, 7);
        x.shut(0, 1);
        x.believe(9, 7, 0);
        x.roster(7);
        x.thief(3, 0);
        x.oil(0, 3, 5);
        x.agree(0);
        x.waker(0, 0);
        x.farthest(0, 0);
        x.year(7, 96, 9, 1);
        x.span(7, 20, 96, 9, 2, 1);
        x.would(1, 1, 1, 1, 1, 1, 1, 1);
        x.status(0);
        x.count(0);
        CHECK.due("refused steps stay", x.told(9), 1);
        CHECK.same("asked", x, y);
    }
}
