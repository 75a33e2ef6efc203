/** Promises 21 to 23: ways, ways past an HOUR, STREETS to shut. */
public final class WaysTest {
    private static final Check CHECK = new Check("WaysTest");
    // a ring 0 1 2 3 4 5, a lane from 1 to 4, street 6 beside 5, street 7 alone
    private static final String TOWN = "street 0;".repeat(8)
            + "lane 0 1;lane 1 2;lane 2 3;lane 3 4;lane 4 5;lane 5 0;lane 1 4;lane 6 5;man 1 6 9;man 4 6 9;";

    public static void main(String[] args) {
        way();
        past();
        shut();
        CHECK.end();
    }

    private static void way() {
        HopedHours x = Check.made(TOWN);
        int[] fromThree = {3, 2, 1, 0, 1, 2, 3, -1};
        for (int street = 0; street < 8; street++) {
            CHECK.due("way 3 " + street, x.way(3, street), fromThree[street]);
            CHECK.due("way " + street + " 3", x.way(street, 3), fromThree[street]);
            CHECK.due("one street", x.way(street, street), 0);
        }
        CHECK.missing("way 8 0", () -> x.way(8, 0));
        CHECK.missing("way 0 8", () -> x.way(0, 8));
        CHECK.missing("way -1 0", () -> x.way(-1, 0));
        CHECK.missing("way 0 -1", () -> x.way(0, -1));
        HopedHours line = Check.made("street 0;".repeat(9)
                + "lane 0 1;lane 1 2;lane 2 3;lane 3 4;lane 4 5;lane 5 6;lane 6 7;lane 7 8;");
        CHECK.due("the longest way", line.way(0, 8), 8);
        CHECK.due("and back", line.way(8, 0), 8);
    }

    private static void past() {
        HopedHours x = Check.made(TOWN);
        CHECK.due("nothing was heard", x.past(0, 3, 6), 3);
        Check.work(x, "call 0;");
        CHECK.due("past street 1", x.past(0, 2, 6), 4);
        CHECK.due("another hour", x.past(0, 2, 7), 2);
        CHECK.due("the first one, too", x.past(1, 2, 6), -1);
        CHECK.due("the last one, too", x.past(2, 1, 6), -1);
        CHECK.due("one street where it was heard", x.past(1, 1, 6), -1);
        CHECK.due("one street where it was not", x.past(2, 2, 6), 0);
        Check.work(x, "call 1;");
        CHECK.due("no way past 1 and 4", x.past(0, 2, 6), -1);
        CHECK.due("5 and 6 are near", x.past(0, 6, 6), 2);
        Check.work(x, "call 1;");
        CHECK.due("heard last alone counts", x.past(0, 2, 6), 4);
        CHECK.missing("no such street, ahead of others", () -> x.past(8, 0, 24));
        CHECK.missing("no such other", () -> x.past(0, 8, 0));
        CHECK.unfit("hour 24", () -> x.past(0, 0, 24));
        CHECK.unfit("hour -1", () -> x.past(0, 0, -1));
    }

    private static void shut() {
        HopedHours x = Check.made(TOWN);
        CHECK.due("a lane between", x.shut(0, 1), -1);
        CHECK.due("5 alone", x.shut(6, 2), 32);
        CHECK.due("there is no way", x.shut(7, 2), 0);
        CHECK.due("1 and 5", x.shut(0, 4), 2 | 32);
        CHECK.due("1 and 4, of 1 4, 1 5, 2 4", x.shut(0, 3), 2 | 16);
        CHECK.due("and back", x.shut(3, 0), 2 | 16);
        CHECK.due("1 and 3", x.shut(2, 4), 2 | 8);
        CHECK.unfit("one street", () -> x.shut(2, 2));
        CHECK.missing("no such street, ahead of others", () -> x.shut(8, 8));
        CHECK.missing("no such other", () -> x.shut(0, 8));
        CHECK.missing("street -1", () -> x.shut(-1, 0));
        // seven streets, each beside both
        HopedHours y = Check.made("street 0;".repeat(9) + "lane 0 1;lane 0 2;lane 0 3;lane 0 4;lane 0 5;lane 0 6;lane 0 7;"
                + "lane 8 1;lane 8 2;lane 8 3;lane 8 4;lane 8 5;lane 8 6;lane 8 7;");
        CHECK.due("all others", y.shut(0, 8), 254);
        CHECK.due("both ends' streets", y.shut(1, 7), 257);
    }
}
