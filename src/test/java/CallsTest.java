/** Promises 14 to 20: what is called where, by whom, and what was heard. */
public final class CallsTest {
    private static final Check CHECK = new Check("CallsTest");

    public static void main(String[] args) {
        would();
        saysAndWakes();
        nearest();
        raise();
        who();
        listen();
        CHECK.end();
    }

    private static int would(HopedHours x, int... g) {
        return x.would(g[0], g[1], g[2], g[3], g[4], g[5], g[6], g[7]);
    }

    private static void would() {
        HopedHours x = new HopedHours();
        CHECK.due("without a law", would(x, 23, 23, 999, 8, 5, 24, 300, 24), (23 + 999) % 24);
        Check.law(x, "hope + hour*2 + calls*3 + street*4 + men*5 + walks*6 + night*7 + heard*8");
        CHECK.due("least", would(x, 0, 0, 0, 0, 0, 1, 0, 0), 6);
        CHECK.due("most", would(x, 23, 23, 999, 8, 5, 24, 300, 24),
                (23 + 46 + 2997 + 32 + 25 + 144 + 2100 + 192) % 24);
        int[] least = {0, 0, 0, 0, 0, 1, 0, 0};
        int[] most = {23, 23, 999, 8, 5, 24, 300, 24};
        for (int i = 0; i < 8; i++) {
            int[] below = least.clone();
            int[] above = least.clone();
            below[i] = least[i] - 1;
            above[i] = most[i] + 1;
            CHECK.unfit("would below, " + i, () -> would(x, below));
            CHECK.unfit("would above, " + i, () -> would(x, above));
        }
        CHECK.due("each refusal is one", x.status(1), 16);
    }

    private static void saysAndWakes() {
        HopedHours x = Check.made("street 0;street 0;street 0;lane 0 1;man 0 6 9;man 1 7 9;man 1 8 9;"
                + "sleeper 1 6;sleeper 1 7;sleeper 1 7;sleeper 2 6;");
        CHECK.due("plain", x.says(0, 2), 6);
        CHECK.due("wakes", x.wakes(0, 1), 1);
        CHECK.due("wakes two", x.wakes(1, 1), 6);
        CHECK.due("where no lane leads", x.wakes(0, 2), 8);
        CHECK.due("wakes none", x.wakes(2, 0), 0);
        Check.work(x, "call 1;bed 1;");
        CHECK.due("calls as by now", x.says(1, 0), 8);
        Check.law(x, "hope + men * 5 + heard");
        CHECK.due("others who are up, nothing heard", x.says(1, 0), (7 + 5 + 24) % 24);
        CHECK.due("he himself is none of them, in bed, too", x.says(1, 1), (7 + 5 + 7) % 24);
        CHECK.due("one in bed is none", x.says(0, 1), (6 + 5 + 7) % 24);
        CHECK.due("where he is", x.says(2, 1), (8 + 7) % 24);
        Check.law(x, "7");
        CHECK.due("awake ones, too", x.wakes(0, 1), 6);
        CHECK.due("nothing stays changed", x.told(10), 1);
        CHECK.due("heard stays", x.street(0, 4), -1);
        CHECK.missing("no such man", () -> x.says(3, 0));
        CHECK.missing("no such street", () -> x.says(0, 3));
        CHECK.missing("man -1", () -> x.says(-1, 0));
        CHECK.missing("street -1", () -> x.says(0, -1));
        CHECK.missing("wakes, no man", () -> x.wakes(3, 0));
        CHECK.missing("wakes, no street", () -> x.wakes(0, 3));
    }

    private static void nearest() {
        // 0 - 1 - 2 - 3, 1 - 4, 5 alone
        String town = "street 0;street 0;street 0;street 0;street 0;street 0;"
                + "lane 0 1;lane 1 2;lane 2 3;lane 4 1;man 0 6 9;";
        HopedHours x = Check.made(town, "street");
        for (int street = 0; street < 5; street++) {
            int[] lanes = {0, 1, 2, 3, 2};
            CHECK.due("lanes to " + street, x.nearest(0, street, 0), lanes[street]);
            CHECK.due("street", x.nearest(0, street, 1), street);
        }
        CHECK.due("no way", x.nearest(0, 5, 0), -1);
        CHECK.due("no way", x.nearest(0, 5, 1), -1);
        CHECK.due("nowhere", x.nearest(0, 6, 1), -1);
        Check.law(x, "street / 2");
        CHECK.due("of as near ones the least", x.nearest(0, 1, 1), 2);
        Check.law(x, "most [3 - street, 0] % 3");
        CHECK.due("the nearer one", x.nearest(0, 1, 1), 2);
        Check.law(x, "least [street % 3, 1]");
        CHECK.due("where he is", x.nearest(0, 0, 0), 0);
        CHECK.due("0: street 0; 1: streets 1, 2, 4", x.nearest(0, 1, 1), 1);
        CHECK.missing("no such man, ahead of others", () -> x.nearest(1, 24, 2));
        CHECK.unfit("hour 24", () -> x.nearest(0, 24, 0));
        CHECK.unfit("hour -1", () -> x.nearest(0, -1, 0));
        CHECK.unfit("what 2", () -> x.nearest(0, 0, 2));
        CHECK.unfit("what -1", () -> x.nearest(0, 0, -1));
    }

    private static void raise() {
        HopedHours x = Check.made("street 0;street 0;street 0;man 0 1 1;man 0 2 1;man 0 1 1;man 0 3 1;"
                + "sleeper 0 1;sleeper 1 1;sleeper 2 2;sleeper 2 1;sleeper 0 1;sleeper 1 9;");
        CHECK.due("nobody", x.raise(0), 0);
        CHECK.due("one of two, the least", x.raise(1), 1);
        CHECK.due("two in one street", x.raise(1 | 16), 1);
        CHECK.due("two streets", x.raise(1 | 2), 5);
        CHECK.due("two hours", x.raise(4 | 8), 3);
        CHECK.due("three streets", x.raise(1 | 2 | 4), 7);
        CHECK.due("one man is in one street alone", x.raise(1 | 2 | 8), -1);
        CHECK.due("nobody calls 9", x.raise(32), -1);
        CHECK.unfit("no such sleeper", () -> x.raise(64));
        CHECK.unfit("bits below 0", () -> x.raise(-1));
        Check.work(x, "bed 0;call 2;");
        CHECK.due("in bed, too; awake ones, too", x.raise(1), 1);
        CHECK.due("who called once calls 2 then", x.raise(4), 2);
        HopedHours six = Check.made("street 0;".repeat(6) + "man 0 3 1;".repeat(6)
                + "sleeper 0 3;sleeper 1 3;sleeper 2 3;sleeper 3 3;sleeper 4 3;sleeper 5 3;sleeper 5 3;");
        CHECK.due("six men", six.raise(127), 63);
        CHECK.due("five men", six.raise(62), 31);
        // man 0 wakes one of two streets, man 1 one of them only
        HopedHours y = Check.made("street 0;street 0;man 0 1 1;man 0 1 2;sleeper 0 1;sleeper 1 1;",
                "least [hope, walks] * 1 + street * (walks - 1)");
        CHECK.due("man 1 can wake 0, so man 0 wakes 1", y.raise(3), 3);
        CHECK.due("man 1 says 2 in street 1", y.says(1, 1), 2);
        CHECK.due("the first alone", y.raise(2), 1);
    }

    private static void who() {
        HopedHours x = Check.made("street 0;street 0;street 0;man 0 6 2;man 1 7 4;man 1 9 1;", "hope + hour / 8 + street");
        CHECK.due("all pairs", x.who(0), 72);
        CHECK.due("the first", x.who(1), 0);
        CHECK.due("men", x.who(2), 7);
        Check.book(x, "0 8;");
        // man 0 at 16 to 23, man 1 at 8 to 15
        CHECK.due("pairs", x.who(0), 16);
        CHECK.due("the first", x.who(1), 16);
        CHECK.due("men", x.who(2), 3);
        Check.book(x, "0 9;2 11;");
        // man 1 at 16 to 23, man 2 at 0 to 7
        CHECK.due("pairs", x.who(0), 16);
        CHECK.due("the first", x.who(1), 116);
        CHECK.due("men", x.who(2), 6);
        Check.book(x, "0 9;2 10;");
        CHECK.due("no pair", x.who(0), 0);
        CHECK.due("no first", x.who(1), -1);
        CHECK.due("no men", x.who(2), 0);
        Check.book(x, "0 11;");
        Check.work(x, "bed 2;again 5[hour;];");
        CHECK.due("man 2 alone, in bed, too", x.who(2), 4);
        CHECK.due("whatever the hour is", x.who(1), 216);
        CHECK.due("the hour stays", x.told(4), 5);
        CHECK.unfit("who(3)", () -> x.who(3));
        CHECK.unfit("who(-1)", () -> x.who(-1));
    }

    private static void listen() {
        HopedHours x = Check.made("street 0;street 0;street 0;man 0 6 2;", "hour * street");
        CHECK.due("street 1 tells all hours apart", x.listen(0), 1);
        CHECK.due("one pair is left", x.listen(1), 1);
        Check.book(x, "1 5;");
        CHECK.due("the first of alike ones", x.listen(0), 0);
        CHECK.due("one is left", x.listen(1), 1);
        Check.book(x, "0 0;1 7;");
        CHECK.due("the only one in no line", x.listen(0), 2);
        Check.book(x, "2 4;");
        // hours 2 and 14: street 0 leaves both, street 1 one
        CHECK.due("two hours", x.who(0), 2);
        CHECK.due("street 1", x.listen(0), 1);
        CHECK.due("one is left", x.listen(1), 1);
        Check.book(x, "2 5;");
        CHECK.due("no pairs", x.listen(0), 0);
        CHECK.due("none left", x.listen(1), 0);
        Check.book(x, "0 0;1 1;2 2;");
        CHECK.due("all are in lines", x.listen(0), -1);
        CHECK.due("all are in lines", x.listen(1), -1);
        HopedHours y = Check.made("street 0;street 0;man 0 6 2;", "most [hour - 20, 0] * (1 - street) + hour / 12 * street");
        // street 0: 21 hours say 0; street 1: 12 and 12
        CHECK.due("the worst counts", y.listen(0), 1);
        CHECK.due("12 are left", y.listen(1), 12);
        CHECK.unfit("listen(2)", () -> y.listen(2));
        CHECK.unfit("listen(-1)", () -> y.listen(-1));
    }
}
