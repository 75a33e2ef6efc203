/** The bounds of a LAW and of what comes out by it: Terms, promises 4, 7, 14, 15. */
public final class BoundsLawTest {
    private static final Check CHECK = new Check("BoundsLawTest");
    // 2 to the 31 in 32 bits: the least number
    private static final String LOWEST = "(512*512*512*16)";
    private static final String HIGHEST = "(512*512*512*16-1)";

    public static void main(String[] args) {
        without();
        emptyLaw();
        numbers();
        fullText();
        open();
        endsTooEarly();
        firstFromTheLeft();
        leftByTwentyFour();
        wraps();
        divisions();
        leastAndMost();
        order();
        namesAtTheirEdges();
        namesInTheNight();
        likewise();
        CHECK.end();
    }

    private static void value(String text, int want) {
        HopedHours x = new HopedHours();
        CHECK.due("law '" + text + "'", Check.law(x, text), 1);
        CHECK.due("fault of law '" + text + "'", x.fault(), -1);
        CHECK.due("value of '" + text + "'", x.would(0, 0, 0, 0, 0, 1, 0, 0), want);
    }

    private static void fault(String text, int kind, int place) {
        HopedHours x = Check.made("street 1;man 0 3 1;", "17");
        CHECK.due("law '" + text + "'", Check.law(x, text), kind - 10);
        CHECK.due("fault of law '" + text + "'", x.fault(), place);
        CHECK.due("the law of before", x.says(0, 0), 17);
    }

    /** Without: hope + calls. */
    private static void without() {
        HopedHours x = new HopedHours();
        CHECK.due("least", x.would(0, 0, 0, 0, 0, 1, 0, 0), 0);
        CHECK.due("23", x.would(23, 23, 0, 8, 5, 24, 300, 24), 23);
        CHECK.due("24", x.would(23, 0, 1, 0, 0, 1, 0, 0), 0);
        CHECK.due("most", x.would(23, 0, 999, 0, 0, 1, 0, 0), 1022 % 24);
    }

    /** No LAW has no E; one that can't be read is no way back to none. */
    private static void emptyLaw() {
        fault("", 1, 0);
        fault(" ", 1, 1);
        fault(" ".repeat(150), 1, 150);
    }

    private static void numbers() {
        value("0", 0);
        value("999", 999 % 24);
        value("0999", 999 % 24);
        value("000000000000000000000000000000000999", 999 % 24);
        for (String number : new String[] {"1000", "01000", "9999", "2147483648", "4294967296", "4294967297",
            "99999999999999999999999999"}) {
            fault(number, 2, 0);
            fault("1 + " + number + " ?", 2, 4);
        }
        fault("-1", 1, 0);
        fault("+1", 1, 0);
        fault("1 1", 1, 2);
    }

    private static void fullText() {
        value("1+".repeat(74) + "10", 84 % 24);
        value(" ".repeat(149) + "7", 7);
        value("7" + " ".repeat(149), 7);
        value("2*".repeat(8) + "1-" + "1-".repeat(65) + "23", Math.floorMod(256 - 65 - 23, 24));
        fault("1+".repeat(75), 1, 150);
        fault("1+".repeat(74) + "1;", 1, 149);
        fault(" ".repeat(149) + "?", 1, 149);
        fault("1+".repeat(73) + "1000", 2, 146);
        HopedHours x = new HopedHours();
        Check.feed(x, "1+".repeat(74) + "15" + "9".repeat(10));
        CHECK.unfit("151 bytes", () -> x.law(151));
        CHECK.due("149 bytes", x.law(149), 1);
        CHECK.due("value", x.would(0, 0, 0, 0, 0, 1, 0, 0), 75 % 24);
    }

    /** A 7th of ( least most that is open at one time. */
    private static void open() {
        value("((((((5))))))", 5);
        fault("(((((((5)))))))", 3, 6);
        value("least[".repeat(6) + "5" + ",6]".repeat(6), 5);
        fault("least[".repeat(7) + "5" + ",6]".repeat(7), 3, 36);
        value("most[".repeat(6) + "7" + ",6]".repeat(6), 7);
        fault("most[".repeat(7) + "7" + ",6]".repeat(7), 3, 30);
        value("least[9,".repeat(6) + "5" + "]".repeat(6), 5);
        fault("least[9,".repeat(7) + "5" + "]".repeat(7), 3, 48);
        fault("most[1,".repeat(6) + "(5)" + "]".repeat(6), 3, 42);
        value("(least[(most[(least[1,2]),3]),4])", 3);
        fault("(least[(most[(least[(1),2]),3]),4])", 3, 20);
        fault("(least[(most[(least[1,(2)]),3]),4])", 3, 22);
        // those that are shut are open no more
        value("((((((1))))))+((((((2))))))*((((((3))))))", 7);
        value("((((((1)+(2))+(3))+(4))+(5))+(6))", 21);
        value("least[(((((1)))))+0,(((((2)))))]", 1);
        fault("least[(((((1)))))+0,((((((2))))))]", 3, 25);
        fault("((((((1))))))+(((((((2)))))))", 3, 20);
        // 7th, whatever stands behind it
        fault("(((((((", 3, 6);
        fault("((((((least", 3, 6);
        fault("((((((most", 3, 6);
        fault("((((((  most 5", 3, 8);
        // what can't stand there is the lesser of two
        fault("((((((1(", 1, 7);
        fault("((((((1 least[", 1, 8);
        fault("((((((leas", 1, 6);
        fault("((((((", 1, 6);
    }

    private static void endsTooEarly() {
        String[] texts = {"1+", "1-", "1*", "1/", "1%", "(", "(1", "(1+", "least", "least[", "least[1", "least[1,",
            "least[1,2", "most", "most[", "most[1", "most[1,", "most[1,2", "hope+"};
        for (String text : texts) {
            fault(text, 1, text.length());
            fault(text + "  ", 1, text.length() + 2);
        }
    }

    private static void firstFromTheLeft() {
        fault("1000+", 2, 0);
        fault("(1000", 2, 1);
        fault("?1000", 1, 0);
        fault("hop + 1000", 1, 0);
        fault("1 ? 1000", 1, 2);
        fault("least[1000,2000]", 2, 6);
        fault("least[1,2000", 2, 8);
        fault("least[1;2]", 1, 7);
        fault("least[1,2,3]", 1, 9);
        fault("least(1,2)", 1, 5);
        fault("(1]", 1, 2);
        fault("1)", 1, 1);
        fault("1]", 1, 1);
        fault("1,2", 1, 1);
        fault("hope;", 1, 4);
        fault("hope hope", 1, 5);
        fault("hope2", 1, 4);
        fault("2hope", 1, 1);
        fault("Hope", 1, 0);
        fault("lane", 1, 0);
        fault("again", 1, 0);
        fault("1++1", 1, 2);
        fault("1+-1", 1, 2);
        fault("()", 1, 1);
        fault("1^2", 1, 1);
    }

    /** What is left by 24, 0 to 23, also of numbers below 0. */
    private static void leftByTwentyFour() {
        value("23", 23);
        value("24", 0);
        value("25", 1);
        value("47", 23);
        value("48", 0);
        value("0-1", 23);
        value("0-23", 1);
        value("0-24", 0);
        value("0-25", 23);
        value("0-48", 0);
        value("0-49", 23);
        value(HIGHEST, 2147483647 % 24);
        // 24 more till it is: -2147483648 is 24 times -89478486, and 16
        value(LOWEST, 16);
    }

    /** Whole numbers of 32 bits that wrap. */
    private static void wraps() {
        value(HIGHEST + "+1", 16);
        value(LOWEST + "-1", 7);
        value(HIGHEST + "+" + HIGHEST, 22);
        value(LOWEST + "+" + LOWEST, 0);
        value("0-" + LOWEST, 16);
        value(LOWEST + "*2", 0);
        value(LOWEST + "*" + LOWEST, 0);
        value(HIGHEST + "*" + HIGHEST, 1);
        value(HIGHEST + "*2", 22);
        value("256*256*256*256", 0);
        value("256*256*256*256+5", 5);
        value("999*999*999*999", Math.floorMod((int) 996005996001L, 24));
        value("999*999*999*999/999", Math.floorMod((int) 996005996001L / 999, 24));
    }

    /** / cuts, % leaves with the sign of what is divided, by 0 both are 0. */
    private static void divisions() {
        value("7/2", 3);
        value("(0-7)/2", 21);
        value("7/(0-2)", 21);
        value("(0-7)/(0-2)", 3);
        value("1/2", 0);
        value("(0-1)/2", 0);
        value("7%4", 3);
        value("(0-7)%4", 21);
        value("7%(0-4)", 3);
        value("(0-7)%(0-4)", 21);
        value("8%4", 0);
        value("5/0", 0);
        value("5%0", 0);
        value("0/0", 0);
        value("0%0", 0);
        value("(0-5)/0+7", 7);
        value("(0-5)%0+7", 7);
        value("5/(3-3)+5%(3-3)+9", 9);
        value(LOWEST + "/0", 0);
        value(LOWEST + "/(0-1)", 16);
        value(LOWEST + "%(0-1)", 0);
        value(LOWEST + "/1", 16);
        value(HIGHEST + "/(0-1)", 17);
        value(LOWEST + "/" + HIGHEST, 23);
        value(LOWEST + "%" + HIGHEST, 23);
    }

    private static void leastAndMost() {
        value("least[3,5]", 3);
        value("least[5,3]", 3);
        value("least[4,4]", 4);
        value("most[3,5]", 5);
        value("most[5,3]", 5);
        value("most[4,4]", 4);
        value("least[0-1,1]", 23);
        value("most[0-1,1]", 1);
        value("least[" + LOWEST + ",1]", 16);
        value("most[" + LOWEST + ",1]", 1);
        value("least[" + HIGHEST + ",1]", 1);
        value("most[" + HIGHEST + ",1]", 7);
        value("least[" + LOWEST + "," + HIGHEST + "]", 16);
        value("most[" + LOWEST + "," + HIGHEST + "]", 7);
    }

    private static void order() {
        value("10-3-2", 5);
        value("10-3+2", 9);
        value("16/4/2", 2);
        value("16/4*2", 8);
        value("17%10%4", 3);
        value("2*9%4", 2);
        value("9%4*2", 2);
        value("1+2*3", 7);
        value("2*3+1", 7);
        value("20-6/4", 19);
        value("20-7%4", 17);
        value("(1+2)*3", 9);
        value("least[1+1,9]*3", 6);
    }

    private static int at(HopedHours x, int[] g) {
        return x.would(g[0], g[1], g[2], g[3], g[4], g[5], g[6], g[7]);
    }

    /** hope, hour 0 to 23, calls to 999, street to 8, men to 5, walks 1 to 24, night to 300, heard to 24. */
    private static void namesAtTheirEdges() {
        String[] names = {"hope", "hour", "calls", "street", "men", "walks", "night", "heard"};
        int[] least = {0, 0, 0, 0, 0, 1, 0, 0};
        int[] most = {23, 23, 999, 8, 5, 24, 300, 24};
        for (int i = 0; i < names.length; i++) {
            HopedHours x = new HopedHours();
            // the part above 24, too, so that 999 and 300 are seen whole
            Check.law(x, names[i] + "/24+" + names[i] + "%24");
            int[] low = least.clone();
            int[] high = most.clone();
            low[i] = least[i];
            CHECK.due("least " + names[i], at(x, low), least[i] / 24 + least[i] % 24);
            CHECK.due("most " + names[i], at(x, high), (most[i] / 24 + most[i] % 24) % 24);
            for (int wrong : new int[] {least[i] - 1, most[i] + 1, Integer.MIN_VALUE, Integer.MAX_VALUE}) {
                low[i] = wrong;
                high[i] = wrong;
                CHECK.unfit("would, " + names[i] + " " + wrong, () -> at(x, low));
                CHECK.unfit("would, " + names[i] + " " + wrong, () -> at(x, high));
            }
            CHECK.due("counted", x.status(1), 8);
        }
    }

    /** The names as they are at the edges of a real night: first and last street, hour, most men, nothing heard. */
    private static void namesInTheNight() {
        String town = "street 1;".repeat(9) + "lane 0 8;" + "man 8 23 24;".repeat(5) + "man 0 0 1;";
        HopedHours x = Check.made(town);
        Check.law(x, "street");
        CHECK.due("street 0", x.says(0, 0), 0);
        CHECK.due("street 8", x.says(0, 8), 8);
        Check.law(x, "men");
        CHECK.due("five others", x.says(5, 8), 5);
        CHECK.due("four others, himself not", x.says(0, 8), 4);
        CHECK.due("no others", x.says(5, 0), 0);
        CHECK.due("one other", x.says(0, 0), 1);
        Check.law(x, "walks-1");
        CHECK.due("24", x.says(0, 0), 23);
        CHECK.due("1", x.says(5, 0), 0);
        Check.law(x, "hope");
        CHECK.due("23", x.says(0, 0), 23);
        CHECK.due("0", x.says(5, 0), 0);
        Check.law(x, "heard-1");
        CHECK.due("24 without", x.says(0, 0), 23);
        Check.work(x, "call 0;call 5;");
        CHECK.due("23 was heard", x.says(0, 8), 22);
        Check.law(x, "0");
        Check.work(x, "call 0;");
        Check.law(x, "heard-1");
        CHECK.due("0 was heard", x.says(0, 8), 23);
        Check.law(x, "hour");
        Check.work(x, "again 23[hour;];call 0;");
        CHECK.due("hour 23", x.street(8, 4), 23);
        Check.law(x, "heard");
        CHECK.due("23 was heard last", x.says(5, 8), 23);
        Check.work(x, "hour;");
        CHECK.due("24 in another night", x.says(5, 8), 0);
        Check.law(x, "night");
        CHECK.due("night 1", x.says(0, 0), 1);
        Check.work(x, "again 60[hour;hour;hour;];again 12[hour;];");
        CHECK.due("192 hours on", x.told(5), 9);
        CHECK.due("night 9", x.says(0, 0), 9);
        Check.law(x, "hour");
        CHECK.due("hour 0", x.says(0, 0), 0);
        Check.law(x, "calls");
        Check.work(x, "again 60[call 0;call 0;call 0;];");
        CHECK.due("all calls of all nights", x.man(0, 3), 183);
        CHECK.due("183 by 24", x.says(0, 0), 183 % 24);
        CHECK.due("one who called once", x.says(5, 0), 1);
    }

    /** Likewise: a FAULT leaves all as it was but the TAPE; a good LAW changes the LAW alone. */
    private static void likewise() {
        HopedHours x = lived();
        HopedHours y = lived();
        CHECK.due("a fault", Check.law(x, "hope+"), -9);
        x.book(0);
        y.book(0);
        CHECK.same("behind a law with a fault", x, y);
        HopedHours z = lived();
        HopedHours w = lived();
        CHECK.due("another law", Check.law(z, "3"), 1);
        CHECK.due("says", z.says(0, 0), 3);
        CHECK.due("the first again", Check.law(z, "hope+hour"), 1);
        CHECK.same("behind a law of no change", z, w);
    }

    private static HopedHours lived() {
        HopedHours x = Check.made("street 5;street 9;lane 0 1;man 0 6 12;sleeper 1 6;", "hope+hour");
        Check.work(x, "go 0 1;hour;");
        x.image();
        Check.work(x, "call 0;bed 0;call 0;");
        Check.book(x, "1 5;");
        return x;
    }
}
