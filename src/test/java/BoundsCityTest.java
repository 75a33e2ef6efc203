/** The bounds of a CITY: Terms, promises 1, 3, 7. */
public final class BoundsCityTest {
    private static final Check CHECK = new Check("BoundsCityTest");
    private static final String NINE = "street 1;".repeat(9);
    private static final String LANES = "lane 0 1;lane 0 2;lane 0 3;lane 0 4;lane 0 5;lane 0 6;lane 0 7;lane 0 8;"
            + "lane 1 2;lane 1 3;lane 1 4;lane 1 5;lane 1 6;lane 1 7;";
    private static final String FULL = NINE + LANES + "man 8 23 24;".repeat(6) + "sleeper 8 23;".repeat(8);

    public static void main(String[] args) {
        emptyCity();
        streetNumbers();
        laneNumbers();
        manNumbers();
        sleeperNumbers();
        toldAhead();
        fullCity();
        oneMore();
        fullText();
        endsTooEarly();
        firstFromTheLeft();
        ofOneTheLeast();
        blanksAndWords();
        allStays();
        allIsNew();
        CHECK.end();
    }

    private static HopedHours taken(String text) {
        HopedHours x = new HopedHours();
        CHECK.due("city '" + text + "' has no fault", Check.city(x, text) < 0 ? 1 : 0, 0);
        CHECK.due("fault of city '" + text + "'", x.fault(), -1);
        return x;
    }

    private static void fault(String text, int kind, int place) {
        HopedHours x = Check.made("street 3;");
        CHECK.due("city '" + text + "'", Check.city(x, text), kind - 10);
        CHECK.due("fault of city '" + text + "'", x.fault(), place);
        CHECK.due("the city of before", x.told(0) * 100 + x.street(0, 0), 103);
    }

    private static void emptyCity() {
        for (String text : new String[] {"", " ", "  ", " ".repeat(600)}) {
            HopedHours x = taken(text);
            for (int what = 0; what <= 10; what++) {
                CHECK.due("told " + what, x.told(what), 0);
            }
        }
    }

    private static void streetNumbers() {
        for (int worth = 0; worth <= 30; worth++) {
            CHECK.due("worth", taken("street " + worth + ";").street(0, 0), worth);
        }
        CHECK.due("many digits", taken("street 000000000000000000030;").street(0, 0), 30);
        for (String worth : new String[] {"31", "031", "99", "100", "2147483648", "4294967296", "4294967297",
            "18446744073709551616", "99999999999999999999999999999999999999"}) {
            fault("street " + worth + ";", 2, 7);
        }
        fault("street -0;", 1, 7);
        fault("street +1;", 1, 7);
    }

    private static void laneNumbers() {
        HopedHours x = taken(NINE + "lane 0 8;lane 8 7;");
        CHECK.due("A", x.lane(0, 0) * 10 + x.lane(0, 1), 8);
        CHECK.due("B", x.lane(1, 0) * 10 + x.lane(1, 1), 87);
        fault(NINE + "lane 9 0;", 2, 86);
        fault(NINE + "lane 0 9;", 2, 88);
        fault(NINE + "lane 0 4294967297;", 2, 88);
        fault(NINE + "lane 8 8;", 2, 88);
        fault(NINE + "lane 0 0;", 2, 88);
        fault(NINE + "lane 0 8;lane 0 8;", 2, 97);
        fault(NINE + "lane 0 8;lane 8 0;", 2, 97);
        fault(NINE + "lane 0 8;lane 8 7;lane 7 8;", 2, 106);
        fault(NINE + "lane 0 8;lane 8 7;lane 8 7;", 2, 106);
    }

    private static void manNumbers() {
        HopedHours x = taken(NINE + "man 0 0 1;man 8 23 24;");
        CHECK.due("least", x.man(0, 0) * 10000 + x.man(0, 1) * 100 + x.man(0, 2), 1);
        CHECK.due("most", x.man(1, 0) * 10000 + x.man(1, 1) * 100 + x.man(1, 2), 82324);
        fault(NINE + "man 9 0 1;", 2, 85);
        fault(NINE + "man 0 24 1;", 2, 87);
        fault(NINE + "man 0 0 0;", 2, 89);
        fault(NINE + "man 0 0 00;", 2, 89);
        fault(NINE + "man 0 0 25;", 2, 89);
        fault(NINE + "man 0 4294967296 1;", 2, 87);
        fault(NINE + "man 0 0 4294967297;", 2, 89);
    }

    private static void sleeperNumbers() {
        HopedHours x = taken(NINE + "sleeper 0 0;sleeper 8 23;");
        CHECK.due("least", x.sleeper(0, 0) * 100 + x.sleeper(0, 1), 0);
        CHECK.due("most", x.sleeper(1, 0) * 100 + x.sleeper(1, 1), 823);
        fault(NINE + "sleeper 9 0;", 2, 89);
        fault(NINE + "sleeper 0 24;", 2, 91);
    }

    /** STREETS are told ahead: no number of one that comes behind. */
    private static void toldAhead() {
        taken("street 0;man 0 0 1;sleeper 0 0;street 0;lane 1 0;man 1 0 1;sleeper 1 0;");
        fault("lane 0 1;street 0;street 0;", 2, 5);
        fault("street 0;lane 0 1;street 0;", 2, 16);
        fault("street 0;lane 1 0;street 0;", 2, 14);
        fault("man 0 0 1;street 0;", 2, 4);
        fault("street 0;man 1 0 1;street 0;", 2, 13);
        fault("sleeper 0 0;street 0;", 2, 8);
        fault("street 0;sleeper 1 0;street 0;", 2, 17);
    }

    private static void fullCity() {
        HopedHours x = taken(FULL);
        CHECK.due("all of them", Check.city(x, FULL), 6);
        int[] most = {9, 14, 6, 8, 0, 0, 63, 0};
        for (int what = 0; what < most.length; what++) {
            CHECK.due("told " + what, x.told(what), most[what]);
        }
        CHECK.due("the last street", x.street(8, 0), 1);
        CHECK.due("the last lane", x.lane(13, 0) * 10 + x.lane(13, 1), 17);
        CHECK.due("lanes of 0", x.street(0, 1), 510);
        CHECK.due("men of 8", x.street(8, 2), 63);
        CHECK.due("sleepers of 8", x.street(8, 3), 255);
    }

    /** A 10th STREET, 15th LANE, 7th MAN, 9th SLEEPER: at its word, whatever stands behind it. */
    private static void oneMore() {
        int end = FULL.length();
        for (String more : new String[] {"street 0;", "lane 2 3;", "man 0 0 1;", "sleeper 0 0;", "street", "lane x",
            "man 99 99 99;", "sleeper;", "street 31;", "lane 0 0;"}) {
            fault(FULL + more, 3, end);
            fault(FULL + "   " + more, 3, end + 3);
        }
        fault(NINE + "street 1;", 3, 81);
        fault(NINE + LANES + "lane 1 8;", 3, 207);
        fault("street 0;" + "man 0 0 1;".repeat(7), 3, 69);
        fault("street 0;" + "sleeper 0 0;".repeat(9), 3, 105);
        // each is full by itself alone
        taken(NINE + "lane 0 1;man 0 0 1;sleeper 0 0;");
        taken("street 0;" + "man 0 0 1;".repeat(6) + "sleeper 0 0;street 0;lane 0 1;");
        taken("street 0;" + "sleeper 0 0;".repeat(8) + "man 0 0 1;street 0;lane 0 1;");
        taken(NINE + LANES + "man 0 0 1;sleeper 0 0;");
    }

    private static void fullText() {
        String text = FULL.substring(0, FULL.length() - 1);
        String padded = text + " ".repeat(599 - text.length());
        CHECK.due("the last byte ends the last clause", taken(padded + ";").told(3), 8);
        fault(padded, 1, 599);
        fault(padded + " ", 1, 600);
        fault(padded + ":", 1, 599);
        fault(" ".repeat(594) + "street", 1, 600);
        fault(" ".repeat(599) + ";", 1, 599);
    }

    /** At the length, if the text ends too early: blanks at the end are of its length. */
    private static void endsTooEarly() {
        String[] texts = {"street", "street 0", "street 0;lane", "street 0;street 0;lane 0", "street 0;street 0;lane 0 1",
            "street 0;man", "street 0;man 0", "street 0;man 0 0", "street 0;man 0 0 1", "street 0;sleeper",
            "street 0;sleeper 0", "street 0;sleeper 0 0"};
        for (String text : texts) {
            fault(text, 1, text.length());
            fault(text + "   ", 1, text.length() + 3);
        }
        // a word that is cut is another word
        fault("street 0;stree", 1, 9);
        fault("street 0;  l", 1, 11);
    }

    private static void firstFromTheLeft() {
        fault("street 31;street x;", 2, 7);
        fault("street x;street 31;", 1, 7);
        fault("street 0;man 1 24 0;", 2, 13);
        fault("street 0;man 0 24 0;", 2, 15);
        fault("street 0;man 0 0 0", 2, 17);
        fault("street 0;street 0;lane 2 2;", 2, 23);
        fault("street 0;street 0;lane 0 2", 2, 25);
        fault("street 31", 2, 7);
        fault(NINE + "street x;street 31;", 3, 81);
        fault("street x;" + NINE + "street 0;", 1, 7);
    }

    /** What can't stand there is 1, though there is no room for it either. */
    private static void ofOneTheLeast() {
        fault(FULL + "streets 0;", 1, FULL.length());
        fault(FULL + "lan 0 1;", 1, FULL.length());
        fault(FULL + ";", 1, FULL.length());
        fault(FULL + "1;", 1, FULL.length());
    }

    private static void blanksAndWords() {
        HopedHours x = taken("   street   5   ;   street   6   ;lane   0   1   ;   man 1   2 3   ;sleeper0   4;   ");
        CHECK.due("told", x.told(0) * 1000 + x.told(1) * 100 + x.told(2) * 10 + x.told(3), 2111);
        CHECK.due("no blank ahead of a number is needed", taken("street5;man0 1 2;").street(0, 0), 5);
        fault("st reet 5;", 1, 0);
        fault("street 0;man 01 2;", 2, 13);
        fault("street 0;man 0 12;", 1, 17);
        fault("street\t5;", 1, 6);
        fault("street\n5;", 1, 6);
        fault("street 5;\n", 1, 9);
        fault("STREET 5;", 1, 0);
        fault("streeT 5;", 1, 0);
        fault("streetT 5;", 1, 6);
        fault("street 5,", 1, 8);
        fault("street 5;;street 5;", 1, 9);
        fault("street 5 street 6;", 1, 9);
        fault("street 5 6;", 1, 9);
        fault("street a;", 1, 7);
        fault("streeta;", 1, 0);
        fault("go 0 0;", 1, 0);
        fault("hour;", 1, 0);
        fault("[", 1, 0);
    }

    /** A CITY with a FAULT changes nothing but the TAPE and the FAULT. */
    private static void allStays() {
        HopedHours x = lived();
        HopedHours y = lived();
        CHECK.due("a fault", Check.city(x, FULL + "street 1;"), -7);
        CHECK.due("its place", x.fault(), FULL.length());
        CHECK.due("another's", Check.book(x, "0 1;1 2;"), 2);
        CHECK.due("no fault there", Check.book(y, "0 1;1 2;"), 2);
        CHECK.same("behind a city with a fault", x, y);
    }

    private static HopedHours lived() {
        HopedHours x = Check.made("street 5;street 9;lane 0 1;man 0 6 12;man 1 8 2;sleeper 1 6;sleeper 0 8;", "hope+hour");
        Check.work(x, "go 0 1;bed 1;go 1 0;again 25[hour;];");
        x.image();
        Check.work(x, "call 0;hour;go 0 1;");
        Check.book(x, "1 5;");
        return x;
    }

    /** HOUR 0 of NIGHT 0; no LAW, BOOK, IMAGES, nothing to undo. */
    private static void allIsNew() {
        HopedHours x = lived();
        Check.law(x, "x");
        String town = "street 5;street 9;man 0 6 12;sleeper 1 6;";
        CHECK.due("a new city", Check.city(x, town), 1);
        CHECK.same("a new city", x, taken(town));
        HopedHours z = lived();
        CHECK.due("an empty one", z.city(0), 0);
        CHECK.same("an empty city", z, new HopedHours());
    }
}
