/** The bounds of a BOOK, and of what is guessed by it: Terms, promises 6, 7, 19, 20. */
public final class BoundsBookTest {
    private static final Check CHECK = new Check("BoundsBookTest");
    private static final String NINE = "street 1;".repeat(9);
    private static final String SIX = NINE + "man 8 23 24;".repeat(5) + "man 0 0 1;";

    public static void main(String[] args) {
        emptyBook();
        numbers();
        twice();
        fullBook();
        endsTooEarly();
        firstFromTheLeft();
        likewise();
        whoWithoutMen();
        whoAtTheEdges();
        listenAtTheEdges();
        listenOfAlikeOnes();
        CHECK.end();
    }

    private static void taken(String text, int lines) {
        HopedHours x = Check.made(SIX);
        CHECK.due("book '" + text + "'", Check.book(x, text), lines);
        CHECK.due("fault of book '" + text + "'", x.fault(), -1);
        CHECK.due("lines", x.told(8), lines);
    }

    private static void fault(String text, int kind, int place) {
        HopedHours x = Check.made(SIX);
        Check.book(x, "0 5;1 6;");
        CHECK.due("book '" + text + "'", Check.book(x, text), kind - 10);
        CHECK.due("fault of book '" + text + "'", x.fault(), place);
        CHECK.due("the book of before", x.told(8), 2);
    }

    private static void emptyBook() {
        taken("", 0);
        taken(" ".repeat(60), 0);
        HopedHours x = Check.made(SIX);
        Check.book(x, "0 5;");
        CHECK.due("pairs by a line", x.who(0), 0);
        CHECK.due("an empty one is told", x.book(0), 0);
        CHECK.due("all pairs again", x.who(0), 144);
    }

    private static void numbers() {
        taken("0 0;", 1);
        taken("8 23;", 1);
        taken("0000000000000000000008 000000000000000023;", 1);
        fault("9 0;", 2, 0);
        fault("0 24;", 2, 2);
        fault("4294967296 0;", 2, 0);
        fault("0 4294967296;", 2, 2);
        fault("-1 0;", 1, 0);
        fault("0 -1;", 1, 2);
        HopedHours x = new HopedHours();
        CHECK.due("no streets", Check.book(x, " 0 0;") * 100 + x.fault(), -800 + 1);
        HopedHours y = Check.made("street 0;");
        CHECK.due("one street", Check.book(y, "0 0;"), 1);
        CHECK.due("no other", Check.book(y, "1 0;"), -8);
    }

    /** No S twice: at the second one. */
    private static void twice() {
        fault("0 1;0 1;", 2, 4);
        fault("0 0;0 0;", 2, 4);
        fault("8 1;7 1; 8 2;", 2, 9);
        fault("8 1;08 x", 2, 4);
        taken("0 1;1 1;2 1;", 3);
    }

    private static void fullBook() {
        String nine = "0 0;1 1;2 2;3 3;4 4;5 5;6 6;7 7;8 23";
        taken(nine + ";", 9);
        taken(nine + " ".repeat(23) + ";", 9);
        fault(nine + " ".repeat(24), 1, 60);
        fault(nine + " ".repeat(23) + ":", 1, 59);
        // no 10th line: each street has one
        for (int street = 0; street <= 9; street++) {
            fault(nine + ";" + street + " 0;", 2, 37);
        }
    }

    private static void endsTooEarly() {
        for (String text : new String[] {"0", "0 5", "0 5;1", "0 5;1 6"}) {
            fault(text, 1, text.length());
            fault(text + "  ", 1, text.length() + 2);
        }
    }

    private static void firstFromTheLeft() {
        fault("9 24;", 2, 0);
        fault("0 24;9 0;", 2, 2);
        fault("0 24", 2, 2);
        fault("0 x;9 0;", 1, 2);
        fault("x 24;", 1, 0);
        fault(";", 1, 0);
        fault("0;", 1, 1);
        fault("0 1 2;", 1, 4);
        fault("0 1,1 2;", 1, 3);
        fault("0 1;;", 1, 4);
        fault("01;", 1, 2);
        taken("   8   23   ;0 0;   ", 2);
    }

    /** Likewise: a FAULT leaves all as it was but the TAPE; a good BOOK changes the BOOK alone. */
    private static void likewise() {
        HopedHours x = lived();
        HopedHours y = lived();
        CHECK.due("a fault behind a good line", Check.book(x, "0 3;1 24;"), -8);
        Check.law(x, "hope+hour");
        CHECK.same("behind a book with a fault", x, y);
        HopedHours z = lived();
        HopedHours w = lived();
        Check.book(z, "0 4;");
        Check.book(z, "1 9;0 7;");
        Check.book(w, "0 7;1 9;");
        CHECK.same("another book", z, w);
    }

    private static HopedHours lived() {
        HopedHours x = Check.made("street 5;street 9;lane 0 1;man 0 6 12;sleeper 1 6;", "hope+hour");
        Check.work(x, "go 0 1;hour;");
        x.image();
        Check.work(x, "call 0;bed 0;call 0;");
        Check.book(x, "1 9;");
        return x;
    }

    private static void whoWithoutMen() {
        HopedHours x = new HopedHours();
        HopedHours y = Check.made(NINE);
        for (HopedHours z : new HopedHours[] {x, y}) {
            CHECK.due("no pairs", z.who(0), 0);
            CHECK.due("no first", z.who(1), -1);
            CHECK.due("no men", z.who(2), 0);
        }
        CHECK.due("no streets to listen in", x.listen(0), -1);
        CHECK.due("no streets to listen in", x.listen(1), -1);
        CHECK.due("the first street", y.listen(0), 0);
        CHECK.due("no pairs are left", y.listen(1), 0);
    }

    /** Pairs from man 0 at hour 0 to man 5 at hour 23. */
    private static void whoAtTheEdges() {
        HopedHours x = Check.made(SIX);
        CHECK.due("all pairs", x.who(0), 144);
        CHECK.due("the first", x.who(1), 0);
        CHECK.due("all men", x.who(2), 63);
        Check.law(x, "most[hour-22,0]*(1-most[hope-22,0])");
        Check.book(x, "8 1;");
        CHECK.due("the last alone", x.who(0), 1);
        CHECK.due("man 5 at 23", x.who(1), 523);
        CHECK.due("man 5", x.who(2), 32);
        Check.law(x, "most[1-hour,0]*most[hope-22,0]");
        CHECK.due("hour 0 of five", x.who(0), 5);
        CHECK.due("man 0 at 0", x.who(1), 0);
        CHECK.due("five", x.who(2), 31);
        // all else as now: the night, what was heard, his calls
        Check.law(x, "hope+calls+heard+night+hour");
        Check.book(x, "0 12;");
        CHECK.due("each man has one hour", x.who(0), 6);
        CHECK.due("23 and 24 and 13", x.who(1), 13);
        Check.work(x, "again 24[hour;];call 0;");
        CHECK.due("23 and 1 and 24 and 1 and 11", x.who(1), 11);
        CHECK.due("hour and night are as before", x.told(5) * 100 + x.told(4), 100);
    }

    private static void listenAtTheEdges() {
        HopedHours x = Check.made(SIX, "hour*street");
        CHECK.due("street 1 tells all hours apart", x.listen(0), 1);
        CHECK.due("each hour is left to six men", x.listen(1), 6);
        Check.book(x, "0 0;1 5;2 10;3 15;4 20;5 1;6 6;7 11;");
        CHECK.due("the last one alone is in no line", x.listen(0), 8);
        CHECK.due("six pairs", x.listen(1), 6);
        Check.book(x, "0 0;1 5;2 10;3 15;4 20;5 1;6 6;7 11;8 16;");
        CHECK.due("all are in lines", x.listen(0), -1);
        CHECK.due("all are in lines", x.listen(1), -1);
        CHECK.due("though pairs are left", x.who(0), 6);
        Check.book(x, "0 1;");
        CHECK.due("no pairs: the first in no line", x.listen(0), 1);
        CHECK.due("none are left", x.listen(1), 0);
    }

    /** Fewest at the worst, of these the first. */
    private static void listenOfAlikeOnes() {
        HopedHours x = Check.made("street 0;street 0;street 0;street 0;man 0 0 1;", "hour/12*most[street-1,0]");
        CHECK.due("12 and 12 in 2 and 3", x.listen(0), 2);
        CHECK.due("12 at the worst", x.listen(1), 12);
        Check.book(x, "2 0;");
        CHECK.due("12 are left anywhere: the first", x.listen(0), 0);
        CHECK.due("12", x.listen(1), 12);
        Check.book(x, "0 0;");
        CHECK.due("2 again", x.listen(0), 2);
        // street 1: 8 and 16; street 0: 12 and 12
        HopedHours y = Check.made("street 0;street 0;man 0 0 1;", "hour/(8+4*(1-street))%(2+street*0)");
        CHECK.due("12 hours say 0 in street 0", y.listen(1), 12);
        CHECK.due("16 hours say 0 in street 1", y.listen(0), 0);
    }
}
