/** Promises 1 to 8: a new object, the TAPE, the four texts with their FAULTS, undo. */
public final class TextsTest {
    private static final Check CHECK = new Check("TextsTest");
    private static final String SMALL =
            "street 5;street 9;lane 0 1;man 0 6 12;man 1 8 2;sleeper 1 6;sleeper 0 8;";

    public static void main(String[] args) {
        newObject();
        feeding();
        cityReset();
        cityFaults();
        cityLimits();
        spelling();
        lawFaults();
        lawValues();
        workFaults();
        workSteps();
        workLimits();
        books();
        faultPlace();
        undoing();
        CHECK.end();
    }

    private static void newObject() {
        HopedHours x = new HopedHours();
        for (int what = 0; what <= 10; what++) {
            CHECK.due("new: told(" + what + ")", x.told(what), 0);
        }
        for (int what = 0; what <= 2; what++) {
            CHECK.due("new: count", x.count(what), 0);
        }
        CHECK.due("new: fault", x.fault(), HopedHours.NONE);
        CHECK.due("new: undo", x.undo(), -1);
        CHECK.due("new: restore", x.restore(), -1);
        CHECK.due("new: silent", x.silent(), 0);
        CHECK.missing("new: street", () -> x.street(0, 0));
        CHECK.missing("new: man", () -> x.man(0, 0));
        CHECK.due("new: would by the plain law", x.would(20, 0, 6, 0, 0, 1, 0, 24), 2);
    }

    private static void feeding() {
        HopedHours x = new HopedHours();
        for (int i = 1; i <= 30; i++) {
            CHECK.due("feed", x.feed(0x20202020, 0x20202020, 0x20202020, 0x20202020, 0x20202020), 20 * i);
        }
        CHECK.due("feed beyond 600", x.feed(0, 0, 0, 0, 0), -1);
        CHECK.due("bytes after a refused feed", x.count(1), 600);
        CHECK.due("600 blanks are a city", x.city(600), 0);
        CHECK.due("the tape is empty then", x.count(1), 0);
        // the highest byte comes first: "stre" "et 3" "0;  "
        CHECK.due("feed in order", x.feed(0x73747265, 0x65742033, 0x303b2020, 0x20202020, 0x20202020), 20);
        CHECK.due("city of the fed bytes", x.city(20), 0);
        CHECK.due("its worth", x.street(0, 0), 30);
        x.feed(0xff202020, 0, 0, 0, 0);
        CHECK.due("a byte above 127 can't stand there", x.city(4), -9);
        CHECK.due("at", x.fault(), 0);
    }

    private static void cityReset() {
        HopedHours x = Check.made(SMALL, "7");
        Check.work(x, "call 0;go 0 0;hour;");
        Check.book(x, "1 7;");
        x.image();
        Check.feed(x, "xxxxxxxxxxxxxxxxxxxxxxxxxxxxxxxxxxxxxx");
        CHECK.unfit("city(-1)", () -> x.city(-1));
        CHECK.unfit("city(41)", () -> x.city(41));
        CHECK.due("the tape stays", x.count(1), 40);
        CHECK.due("a wrong city", x.city(3), -9);
        CHECK.due("the tape is empty behind a fault", x.count(1), 0);
        CHECK.due("the hour stays", x.told(4), 1);
        CHECK.due("the book stays", x.told(8), 1);
        CHECK.due("the refused steps stay", x.told(9), 1);
        CHECK.due("the law stays", x.says(0, 0), 7);
        CHECK.due("the image stays", x.count(0), 1);
        CHECK.due("the work stays", x.count(2), 1);
        Check.work(x, "again 30[hour;];");
        CHECK.due("another night", x.told(5), 1);
        CHECK.due("a new city", Check.city(x, SMALL), 2);
        CHECK.due("hour", x.told(4), 0);
        CHECK.due("night", x.told(5), 0);
        CHECK.due("up", x.told(6), 3);
        CHECK.due("awake", x.told(7), 0);
        CHECK.due("book", x.told(8), 0);
        CHECK.due("refused steps", x.told(9), 0);
        CHECK.due("calls", x.told(10), 0);
        CHECK.due("no law", x.says(0, 0), 6);
        CHECK.due("images", x.count(0), 0);
        CHECK.due("works", x.count(2), 0);
        CHECK.due("nothing to undo", x.undo(), -1);
        CHECK.due("nothing heard", x.silent(), 3);
        CHECK.due("an empty city", x.city(0), 0);
        CHECK.due("no streets", x.told(0), 0);
        CHECK.due("no lanes", x.told(1), 0);
        CHECK.due("no sleepers", x.told(3), 0);
        Check.feed(x, "street 7;rest");
        CHECK.due("the first bytes alone", x.city(9), 0);
        CHECK.due("the rest is gone", x.count(1), 0);
    }

    private static void cityFault(String text, int kind, int place) {
        HopedHours x = Check.made("street 3;");
        CHECK.due("city '" + text + "'", Check.city(x, text), kind - 10);
        CHECK.due("fault of city '" + text + "'", x.fault(), place);
        CHECK.due("city stays behind '" + text + "'", x.street(0, 0), 3);
    }

    private static void cityFaults() {
        cityFault("street", 1, 6);
        cityFault("street ", 1, 7);
        cityFault("street 1", 1, 8);
        cityFault("street 1  ", 1, 10);
        cityFault("street ;", 1, 7);
        cityFault("street x;", 1, 7);
        cityFault("street -1;", 1, 7);
        cityFault("street 31;", 2, 7);
        cityFault("street 031;", 2, 7);
        cityFault("street 99999999999;", 2, 7);
        cityFault("street 4294967296;", 2, 7);
        cityFault("street 1 1;", 1, 9);
        cityFault("street 1x;", 1, 8);
        cityFault("Street 1;", 1, 0);
        cityFault(" streets 1;", 1, 1);
        cityFault("stree 1;", 1, 0);
        cityFault("xtreet 1;", 1, 0);
        cityFault("streex 1;", 1, 0);
        cityFault("streetz 1;", 1, 0);
        cityFault("streeta 1;", 1, 0);
        cityFault("street{1;", 1, 6);
        cityFault("street`1;", 1, 6);
        cityFault("street 1:", 1, 8);
        cityFault("street /;", 1, 7);
        cityFault("street 1;;", 1, 9);
        cityFault(";", 1, 0);
        cityFault("5;", 1, 0);
        cityFault("hour;", 1, 0);
        cityFault("street 1;lane 1 0;", 2, 14);
        cityFault("street 1;lane 0 1;", 2, 16);
        cityFault("street 1;lane 0 0;", 2, 16);
        cityFault("street 1;lane 0;", 1, 15);
        cityFault("street 1;street 1;lane 0 1;lane 0  1;", 2, 35);
        cityFault("street 1;street 1;lane 0 1;lane 1 0;", 2, 34);
        cityFault("street 1;man 1 0 1;", 2, 13);
        cityFault("street 1;man 0 24 1;", 2, 15);
        cityFault("street 1;man 0 23 0;", 2, 18);
        cityFault("street 1;man 0 23 25;", 2, 18);
        cityFault("street 1;man 0 23;", 1, 17);
        cityFault("street 1;sleeper 1 0;", 2, 17);
        cityFault("street 1;sleeper 0 24;", 2, 19);
        cityFault("sleeper 0 0;street 1;", 2, 8);
        cityFault("street 1\t;", 1, 8);
        cityFault("street\0001;", 1, 6);
    }

    private static void cityLimits() {
        String streets = "street 1;".repeat(9);
        cityFault(streets + "street x;", 3, 81);
        cityFault("street 0;" + "man 0 0 1;".repeat(6) + " man", 3, 70);
        cityFault("street 0;" + "sleeper 0 0;".repeat(8) + "sleeper 9;", 3, 105);
        String lanes = "lane 0 1;lane 0 2;lane 0 3;lane 0 4;lane 0 5;lane 0 6;lane 0 7;lane 0 8;"
                + "lane 1 2;lane 1 3;lane 1 4;lane 1 5;lane 1 6;lane 1 7;";
        cityFault(streets + lanes + "lane 1 8;", 3, 81 + 14 * 9);
        HopedHours x = Check.made(streets + lanes + "man 0 0 1;".repeat(6) + "sleeper 8 23;".repeat(8));
        CHECK.due("most streets", x.told(0), 9);
        CHECK.due("most lanes", x.told(1), 14);
        CHECK.due("most men", x.told(2), 6);
        CHECK.due("most sleepers", x.told(3), 8);
        // of a lane's numbers the first wrong one from the left is told
        cityFault(streets + "lane 9 9;", 2, 86);
    }

    private static void spelling() {
        HopedHours x = new HopedHours();
        CHECK.due("blanks", Check.city(x, "  street  007 ; street0;lane 1 0; man1 23 24 ;sleeper0 0;  "), 1);
        CHECK.due("worth", x.street(0, 0), 7);
        CHECK.due("lane from", x.lane(0, 0), 1);
        CHECK.due("lane to", x.lane(0, 1), 0);
        CHECK.due("man's street", x.man(0, 0), 1);
        CHECK.due("law", Check.law(x, " ( least[hope , 3]) "), 1);
        CHECK.due("work", Check.work(x, " again2[ hour; ] ;  "), 2);
        CHECK.due("book", Check.book(x, "0 5 ; 001 0023;"), 2);
    }

    private static void lawFault(String text, int kind, int place) {
        HopedHours x = Check.made("street 1;man 0 3 1;", "17");
        CHECK.due("law '" + text + "'", Check.law(x, text), kind - 10);
        CHECK.due("fault of law '" + text + "'", x.fault(), place);
        CHECK.due("law stays behind '" + text + "'", x.says(0, 0), 17);
    }

    private static void lawFaults() {
        lawFault("", 1, 0);
        lawFault("   ", 1, 3);
        lawFault("hopes", 1, 0);
        lawFault("Hope", 1, 0);
        lawFault("hope hour", 1, 5);
        lawFault("1 2", 1, 2);
        lawFault("1;", 1, 1);
        lawFault("-1", 1, 0);
        lawFault("1 - -1", 1, 4);
        lawFault("1 + ", 1, 4);
        lawFault("1 * * 2", 1, 4);
        lawFault("1000", 2, 0);
        lawFault("hope + 1000 +", 2, 7);
        lawFault("(1", 1, 2);
        lawFault("(1]", 1, 2);
        lawFault("1)", 1, 1);
        lawFault("()", 1, 1);
        lawFault("least 1", 1, 6);
        lawFault("least(1,2)", 1, 5);
        lawFault("least [1]", 1, 8);
        lawFault("least [1,]", 1, 9);
        lawFault("least [1,2)", 1, 10);
        lawFault("most [1,2", 1, 9);
        lawFault("least", 1, 5);
        lawFault("man", 1, 0);
        lawFault("(((((((1)))))))", 3, 6);
        lawFault("((((((least", 3, 6);
        lawFault("((((((most[1,2]))))))", 3, 6);
        lawFault("least[most[(least[1,most[2,(( 3", 3, 28);
        HopedHours x = new HopedHours();
        CHECK.due("six open", Check.law(x, "least[most[(least[1,most[2,( 3)]])+(1),4],5]"), 1);
        CHECK.due("six open again and again", Check.law(x, "((((((1))))))+((((((2))))))"), 1);
        Check.feed(x, "1" + " ".repeat(159));
        CHECK.unfit("law(151)", () -> x.law(151));
        CHECK.unfit("law(-1)", () -> x.law(-1));
        CHECK.due("the tape stays", x.count(1), 160);
        CHECK.due("law(150)", x.law(150), 1);
        CHECK.due("tape", x.count(1), 0);
        CHECK.unfit("law(1) without a tape", () -> x.law(1));
    }

    private static void lawValue(String text, int want) {
        HopedHours x = new HopedHours();
        CHECK.due("law '" + text + "'", Check.law(x, text), 1);
        CHECK.due("value of '" + text + "'", x.would(1, 2, 3, 4, 5, 6, 7, 8), want);
    }

    private static void lawValues() {
        lawValue("hope", 1);
        lawValue("hour", 2);
        lawValue("calls", 3);
        lawValue("street", 4);
        lawValue("men", 5);
        lawValue("walks", 6);
        lawValue("night", 7);
        lawValue("heard", 8);
        lawValue("999", 15);
        lawValue("24", 0);
        lawValue("0 - 1", 23);
        lawValue("0 - 49", 23);
        lawValue("9 - 4 - 3", 2);
        lawValue("9 - (4 - 3)", 8);
        lawValue("2 + 3 * 4", 14);
        lawValue("(2 + 3) * 4", 20);
        lawValue("20 / 3 * 3", 18);
        lawValue("20 / (3 * 3)", 2);
        lawValue("20 % 7 * 2", 12);
        lawValue("7 * 3 % 4", 1);
        lawValue("20 - 6 / 4", 19);
        lawValue("(0 - 7) / 2", 21);
        lawValue("(0 - 7) % 4", 21);
        lawValue("7 % (0 - 4)", 3);
        lawValue("5 / 0", 0);
        lawValue("5 % 0", 0);
        lawValue("5 / (3 - calls) + 1", 1);
        lawValue("least [3, 5] + most [3, 5] * 2", 13);
        lawValue("least [0 - 3, 2]", 21);
        lawValue("most [0 - 3, 0 - 2]", 22);
        lawValue("most [least [9, hope], men]", 5);
        // in Java as in the document: 32 bits that wrap
        lawValue("999 * 999 * 999 * 999", Math.floorMod(999 * 999 * 999 * 999, 24));
        lawValue("512*512*512*16 / (0 - 1)", Math.floorMod(Integer.MIN_VALUE, 24));
        lawValue("512*512*512*16 % (0 - 1)", 0);
    }

    private static void workFault(String text, int kind, int place) {
        HopedHours x = Check.made(SMALL);
        Check.work(x, "go 0 0;");
        CHECK.due("work '" + text + "'", Check.work(x, text), kind - 10);
        CHECK.due("fault of work '" + text + "'", x.fault(), place);
        CHECK.due("no work is kept behind '" + text + "'", x.count(2), 1);
        CHECK.due("no step is done of '" + text + "'", x.told(4) + x.told(10), 0);
        CHECK.due("refused steps stay behind '" + text + "'", x.told(9), 1);
    }

    private static void workFaults() {
        workFault("hour;call", 1, 9);
        workFault("hour", 1, 4);
        workFault("hours;", 1, 0);
        workFault("hour 1;", 1, 5);
        workFault("hour;]", 1, 5);
        workFault("go;", 1, 2);
        workFault("go 0;", 1, 4);
        workFault("go 2 0;", 2, 3);
        workFault("go 0 2;", 2, 5);
        workFault("call 2;", 2, 5);
        workFault("bed 2;", 2, 4);
        workFault("again 61 [];", 2, 6);
        workFault("again [];", 1, 6);
        workFault("again 2 hour;", 1, 8);
        workFault("again 2 [hour];", 1, 13);
        workFault("again 2 [hour;", 1, 14);
        workFault("again 2 [hour;]", 1, 15);
        workFault("again 2 [hour;] hour;", 1, 16);
        workFault("hour;" + "again 1[".repeat(6) + " again", 3, 54);
        workFault("hour;" + "again 0[".repeat(6) + "hour;again 61[];", 3, 58);
        HopedHours x = Check.made(SMALL);
        CHECK.due("six agains", Check.work(x, "again 1[".repeat(6) + "hour;" + "];".repeat(6)), 1);
        Check.feed(x, "hour;" + " ".repeat(155));
        CHECK.unfit("work(151)", () -> x.work(151));
        CHECK.unfit("work(-1)", () -> x.work(-1));
        CHECK.due("the tape stays", x.count(1), 160);
        CHECK.due("work(150)", x.work(150), 1);
        CHECK.due("no men, no number", Check.work(new HopedHours(), "call 0;"), -8);
    }

    private static void workSteps() {
        HopedHours x = Check.made(SMALL);
        CHECK.due("call", Check.work(x, "call 0;"), 1);
        CHECK.due("heard", x.street(0, 4), 6);
        CHECK.due("his calls", x.man(0, 3), 1);
        CHECK.due("nobody woke", x.told(7), 0);
        CHECK.due("go, call, again the plain law", Check.work(x, "call 0;go 0 1;"), 2);
        CHECK.due("heard 0", x.street(0, 4), 7);
        CHECK.due("heard 1", x.street(1, 4), 8);
        CHECK.due("his street", x.man(0, 0), 1);
        CHECK.due("go where he is", Check.work(x, "go 0 1;"), 0);
        CHECK.due("refused", x.told(9), 1);
        CHECK.due("bed", Check.work(x, "bed 0;call 0;go 0 0;bed 0;bed 1;"), 3);
        CHECK.due("refused in bed", x.told(9), 2);
        CHECK.due("up", x.told(6), 1);
        CHECK.due("refused behind an empty work", Check.work(x, "") + x.told(9), 0);
        CHECK.due("a sleeper wakes", Check.work(x, "bed 1;go 1 0;"), 2);
        CHECK.due("awake", x.told(7), 2);
        CHECK.due("he stays awake", Check.work(x, "call 1;again 22[hour;];"), 23);
        CHECK.due("awake", x.told(7), 2);
        CHECK.due("hour", x.told(4), 22);
        CHECK.due("the night ends", Check.work(x, "hour;hour;"), 2);
        CHECK.due("hour 0", x.told(4), 0);
        CHECK.due("night 1", x.told(5), 1);
        CHECK.due("asleep", x.told(7), 0);
        CHECK.due("silent", x.silent(), 3);
        CHECK.due("calls stay", x.told(10), 5);
        CHECK.due("beds stay", x.told(6), 3);
        HopedHours y = Check.made("street 0;street 0;lane 0 1;man 0 1 1;man 1 1 1;man 1 1 1;",
                "men * 8 + heard % 8 + street");
        Check.work(y, "go 0 1;");
        CHECK.due("others who are up, nothing heard", y.street(1, 4), 17);
        Check.work(y, "bed 2;call 0;");
        CHECK.due("one is in bed, 17 was heard", y.street(1, 4), 8 + 1 + 1);
    }

    private static void workLimits() {
        HopedHours x = Check.made("street 0;street 0;lane 0 1;man 0 1 1;");
        CHECK.due("200 begun, an again is one", Check.work(x, "again 60[hour;hour;hour;hour;];"), 199);
        CHECK.due("hour", x.told(4), 199 % 24);
        CHECK.due("night", x.told(5), 8);
        CHECK.due("refused are begun, too", Check.work(x, "again 60[go 0 0;hour;again 0[];bed 0;];"), 99);
        CHECK.due("refused", x.told(9), 50);
        CHECK.due("empty agains", Check.work(x, "again 60[again 60[];];hour;"), 1);
        CHECK.due("empty agains beyond 200", Check.work(x, "again 60[again 1[];again 1[];again 0[];again 2[];];hour;"), 0);
        CHECK.due("again 0 does nothing", Check.work(x, "again 0[hour;];hour;"), 1);
        CHECK.due("what stands behind is left out", Check.work(x, "again 60[hour;hour;hour;];again 20[hour;];hour;"), 198);
        HopedHours y = Check.made("street 0;man 0 0 1;");
        for (int i = 1; i <= 16; i++) {
            CHECK.due("work " + i, Check.work(y, "hour;"), 1);
        }
        Check.work(y, "xx");
        Check.feed(y, "hour;");
        CHECK.unfit("n is looked at ahead of -20", () -> y.work(21));
        CHECK.due("the 17th", y.work(5), -20);
        CHECK.due("tape", y.count(1), 0);
        CHECK.due("no fault", y.fault(), -1);
        CHECK.due("hour", y.told(4), 16);
        Check.law(y, "1 +");
        CHECK.due("a fault of another text", y.fault(), 3);
        CHECK.due("a faulty one is not read", Check.work(y, "xx"), -20);
        CHECK.due("no fault", y.fault(), -1);
        CHECK.due("undo", y.undo(), 15);
        CHECK.due("then there is room", Check.work(y, "hour;"), 1);
    }

    private static void bookFault(String text, int kind, int place) {
        HopedHours x = Check.made(SMALL);
        Check.book(x, "0 5;");
        CHECK.due("book '" + text + "'", Check.book(x, text), kind - 10);
        CHECK.due("fault of book '" + text + "'", x.fault(), place);
        CHECK.due("book stays behind '" + text + "'", x.told(8), 1);
    }

    private static void books() {
        bookFault("1", 1, 1);
        bookFault("1 ;", 1, 2);
        bookFault("1 5", 1, 3);
        bookFault("one 5;", 1, 0);
        bookFault("2 5;", 2, 0);
        bookFault("0 24;", 2, 2);
        bookFault("1 5;0 3; 1 6;", 2, 9);
        bookFault("1 5;1 24;", 2, 4);
        bookFault("0 1;;", 1, 4);
        HopedHours x = Check.made(SMALL);
        CHECK.due("two lines", Check.book(x, "1 5;0 23;"), 2);
        CHECK.due("told", x.told(8), 2);
        CHECK.due("an empty book", x.book(0), 0);
        CHECK.due("told", x.told(8), 0);
        Check.feed(x, "0 1;" + " ".repeat(66));
        CHECK.unfit("book(61)", () -> x.book(61));
        CHECK.unfit("book(-1)", () -> x.book(-1));
        CHECK.due("the tape stays", x.count(1), 80);
        CHECK.due("book(60)", x.book(60), 1);
        CHECK.due("no streets, no lines", Check.book(new HopedHours(), "0 1;"), -8);
    }

    private static void faultPlace() {
        HopedHours x = Check.made(SMALL);
        CHECK.due("none", x.fault(), -1);
        Check.law(x, "1 +");
        CHECK.due("law", x.fault(), 3);
        CHECK.unfit("a refused call is no text", () -> x.law(1));
        CHECK.due("it stays", x.fault(), 3);
        Check.book(x, "");
        CHECK.due("a good text", x.fault(), -1);
        Check.city(x, "street 99;");
        CHECK.due("city", x.fault(), 7);
        Check.work(x, "hour;");
        CHECK.due("a good work", x.fault(), -1);
    }

    private static void undoing() {
        HopedHours x = Check.made(SMALL);
        CHECK.due("nothing to undo", x.undo(), -1);
        Check.work(x, "go 0 1;bed 1;");
        Check.work(x, "again 25[hour;];go 0 0;go 0 0;");
        CHECK.due("refused", x.told(9), 1);
        CHECK.due("undo", x.undo(), 1);
        CHECK.due("refused behind undo", x.told(9), 0);
        CHECK.due("hour", x.told(4), 0);
        CHECK.due("night", x.told(5), 0);
        CHECK.due("awake", x.told(7), 1);
        CHECK.due("heard", x.street(1, 4), 6);
        CHECK.due("place", x.man(0, 0), 1);
        CHECK.due("up", x.told(6), 1);
        CHECK.due("calls", x.told(10), 1);
        Check.law(x, "5");
        CHECK.due("undo", x.undo(), 0);
        CHECK.due("place", x.man(0, 0), 0);
        CHECK.due("up", x.told(6), 3);
        CHECK.due("calls", x.told(10), 0);
        CHECK.due("silent", x.silent(), 3);
        CHECK.due("the law is no work", x.says(0, 0), 5);
        CHECK.due("nothing more", x.undo(), -1);
        Check.work(x, "");
        CHECK.due("an empty work can be undone", x.count(2), 1);
        CHECK.due("undo", x.undo(), 0);
    }
}
