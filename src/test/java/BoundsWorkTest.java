/** The bounds of WORK, of its STEPS, and of what can be undone: Terms, "==== 2.", promises 5, 7, 8, 9. */
public final class BoundsWorkTest {
    private static final Check CHECK = new Check("BoundsWorkTest");
    private static final String NINE = "street 1;".repeat(9) + "lane 0 8;" + "man 8 23 24;".repeat(5) + "man 0 0 1;";
    private static final String TOWN = "street 5;street 9;street 2;lane 0 1;man 0 6 12;man 1 8 2;sleeper 1 6;sleeper 0 8;";

    public static void main(String[] args) {
        emptyWork();
        fullText();
        numbers();
        againNumbers();
        open();
        endsTooEarly();
        firstFromTheLeft();
        twoHundredBegun();
        agains();
        refusedAreBegun();
        refusedCall();
        refusedGo();
        bed();
        hours();
        nightsEnd();
        awakeFromNowOn();
        sixteenWorks();
        theMostCalls();
        theFarthestNight();
        allStaysBehindTwenty();
        allStaysBehindAFault();
        undoing();
        refusedSteps();
        CHECK.end();
    }

    private static void work(String town, String text, int done, int refused) {
        HopedHours x = Check.made(town);
        CHECK.due("work '" + text + "'", Check.work(x, text), done);
        CHECK.due("fault of work '" + text + "'", x.fault(), -1);
        CHECK.due("refused of '" + text + "'", x.told(9), refused);
        CHECK.due("it can be undone", x.count(2), 1);
    }

    private static void fault(String text, int kind, int place) {
        HopedHours x = Check.made(TOWN);
        CHECK.due("work '" + text + "'", Check.work(x, text), kind - 10);
        CHECK.due("fault of work '" + text + "'", x.fault(), place);
        CHECK.due("none is done, none can be undone", x.count(2) + x.told(4) + x.told(10) + x.told(9), 0);
    }

    private static void emptyWork() {
        for (String text : new String[] {"", " ", " ".repeat(150)}) {
            work(TOWN, text, 0, 0);
        }
        HopedHours x = new HopedHours();
        CHECK.due("in a city of nothing", Check.work(x, "again 2[hour;];"), 2);
        CHECK.due("hour", x.told(4), 2);
        CHECK.due("undo", x.undo(), 0);
    }

    private static void fullText() {
        work(TOWN, "hour;".repeat(30), 30, 0);
        work(TOWN, "bed 0;".repeat(25), 25, 0);
        work(TOWN, " ".repeat(145) + "hour;", 1, 0);
        work(TOWN, "hour" + " ".repeat(145) + ";", 1, 0);
        fault("hour" + " ".repeat(146), 1, 150);
        fault("hour;".repeat(29) + "hours", 1, 145);
        fault("hour;".repeat(29) + "hour,", 1, 149);
        // the most agains that a text has place for, each with an again in it
        work(TOWN, "again 1[];".repeat(15), 0, 0);
    }

    /** M and S are told ones, 0 to the last. */
    private static void numbers() {
        HopedHours x = Check.made(NINE);
        CHECK.due("the first and the last", Check.work(x, "go 0 0;go 5 8;call 0;call 5;bed 0;bed 5;"), 6);
        CHECK.due("many digits", Check.work(x, "bed 00000000000005;"), 1);
        for (String text : new String[] {"go 6 0;", "go 4294967296 0;", "go 99 99;"}) {
            CHECK.due(text, Check.work(x, text) * 100 + x.fault(), -800 + 3);
        }
        CHECK.due("go 0 9", Check.work(x, "go 0 9;") * 100 + x.fault(), -800 + 5);
        CHECK.due("call 6", Check.work(x, "call 6;") * 100 + x.fault(), -800 + 5);
        CHECK.due("bed 6", Check.work(x, "bed 6;") * 100 + x.fault(), -800 + 4);
        HopedHours y = new HopedHours();
        CHECK.due("no man", Check.work(y, "call 0;") * 100 + y.fault(), -800 + 5);
        CHECK.due("no man", Check.work(y, "bed 0;") * 100 + y.fault(), -800 + 4);
        CHECK.due("no man", Check.work(y, "go 0 0;") * 100 + y.fault(), -800 + 3);
    }

    private static void againNumbers() {
        work(TOWN, "again 0[hour;];", 0, 0);
        work(TOWN, "again 1[hour;];", 1, 0);
        work(TOWN, "again 60[hour;];", 60, 0);
        work(TOWN, "again 00060[hour;];", 60, 0);
        fault("again 61[hour;];", 2, 6);
        fault("again 061[hour;];", 2, 6);
        fault("again 600[hour;];", 2, 6);
        fault("again 4294967297[hour;];", 2, 6);
        fault("again -1[hour;];", 1, 6);
        // what an again of 0 holds is read all the same
        fault("again 0[go 9 9;];", 2, 11);
    }

    /** A 7th again that is open at one time. */
    private static void open() {
        work(TOWN, "again 1[".repeat(6) + "hour;" + "];".repeat(6), 1, 0);
        work(TOWN, "again 2[".repeat(6) + "hour;" + "];".repeat(6), 64, 0);
        fault("again 1[".repeat(7) + "hour;" + "];".repeat(7), 3, 48);
        fault("again 1[".repeat(6) + "again", 3, 48);
        fault("again 1[".repeat(6) + "  again 61", 3, 50);
        fault("again 0[".repeat(6) + "hour;again 1[];", 3, 53);
        // those that are shut are open no more
        work(TOWN, "again 1[".repeat(6) + "hour;" + "];".repeat(6) + "again 1[".repeat(6) + "hour;" + "];".repeat(6), 2, 0);
        work(TOWN, "again 1[".repeat(5) + "again 1[hour;];again 1[hour;];" + "];".repeat(5), 2, 0);
        // what can't stand there is the lesser of two
        fault("again 1[".repeat(6) + "hour again 1[", 1, 53);
        fault("again 1[".repeat(6) + "agains 1[", 1, 48);
        fault("again 1[".repeat(6), 1, 48);
    }

    private static void endsTooEarly() {
        String[] texts = {"hour", "go", "go 0", "go 0 1", "call", "call 0", "bed", "bed 0", "again", "again 2", "again 2[",
            "again 2[hour", "again 2[hour;", "again 2[hour;]", "again 2[again 2[hour;]", "again 2[again 2[hour;];"};
        for (String text : texts) {
            fault(text, 1, text.length());
            fault(text + "  ", 1, text.length() + 2);
            fault("hour;" + text, 1, text.length() + 5);
        }
    }

    private static void firstFromTheLeft() {
        fault("hours;go 9 9;", 1, 0);
        fault("go 9 9;hours;", 2, 3);
        fault("go 2 3;", 2, 3);
        fault("go 1 3;", 2, 5);
        fault("go 1 3", 2, 5);
        fault("hour 1;", 1, 5);
        fault("call;", 1, 4);
        fault("call x;", 1, 5);
        fault("call 0 0;", 1, 7);
        fault("]", 1, 0);
        fault("];", 1, 0);
        fault("hour;];", 1, 5);
        fault("again 2(hour;);", 1, 7);
        fault("again 2[hour];", 1, 12);
        fault("again 2[;];", 1, 8);
        fault("again 2[hour;]hour;", 1, 14);
        fault("again 2[hour;]];", 1, 14);
        fault("again [hour;];", 1, 6);
        fault(";", 1, 0);
        fault("hour;;", 1, 5);
        fault("5;", 1, 0);
        fault("Hour;", 1, 0);
        fault("street 5;", 1, 0);
        work(TOWN, "  again  2  [  hour  ;  ]  ;  ", 2, 0);
        work(TOWN, "again2[bed0;];call1;", 3, 0);
    }

    /** 200 STEPS at most are begun, an again is one; what would come behind is left out. */
    private static void twoHundredBegun() {
        // 1 and 180 are begun by it
        String many = "again 60[hour;hour;hour;];";
        work(TOWN, many + "hour;".repeat(18), 198, 0);
        work(TOWN, many + "hour;".repeat(19), 199, 0);
        work(TOWN, many + "hour;".repeat(20), 199, 0);
        work(TOWN, many + "hour;".repeat(24), 199, 0);
        work(TOWN, many + "hour;".repeat(18) + "bed 0;", 199, 0);
        HopedHours x = Check.made(TOWN);
        Check.work(x, many + "hour;".repeat(18) + "bed 0;");
        CHECK.due("the 200th is done", x.told(6), 2);
        HopedHours y = Check.made(TOWN);
        Check.work(y, many + "hour;".repeat(19) + "bed 0;");
        CHECK.due("the 201st is left out", y.told(6), 3);
        CHECK.due("199 hours", y.told(5) * 24 + y.told(4), 199);
        HopedHours z = Check.made(TOWN);
        CHECK.due("within a turn", Check.work(z, "again 60[hour;hour;hour;bed 0;];"), 199);
        // 49 turns are 196, then three hours
        CHECK.due("beds", z.told(6), 3 ^ 49 % 2);
        CHECK.due("hours", z.told(5) * 24 + z.told(4), 150);
        CHECK.due("another work begins anew", Check.work(z, "again 60[hour;hour;hour;bed 0;];"), 199);
    }

    /** An again is begun each time it is come to, one of no turns and of no steps, too. */
    private static void agains() {
        work(TOWN, "again 60[again 60[];again 60[];again 60[];];hour;", 1, 0);
        // 1 and 60 times 3 are 181, then 18 and the hour
        work(TOWN, "again 60[again 0[];again 0[];again 0[];];again 17[again 0[];];hour;", 1, 0);
        work(TOWN, "again 60[again 0[];again 0[];again 0[];];again 18[again 0[];];hour;", 0, 0);
        work(TOWN, "again 60[again 0[];again 0[];again 0[];];again 19[again 0[];];hour;", 0, 0);
        // the 200th is an again: its steps are left out
        work(TOWN, "again 60[hour;hour;hour;];again 17[hour;];again 9[hour;];", 197, 0);
        work(TOWN, "again 60[hour;hour;hour;];again 16[hour;];again 9[hour;];", 197, 0);
        work(TOWN, "again 60[hour;hour;hour;];again 18[hour;];again 9[hour;];", 198, 0);
        // 9 turns of an again and 20 hours are 189 behind the first; then come an again and 9 hours
        work(TOWN, "again 20[again 20[hour;];];", 9 * 20 + 9, 0);
        // six agains and 60 hours, two more agains with 60, one with 11
        work(TOWN, "again 60[".repeat(6) + "hour;" + "];".repeat(6), 191, 0);
    }

    private static void refusedAreBegun() {
        work(TOWN, "again 60[go 0 0;go 0 0;go 0 0;go 0 0;];", 0, 199);
        work(TOWN, "again 60[go 0 0;go 0 0;go 0 0;];again 17[hour;];hour;hour;", 18, 180);
        work(TOWN, "again 60[go 0 0;go 0 0;go 0 0;];again 19[go 0 2;];hour;", 0, 198);
        work(TOWN, "bed 0;again 60[call 0;hour;];", 61, 60);
    }

    private static HopedHours lived() {
        HopedHours x = Check.made(TOWN, "hope+calls+hour");
        Check.work(x, "go 0 1;hour;bed 1;");
        return x;
    }

    /** call: REFUSED, if he is in bed, and changes nothing. */
    private static void refusedCall() {
        HopedHours x = lived();
        String before = Check.night(x);
        CHECK.due("in bed", Check.work(x, "call 1;"), 0);
        CHECK.due("refused", x.told(9), 1);
        CHECK.alike("behind a refused call", Check.night(x), before);
        CHECK.due("up again", Check.work(x, "bed 1;call 1;"), 2);
        CHECK.due("he called", x.man(1, 3), 1);
        CHECK.due("none is refused", x.told(9), 0);
    }

    /** go: REFUSED, if there is no LANE between, or he is in bed, and changes nothing. */
    private static void refusedGo() {
        HopedHours x = lived();
        String before = Check.night(x);
        CHECK.due("in bed, no lane, his own street", Check.work(x, "go 1 0;go 1 2;go 1 1;go 0 2;go 0 1;"), 0);
        CHECK.due("refused", x.told(9), 5);
        CHECK.alike("behind refused goes", Check.night(x), before);
        CHECK.due("along the lane, both ways", Check.work(x, "go 0 0;go 0 1;"), 2);
        HopedHours y = Check.made("street 0;street 0;lane 1 0;man 0 3 1;");
        CHECK.due("a lane leads both ways", Check.work(y, "go 0 1;go 0 0;"), 2);
        CHECK.due("he calls there", y.street(1, 4) * 100 + y.street(0, 4), 304);
    }

    private static void bed() {
        HopedHours x = lived();
        CHECK.due("one in bed gets up, where he is", Check.work(x, "bed 1;") + x.told(6) * 10 + x.man(1, 0) * 100, 131);
        CHECK.due("and to bed again", Check.work(x, "bed 1;bed 1;bed 1;") + x.told(6) * 10, 13);
        CHECK.due("he is in his street", x.street(1, 2), 3);
        CHECK.due("all are in bed", Check.work(x, "bed 0;") + x.told(6) * 10, 1);
        CHECK.due("hours pass", Check.work(x, "hour;"), 1);
    }

    private static void hours() {
        HopedHours x = lived();
        CHECK.due("to 22", Check.work(x, "again 21[hour;];"), 21);
        CHECK.due("hour 22", x.told(5) * 100 + x.told(4), 22);
        CHECK.due("to 23", Check.work(x, "hour;"), 1);
        CHECK.due("hour 23", x.told(5) * 100 + x.told(4), 23);
        CHECK.due("it is still heard", x.street(1, 4), 6);
        CHECK.due("he is still awake", x.told(7), 1);
        CHECK.due("to the next night", Check.work(x, "hour;"), 1);
        CHECK.due("hour 0", x.told(5) * 100 + x.told(4), 100);
        CHECK.due("nothing is heard", x.silent(), 7);
        CHECK.due("all sleep", x.told(7), 0);
    }

    /** What a night's end leaves: where men are, who is up, how often they called. */
    private static void nightsEnd() {
        HopedHours x = lived();
        Check.work(x, "again 23[hour;];");
        CHECK.due("where he is", x.man(0, 0), 1);
        CHECK.due("who is up", x.told(6), 1);
        CHECK.due("calls", x.told(10), 1);
        CHECK.due("the law is as it was", x.says(0, 0), 7);
        CHECK.due("undo", x.undo(), 1);
        CHECK.due("heard again", x.street(1, 4), 6);
        CHECK.due("awake again", x.told(7), 1);
    }

    private static void awakeFromNowOn() {
        HopedHours x = Check.made("street 0;street 0;lane 0 1;man 0 6 1;sleeper 0 6;sleeper 0 6;sleeper 0 7;sleeper 1 6;");
        Check.work(x, "call 0;");
        CHECK.due("all of that street at that hour", x.told(7), 3);
        Check.work(x, "call 0;");
        CHECK.due("who woke stays awake", x.told(7), 7);
        CHECK.due("heard last", x.street(0, 4), 7);
        Check.work(x, "again 60[call 0;];");
        CHECK.due("heard last", x.street(0, 4), (6 + 61) % 24);
        CHECK.due("the other street's sleeps", x.told(7), 7);
    }

    private static void sixteenWorks() {
        HopedHours x = Check.made(TOWN);
        for (int i = 1; i <= 16; i++) {
            CHECK.due("work " + i, Check.work(x, i == 9 ? "" : "hour;"), i == 9 ? 0 : 1);
            CHECK.due("works", x.count(2), i);
        }
        CHECK.due("a 17th", Check.work(x, "hour;"), -20);
        CHECK.due("an empty 17th", x.work(0), -20);
        CHECK.due("works", x.count(2), 16);
        CHECK.due("undo", x.undo(), 15);
        CHECK.due("a 16th again", Check.work(x, "again 5[hour;];"), 5);
        CHECK.due("full again", Check.work(x, "hour;"), -20);
        for (int i = 15; i >= 0; i--) {
            CHECK.due("undo", x.undo(), i);
            CHECK.due("hour", x.told(4), i < 9 ? i : i - 1);
        }
        CHECK.due("none is left", x.undo(), -1);
        CHECK.due("room for one", Check.work(x, "hour;"), 1);
    }

    /** A man's calls go on beyond the 999 that would() takes. */
    private static void theMostCalls() {
        HopedHours x = Check.made(TOWN, "calls/100");
        for (int i = 1; i <= 16; i++) {
            CHECK.due("199 calls", Check.work(x, "again 60[call 0;call 0;call 0;call 0;];"), 199);
            CHECK.due("calls", x.man(0, 3), 199 * i);
            CHECK.due("says", x.says(0, 0), 199 * i / 100 % 24);
        }
        CHECK.due("all calls", x.told(10), 3184);
        CHECK.due("most", x.busiest(1), 3184);
    }

    /** As far as 16 works lead: 3184 hours, and a year of 96 from there. */
    private static void theFarthestNight() {
        HopedHours x = Check.made(TOWN, "night/10+night%10");
        for (int i = 0; i < 16; i++) {
            CHECK.due("199 hours", Check.work(x, "again 60[hour;hour;hour;hour;];"), 199);
        }
        CHECK.due("night", x.told(5), 132);
        CHECK.due("hour", x.told(4), 16);
        CHECK.due("says", x.says(0, 0), 15);
        CHECK.due("a year's last night", x.year(1, 96, 0, 2), 136);
        CHECK.due("no more", Check.work(x, "hour;"), -20);
        CHECK.due("an image keeps hours and works together", x.image(), 1);
        x.undo();
        CHECK.due("restore", x.restore() + x.count(2), 16);
        CHECK.due("no more", Check.work(x, "hour;"), -20);
    }

    /** -20: nothing is read, there is no FAULT, the TAPE is empty then; else all stays. */
    private static void allStaysBehindTwenty() {
        HopedHours x = full();
        HopedHours y = full();
        CHECK.due("refused steps of the latest", x.told(9), 2);
        Check.feed(x, "hour;");
        CHECK.unfit("n beyond the tape comes first", () -> x.work(21));
        CHECK.unfit("n below 0 comes first", () -> x.work(-1));
        CHECK.due("the tape stays then", x.count(1), 20);
        CHECK.due("n is good", x.work(5), -20);
        CHECK.due("the tape is empty", x.count(1), 0);
        Check.law(x, "?");
        CHECK.due("a fault", x.fault(), 0);
        CHECK.due("a faulty one is not read", Check.work(x, "  ?"), -20);
        CHECK.due("there is no fault", x.fault(), -1);
        Check.feed(x, " ".repeat(160));
        CHECK.unfit("n beyond 150 comes first", () -> x.work(151));
        CHECK.due("150", x.work(150), -20);
        CHECK.due("refused steps of the latest that was done", x.told(9), 2);
        CHECK.same("behind -20", x, y);
    }

    private static HopedHours full() {
        HopedHours x = Check.made(TOWN);
        for (int i = 0; i < 15; i++) {
            Check.work(x, "call 0;hour;");
        }
        Check.work(x, "go 0 1;go 0 1;go 0 2;");
        return x;
    }

    private static void allStaysBehindAFault() {
        HopedHours x = lived();
        HopedHours y = lived();
        Check.work(x, "go 0 2;");
        Check.work(y, "go 0 2;");
        CHECK.due("a fault at the end", Check.work(x, "go 0 0;hour;bed 0;call 1"), -9);
        CHECK.due("its place", x.fault(), 24);
        CHECK.due("refused steps of the latest that was done", x.told(9), 1);
        x.book(0);
        y.book(0);
        CHECK.same("behind a work with a fault", x, y);
    }

    private static void undoing() {
        HopedHours x = new HopedHours();
        CHECK.due("none at first", x.undo(), -1);
        HopedHours y = lived();
        Check.city(y, TOWN);
        CHECK.due("none behind a city", y.undo(), -1);
        HopedHours z = lived();
        CHECK.due("a fault is no work", Check.work(z, "?"), -9);
        CHECK.due("the latest that was done", z.undo(), 0);
        CHECK.due("the fault stays", z.fault(), 0);
        CHECK.due("none is left", z.undo(), -1);
        CHECK.due("and again", z.undo(), -1);
        CHECK.due("that is no refused call", z.status(0) + z.status(1), 0);
        Check.law(z, "hope+calls+hour");
        CHECK.same("all is undone", z, Check.made(TOWN, "hope+calls+hour"));
    }

    /** told(9): 0 ahead of any, of the latest WORK, 0 behind undo(). */
    private static void refusedSteps() {
        HopedHours x = Check.made(TOWN);
        CHECK.due("ahead of any", x.told(9), 0);
        Check.work(x, "go 0 0;go 0 0;");
        CHECK.due("two", x.told(9), 2);
        Check.work(x, "go 0 0;");
        CHECK.due("of the latest alone", x.told(9), 1);
        CHECK.due("undo", x.undo(), 1);
        CHECK.due("not those of the one before", x.told(9), 0);
        Check.work(x, "go 0 0;");
        Check.law(x, "5");
        Check.book(x, "0 5;");
        x.image();
        CHECK.due("no law, book or image changes it", x.told(9), 1);
        Check.work(x, "");
        CHECK.due("an empty work has none", x.told(9), 0);
        Check.work(x, "go 0 0;");
        CHECK.due("a new city", Check.city(x, TOWN) + x.told(9), 2);
    }
}
