/** The bounds of IMAGES and of what is counted: promises 9, 40 to 43. */
public final class BoundsImagesTest {
    private static final Check CHECK = new Check("BoundsImagesTest");
    private static final String TOWN = "street 0;street 0;lane 0 1;man 0 6 9;man 1 9 2;sleeper 1 6;sleeper 0 9;";

    public static void main(String[] args) {
        noImages();
        fullOfImages();
        fourthChangesNothing();
        imageOfFullWorks();
        imageOfNoWorks();
        whatAnImageLeaves();
        imagesBehindACity();
        imagesBehindAFault();
        refusedStepsBehindRestore();
        statusOfOthers();
        statusCounts();
        countOfOthers();
        CHECK.end();
    }

    private static void noImages() {
        HopedHours x = Check.made(TOWN);
        Check.work(x, "go 0 1;");
        String before = Check.state(x);
        CHECK.due("none", x.restore(), -1);
        CHECK.due("none again", x.restore(), -1);
        CHECK.alike("behind a restore of none", Check.state(x), before);
        CHECK.due("no refused calls", x.status(0) + x.status(1), 0);
    }

    private static void fullOfImages() {
        HopedHours x = Check.made(TOWN);
        for (int i = 1; i <= 3; i++) {
            CHECK.due("image " + i, x.image(), i);
            CHECK.due("images", x.count(0), i);
            Check.work(x, "hour;call 0;");
        }
        CHECK.due("a 4th", x.image(), -1);
        CHECK.due("images", x.count(0), 3);
        CHECK.due("restore", x.restore(), 2);
        CHECK.due("the third", x.told(4), 2);
        CHECK.due("room for one", x.image(), 3);
        CHECK.due("full again", x.image(), -1);
        for (int i = 2; i >= 0; i--) {
            CHECK.due("restore", x.restore(), i);
            CHECK.due("the latest", x.told(4), i);
            CHECK.due("works", x.count(2), i);
        }
        CHECK.due("none is left", x.restore(), -1);
    }

    private static HopedHours withThree() {
        HopedHours x = Check.made(TOWN);
        for (int i = 0; i < 3; i++) {
            Check.work(x, "go 0 1;hour;go 0 0;");
            x.image();
        }
        Check.work(x, "bed 1;call 1;");
        return x;
    }

    private static void fourthChangesNothing() {
        HopedHours x = withThree();
        HopedHours y = withThree();
        CHECK.due("a 4th", x.image(), -1);
        CHECK.due("refused steps stay", x.told(9), 1);
        CHECK.same("behind a 4th image", x, y);
    }

    private static void imageOfFullWorks() {
        HopedHours x = Check.made(TOWN);
        for (int i = 0; i < 16; i++) {
            Check.work(x, "hour;");
        }
        CHECK.due("image", x.image(), 1);
        for (int i = 15; i >= 0; i--) {
            x.undo();
        }
        Check.work(x, "again 20[call 0;];");
        CHECK.due("restore", x.restore(), 0);
        CHECK.due("16 works again", x.count(2), 16);
        CHECK.due("full", Check.work(x, "hour;"), -20);
        for (int i = 15; i >= 0; i--) {
            CHECK.due("undo", x.undo(), i);
            CHECK.due("the hour ahead of it", x.told(4), i);
        }
        CHECK.due("calls", x.told(10), 0);
        CHECK.due("none is left", x.undo(), -1);
    }

    private static void imageOfNoWorks() {
        HopedHours x = Check.made(TOWN);
        CHECK.due("image", x.image(), 1);
        Check.work(x, "hour;");
        Check.work(x, "hour;");
        CHECK.due("restore", x.restore(), 0);
        CHECK.due("no works", x.count(2), 0);
        CHECK.due("nothing to undo", x.undo(), -1);
        HopedHours y = new HopedHours();
        CHECK.due("of a city of nothing", y.image(), 1);
        Check.work(y, "hour;");
        CHECK.due("restore", y.restore(), 0);
        CHECK.due("hour", y.told(4), 0);
    }

    /** LAW, BOOK, TAPE, FAULT and refusals are no WORK's change: no IMAGE keeps them. */
    private static void whatAnImageLeaves() {
        HopedHours x = Check.made(TOWN);
        x.image();
        Check.law(x, "5");
        Check.book(x, "0 1;1 2;");
        Check.work(x, "?");
        CHECK.missing("no man", () -> x.man(9, 0));
        CHECK.unfit("no what", () -> x.told(11));
        Check.feed(x, "hour;");
        CHECK.due("restore", x.restore(), 0);
        CHECK.due("law", x.says(0, 0), 5);
        CHECK.due("book", x.told(8), 2);
        CHECK.due("tape", x.count(1), 20);
        CHECK.due("fault", x.fault(), 0);
        CHECK.due("missing", x.status(0), 1);
        CHECK.due("unfit", x.status(1), 1);
        CHECK.due("the tape is whole", x.work(5), 1);
    }

    private static void imagesBehindACity() {
        HopedHours x = withThree();
        CHECK.due("a new city", Check.city(x, TOWN), 2);
        CHECK.due("no images", x.count(0), 0);
        CHECK.due("none to restore", x.restore(), -1);
        CHECK.due("room for three", x.image() + x.image() + x.image(), 6);
    }

    private static void imagesBehindAFault() {
        HopedHours x = withThree();
        CHECK.due("a faulty city", Check.city(x, "?"), -9);
        CHECK.due("three images", x.count(0), 3);
        CHECK.due("works", x.count(2), 4);
        CHECK.due("restore", x.restore(), 2);
        CHECK.due("works of it", x.count(2), 3);
    }

    private static void refusedStepsBehindRestore() {
        HopedHours x = Check.made(TOWN);
        Check.work(x, "go 0 0;");
        x.image();
        CHECK.due("an image leaves them", x.told(9), 1);
        Check.work(x, "go 0 0;go 0 0;");
        CHECK.due("restore", x.restore(), 0);
        CHECK.due("0, not those of the image", x.told(9), 0);
        Check.work(x, "go 0 0;go 0 0;");
        CHECK.due("no image", x.restore(), -1);
        CHECK.due("nothing was restored", x.told(9), 2);
    }

    private static final int[] OTHERS = {Integer.MIN_VALUE, -100, -2, -1, 3, 4, 100, Integer.MAX_VALUE};

    private static void statusOfOthers() {
        HopedHours x = Check.made(TOWN);
        for (int what : OTHERS) {
            CHECK.due("status " + what, x.status(what), -1);
        }
        CHECK.due("status 2", x.status(2), -1);
        CHECK.due("none is counted", x.status(0) + x.status(1), 0);
    }

    /** Each refused call once, by its exception; what answers NONE, -1, -20 or a FAULT is none. */
    private static void statusCounts() {
        HopedHours x = new HopedHours();
        for (int i = 1; i <= 9; i++) {
            CHECK.missing("street", () -> x.street(0, 99));
            CHECK.due("missing", x.status(0), i);
            CHECK.due("unfit", x.status(1), i - 1);
            CHECK.unfit("would", () -> x.would(-1, -1, -1, -1, -1, -1, -1, -1));
            CHECK.due("missing", x.status(0), i);
            CHECK.due("unfit", x.status(1), i);
        }
        x.undo();
        x.restore();
        x.listen(0);
        x.roster(1);
        x.status(5);
        x.count(5);
        Check.law(x, "?");
        Check.work(x, "?");
        for (int i = 0; i < 31; i++) {
            x.feed(0, 0, 0, 0, 0);
        }
        CHECK.due("missing", x.status(0), 9);
        CHECK.due("unfit", x.status(1), 9);
        Check.city(x, "");
        CHECK.due("a new city keeps them", x.status(0) + x.status(1), 18);
    }

    private static void countOfOthers() {
        HopedHours x = Check.made(TOWN);
        for (int what : OTHERS) {
            CHECK.due("count " + what, x.count(what), -1);
        }
        CHECK.due("none is refused", x.status(0) + x.status(1), 0);
    }
}
