/** Promises 40 to 43: images, refusals and counts. */
public final class ImagesTest {
    private static final Check CHECK = new Check("ImagesTest");
    private static final String TOWN = "street 0;street 0;lane 0 1;man 0 6 9;sleeper 1 6;";

    public static void main(String[] args) {
        images();
        whatAnImageKeeps();
        worksOfAnImage();
        status();
        count();
        CHECK.end();
    }

    private static void images() {
        HopedHours x = Check.made(TOWN);
        CHECK.due("none", x.restore(), -1);
        for (int i = 1; i <= 3; i++) {
            Check.work(x, "hour;");
            CHECK.due("image", x.image(), i);
        }
        CHECK.due("a fourth", x.image(), -1);
        CHECK.due("three", x.count(0), 3);
        Check.work(x, "hour;go 0 0;");
        CHECK.due("refused", x.told(9), 1);
        for (int i = 2; i >= 0; i--) {
            CHECK.due("restore", x.restore(), i);
            CHECK.due("the latest first", x.told(4), i + 1);
            CHECK.due("its works", x.count(2), i + 1);
            CHECK.due("refused", x.told(9), 0);
        }
        CHECK.due("none is left", x.restore(), -1);
        CHECK.due("there is room again", x.image(), 1);
    }

    private static void whatAnImageKeeps() {
        HopedHours x = Check.made(TOWN);
        Check.work(x, "go 0 1;again 25[hour;];go 0 0;");
        Check.work(x, "go 0 1;bed 0;hour;");
        CHECK.due("image", x.image(), 1);
        CHECK.due("undo", x.undo(), 1);
        CHECK.due("undo", x.undo(), 0);
        Check.work(x, "again 3[hour;];");
        Check.law(x, "2");
        Check.book(x, "1 1;");
        CHECK.missing("refused", () -> x.man(5, 0));
        CHECK.due("restore", x.restore(), 0);
        CHECK.due("hour", x.told(4), 2);
        CHECK.due("night", x.told(5), 1);
        CHECK.due("up", x.told(6), 0);
        CHECK.due("calls", x.man(0, 3), 3);
        CHECK.due("place", x.man(0, 0), 1);
        CHECK.due("heard", x.street(1, 4), 8);
        CHECK.due("the law stays", x.says(0, 0), 2);
        CHECK.due("the book stays", x.told(8), 1);
        CHECK.due("no image keeps refusals", x.status(0), 1);
        CHECK.due("works", x.count(2), 2);
        CHECK.due("undo", x.undo(), 1);
        CHECK.due("as ahead of it", x.told(4), 1);
        CHECK.due("heard ahead of it", x.street(0, 4), 7);
        CHECK.due("undo", x.undo(), 0);
        CHECK.due("as at first", x.told(5), 0);
        CHECK.due("no work", Check.work(x, "go 0 1;"), 1);
        CHECK.due("awake", x.told(7), 0);
        Check.law(x, "6");
        Check.work(x, "call 0;");
        CHECK.due("awake", x.told(7), 1);
        x.image();
        Check.work(x, "again 24[hour;];");
        CHECK.due("asleep", x.told(7), 0);
        x.restore();
        CHECK.due("awake as in the image", x.told(7), 1);
        Check.work(x, "go 0 1;");
        CHECK.due("a restore that has none changes nothing", x.restore(), -1);
        CHECK.due("refused stays", x.told(9), 1);
    }

    /** Other works in the places of those that the image has must not be what undo() goes back to. */
    private static void worksOfAnImage() {
        HopedHours x = Check.made(TOWN);
        Check.work(x, "hour;");
        Check.work(x, "hour;");
        Check.work(x, "hour;");
        x.image();
        for (int i = 2; i >= 0; i--) {
            CHECK.due("undo", x.undo(), i);
        }
        Check.work(x, "again 5[hour;];bed 0;");
        Check.work(x, "again 5[hour;];bed 0;");
        Check.work(x, "again 5[hour;];bed 0;");
        CHECK.due("restore", x.restore(), 0);
        for (int i = 2; i >= 0; i--) {
            CHECK.due("undo", x.undo(), i);
            CHECK.due("the hour ahead of it", x.told(4), i);
            CHECK.due("up", x.told(6), 1);
        }
    }

    private static void status() {
        HopedHours x = new HopedHours();
        CHECK.due("none yet", x.status(0), 0);
        CHECK.due("none yet", x.status(1), 0);
        CHECK.missing("street", () -> x.street(0, 9));
        CHECK.missing("says", () -> x.says(0, 0));
        CHECK.unfit("told", () -> x.told(99));
        CHECK.unfit("law", () -> x.law(1));
        CHECK.unfit("span", () -> x.span(0, 0, 0, 0, 9, 0));
        CHECK.due("missing", x.status(0), 2);
        CHECK.due("unfit", x.status(1), 3);
        CHECK.due("-1", x.status(-1), -1);
        CHECK.due("2", x.status(2), -1);
        CHECK.due("a fault is no refusal", Check.law(x, "x"), -9);
        CHECK.due("a city keeps them", Check.city(x, TOWN), 1);
        CHECK.due("missing", x.status(0), 2);
        CHECK.due("unfit", x.status(1), 3);
    }

    private static void count() {
        HopedHours x = Check.made(TOWN);
        x.image();
        Check.work(x, "hour;");
        Check.work(x, "hour;");
        x.feed(0, 0, 0, 0, 0);
        CHECK.due("images", x.count(0), 1);
        CHECK.due("bytes", x.count(1), 20);
        CHECK.due("works", x.count(2), 2);
        CHECK.due("-1", x.count(-1), -1);
        CHECK.due("3", x.count(3), -1);
    }
}
