/** Promises 9 to 13: what there is, by number. */
public final class ToldTest {
    private static final Check CHECK = new Check("ToldTest");
    private static final String TOWN = "street 5;street 30;street 2;street 0;"
            + "lane 0 1;lane 2 1;man 0 6 12;man 2 9 24;man 2 23 1;"
            + "sleeper 1 6;sleeper 2 9;sleeper 1 23;sleeper 0 0;";

    public static void main(String[] args) {
        HopedHours x = Check.made(TOWN);
        // man 0 calls 6 in street 1, man 1 calls 9 in 2, then 10 in 1; man 2 is in bed
        Check.work(x, "go 0 1;call 1;go 1 1;bed 2;go 0 3;call 2;hour;hour;");
        Check.book(x, "3 3;0 0;2 1;");
        told(x);
        streets(x);
        lanes(x);
        men(x);
        sleepers(x);
        refusalsInOrder(x);
        CHECK.end();
    }

    private static void told(HopedHours x) {
        int[] due = {4, 2, 3, 4, 2, 0, 3, 3, 3, 2, 3};
        for (int what = 0; what < due.length; what++) {
            CHECK.due("told(" + what + ")", x.told(what), due[what]);
        }
        CHECK.unfit("told(-1)", () -> x.told(-1));
        CHECK.unfit("told(11)", () -> x.told(11));
    }

    private static void row(String name, java.util.function.IntUnaryOperator call, int... due) {
        for (int what = 0; what < due.length; what++) {
            CHECK.due(name + ", " + what, call.applyAsInt(what), due[what]);
        }
        CHECK.unfit(name + ", -1", () -> call.applyAsInt(-1));
        CHECK.unfit(name + ", " + due.length, () -> call.applyAsInt(due.length));
    }

    private static void streets(HopedHours x) {
        row("street 0", what -> x.street(0, what), 5, 2, 0, 8, -1);
        row("street 1", what -> x.street(1, what), 30, 5, 3, 5, 10);
        row("street 2", what -> x.street(2, what), 2, 2, 4, 2, 9);
        row("street 3", what -> x.street(3, what), 0, 0, 0, 0, -1);
        CHECK.missing("street -1", () -> x.street(-1, 0));
        CHECK.missing("street 4", () -> x.street(4, 0));
    }

    private static void lanes(HopedHours x) {
        row("lane 0", what -> x.lane(0, what), 0, 1);
        row("lane 1", what -> x.lane(1, what), 2, 1);
        CHECK.missing("lane -1", () -> x.lane(-1, 0));
        CHECK.missing("lane 2", () -> x.lane(2, 0));
    }

    private static void men(HopedHours x) {
        row("man 0", what -> x.man(0, what), 1, 6, 12, 1, 1);
        row("man 1", what -> x.man(1, what), 1, 9, 24, 2, 1);
        row("man 2", what -> x.man(2, what), 2, 23, 1, 0, 0);
        CHECK.missing("man -1", () -> x.man(-1, 0));
        CHECK.missing("man 3", () -> x.man(3, 0));
    }

    private static void sleepers(HopedHours x) {
        row("sleeper 0", what -> x.sleeper(0, what), 1, 6, 1);
        row("sleeper 1", what -> x.sleeper(1, what), 2, 9, 1);
        row("sleeper 2", what -> x.sleeper(2, what), 1, 23, 0);
        row("sleeper 3", what -> x.sleeper(3, what), 0, 0, 0);
        CHECK.missing("sleeper -1", () -> x.sleeper(-1, 0));
        CHECK.missing("sleeper 4", () -> x.sleeper(4, 0));
    }

    private static void refusalsInOrder(HopedHours x) {
        CHECK.missing("street 4, 9", () -> x.street(4, 9));
        CHECK.missing("lane 2, 9", () -> x.lane(2, 9));
        CHECK.missing("man 3, 9", () -> x.man(3, 9));
        CHECK.missing("sleeper 4, 9", () -> x.sleeper(4, 9));
    }
}
