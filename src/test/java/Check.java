/** What the tests share: texts put on the TAPE, and answers held against those that are due. */
final class Check {
    private final String name;
    private int wrong = 0;

    Check(String name) {
        this.name = name;
    }

    void due(String what, long got, long want) {
        if (got != want) {
            wrong++;
            System.out.println(name + ": " + what + " answered " + got + ", due is " + want);
        }
    }

    void missing(String what, Runnable call) {
        refused(what, call, java.util.NoSuchElementException.class);
    }

    void unfit(String what, Runnable call) {
        refused(what, call, IllegalArgumentException.class);
    }

    private void refused(String what, Runnable call, Class<?> kind) {
        Class<?> thrown = null;
        try {
            call.run();
        } catch (RuntimeException e) {
            thrown = e.getClass();
        }
        if (thrown != kind) {
            wrong++;
            System.out.println(name + ": " + what + " threw " + thrown + ", due is " + kind);
        }
    }

    /** Both objects answer alike, now and wherever undo() and restore() lead; both are used up by it. */
    void same(String what, HopedHours x, HopedHours y) {
        alike(what, state(x), state(y));
        for (int images = 3, left = 0; images >= 0 && left != -1; images--) {
            for (int works = 16, undone = 0; works >= 0 && undone != -1; works--) {
                alike(what + ", night", night(x), night(y));
                undone = x.undo();
                due(what + ", undo", undone, y.undo());
            }
            left = x.restore();
            due(what + ", restore", left, y.restore());
        }
    }

    void alike(String what, String got, String want) {
        if (!got.equals(want)) {
            wrong++;
            System.out.println(name + ": " + what + " is now " + got + ", due is " + want);
        }
    }

    void end() {
        if (wrong != 0) {
            System.out.println(name + ": " + wrong + " answers are not as due");
            System.exit(1);
        }
    }

    static int feed(HopedHours x, String text) {
        int fed = 0;
        for (int from = 0; from < text.length(); from += 20) {
            int[] numbers = new int[5];
            for (int i = 0; i < 20; i++) {
                int sign = from + i < text.length() ? text.charAt(from + i) : 0;
                numbers[i / 4] = numbers[i / 4] << 8 | sign;
            }
            fed = x.feed(numbers[0], numbers[1], numbers[2], numbers[3], numbers[4]);
        }
        return fed;
    }

    /** All that is told of an object, what depends on its LAW and BOOK, too. */
    static String state(HopedHours x) {
        StringBuilder all = new StringBuilder("fault " + x.fault() + " count");
        for (int what = 0; what <= 2; what++) {
            all.append(' ').append(x.count(what));
        }
        all.append(" told");
        for (int what = 0; what <= 10; what++) {
            all.append(' ').append(x.told(what));
        }
        all.append(night(x)).append(" says");
        for (int i = 0; i < x.told(2); i++) {
            all.append(' ').append(x.says(i, 0)).append(' ').append(x.says(i, x.told(0) - 1));
        }
        all.append(" lanes");
        for (int i = 0; i < x.told(1); i++) {
            all.append(' ').append(x.lane(i, 0)).append('-').append(x.lane(i, 1));
        }
        all.append(" sleepers");
        for (int i = 0; i < x.told(3); i++) {
            all.append(' ').append(x.sleeper(i, 0)).append(':').append(x.sleeper(i, 1));
        }
        return all.append(" who ").append(x.who(0)).append(' ').append(x.who(1)).toString();
    }

    /** All that WORK changes, as an object tells it. */
    static String night(HopedHours x) {
        StringBuilder all = new StringBuilder(" night");
        for (int what : new int[] {4, 5, 6, 7, 10}) {
            all.append(' ').append(x.told(what));
        }
        for (int i = 0; i < x.told(0); i++) {
            all.append(" s").append(x.street(i, 4));
        }
        for (int i = 0; i < x.told(2); i++) {
            all.append(" m").append(x.man(i, 0)).append(':').append(x.man(i, 3));
        }
        return all.toString();
    }

    static int city(HopedHours x, String text) {
        feed(x, text);
        return x.city(text.length());
    }

    static int law(HopedHours x, String text) {
        feed(x, text);
        return x.law(text.length());
    }

    static int work(HopedHours x, String text) {
        feed(x, text);
        return x.work(text.length());
    }

    static int book(HopedHours x, String text) {
        feed(x, text);
        return x.book(text.length());
    }

    static HopedHours made(String city) {
        HopedHours x = new HopedHours();
        if (city(x, city) < 0) {
            throw new IllegalStateException("the test's city has a fault at " + x.fault());
        }
        return x;
    }

    /** Another object of the same CITY, with a LAW. */
    static HopedHours made(String city, String law) {
        HopedHours x = made(city);
        if (law(x, law) != 1) {
            throw new IllegalStateException("the test's law has a fault at " + x.fault());
        }
        return x;
    }
}
