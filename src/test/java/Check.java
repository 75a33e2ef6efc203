/** What the tests share: texts put on the TAPE, and answers held against those that are due. */
final class Check {
    private final String name;
    private int wrong = 0;

    Check(String name) {
        this.name = name;
    }

    void due(String what, long got, long want) {
        if (got != want) {
            wrong++;
            System.out.println(name + ": " + what + " answered " + got + ", due is " + want);
        }
    }

    void missing(String what, Runnable call) {
        refused(what, call, java.util.NoSuchElementException.class);
    }

    void unfit(String what, Runnable call) {
        refused(what, call, IllegalArgumentException.class);
    }

    private void refused(String what, Runnable call, Class<?> kind) {
        Class<?> thrown = null;
        try {
            call.run();
        } catch (RuntimeException e) {
            thrown = e.getClass();
        }
        if (thrown != kind) {
            wrong++;
            System.out.println(name + ": " + what + " threw " + thrown + ", due is " + kind);
        }
    }

    void end() {
        if (wrong != 0) {
            System.out.println(name + ": " + wrong + " answers are not as due");
            System.exit(1);
        }
    }

    static int feed(HopedHours x, String text) {
        int fed = 0;
        for (int from = 0; from < text.length(); from += 20) {
            int[] numbers = new int[5];
            for (int i = 0; i < 20; i++) {
                int sign = from + i < text.length() ? text.charAt(from + i) : 0;
                numbers[i / 4] = numbers[i / 4] << 8 | sign;
            }
            fed = x.feed(numbers[0], numbers[1], numbers[2], numbers[3], numbers[4]);
        }
        return fed;
    }

    static int city(HopedHours x, String text) {
        feed(x, text);
        return x.city(text.length());
    }

    static int law(HopedHours x, String text) {
        feed(x, text);
        return x.law(text.length());
    }

    static int work(HopedHours x, String text) {
        feed(x, text);
        return x.work(text.length());
    }

    static int book(HopedHours x, String text) {
        feed(x, text);
        return x.book(text.length());
    }

    static HopedHours made(String city) {
        HopedHours x = new HopedHours();
        if (city(x, city) < 0) {
            throw new IllegalStateException("the test's city has a fault at " + x.fault());
        }
        return x;
    }

    /** Another object of the same CITY, with a LAW. */
    static HopedHours made(String city, String law) {
        HopedHours x = made(city);
        if (law(x, law) != 1) {
            throw new IllegalStateException("the test's law has a fault at " + x.fault());
        }
        return x;
    }
}
