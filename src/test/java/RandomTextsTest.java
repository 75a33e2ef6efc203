import java.util.Random;

/** Promises 3 to 7: random texts, most of them spoilt, against a second reading of them. */
public final class RandomTextsTest {
    private static final Check CHECK = new Check("RandomTextsTest");
    private static final String TOWN = "street 5;street 9;street 1;lane 0 1;man 0 6 12;man 1 8 2;sleeper 1 6;";
    private static final String[] CITY = {"street ", "lane ", "man ", "sleeper ", ";", " ", "0 ", "1 ", "23 ", "24 ",
        "30;", "31;", "street 3;street 4;", "lane 0 1;", "lane 1 2;", "man 0 5 6;", "sleeper 0 9;"};
    private static final String[] LAW = {"hope", "hour", "calls", "street", "men", "walks", "night", "heard", "least[",
        "most [", "(", ")", "]", ",", "+", "-", "*", "/", "%", "1", "999", "1000", " ", "least[1,", "(2+"};
    private static final String[] WORK = {"go 0 1;", "go 1 0;", "call 0;", "call 1;", "bed 0;", "hour;", "again 3 [",
        "again 60[", "again 61[", "];", "];", "]", ";", " ", "go 2 0;", "call ", "hour", "7", "again 2[hour;];"};
    private static final String[] BOOK = {"0 5;", "1 23;", "2 0;", "3 1;", "1 24;", "0 ", "7", ";", " ", "x"};
    private static final int[] GOOD = new int[128];
    private static final int[] BAD = new int[128];

    public static void main(String[] args) {
        Random random = new Random(5);
        for (int i = 0; i < 8000; i++) {
            one(random, 'c', CITY, 12 + random.nextInt(40), 600);
            one(random, 'l', LAW, 1 + random.nextInt(14), 150);
            one(random, 'w', WORK, random.nextInt(14), 150);
            one(random, 'b', BOOK, random.nextInt(4), 60);
        }
        for (char kind : "clwb".toCharArray()) {
            CHECK.due("good and bad ones among " + kind, GOOD[kind] > 50 && BAD[kind] > 50 ? 1 : 0, 1);
        }
        CHECK.end();
    }

    private static String text(Random random, char kind, String[] parts, int many) {
        StringBuilder text = new StringBuilder();
        // whole clauses mostly, so that faults come late
        for (int i = 0; i < many; i++) {
            int part = random.nextInt(parts.length);
            if (kind == 'c' && random.nextInt(12) != 0) {
                String[] clauses = {"street 7;", "lane " + random.nextInt(9) + " " + random.nextInt(9) + ";",
                    "man " + random.nextInt(4) + " 5 6;", "sleeper " + random.nextInt(4) + " 9;"};
                text.append(clauses[i < 9 ? 0 : random.nextInt(40) == 0 ? 0 : 1 + random.nextInt(3)]);
            } else {
                text.append(parts[part]);
            }
        }
        if (text.length() > 0 && random.nextInt(3) == 0) {
            int place = random.nextInt(text.length());
            text.setCharAt(place, (char) (random.nextBoolean() ? random.nextInt(256) : "0; a[(".charAt(random.nextInt(6))));
        }
        return text.toString();
    }

    private static void one(Random random, char kind, String[] parts, int many, int most) {
        String text = text(random, kind, parts, many);
        if (text.length() > most) {
            text = text.substring(0, most);
        }
        HopedHours x = Check.made(TOWN);
        int[] due = FaultModel.of(kind, text, 3, 2);
        int answer = kind == 'c' ? Check.city(x, text) : kind == 'l' ? Check.law(x, text)
                : kind == 'w' ? Check.work(x, text) : Check.book(x, text);
        CHECK.due("fault of " + kind + " '" + text + "'", answer < 0 ? answer + 10 : 0, due[0]);
        CHECK.due("place of " + kind + " '" + text + "'", x.fault(), due[1]);
        if (due[0] == 0) {
            GOOD[kind]++;
        } else {
            BAD[kind]++;
        }
    }
}
