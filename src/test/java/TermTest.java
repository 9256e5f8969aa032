/** Promise 16: terms, by the first line whose tests hold. */
public final class TermTest {
    private static final int RATE = 0;
    private static final int THREAD = 1;
    private static final int FINE = 2;
    private static final int LATE = 3;
    private static final int DAYS = 4;
    private static final int PART = 5;

    public static void main(String[] args) {
        hasDefaults();
        takesTheFirstLine();
        testsStitchAndColour();
        testsTheRest();
        testsSize();
        testsWeekAndHay();
        needsAllTests();
        asksTheListOfNow();
        refusesWhatIsNotThere();
        Due.end();
    }

    private static NeedleHomes one(String pattern, String list) {
        NeedleHomes x = new NeedleHomes();
        Due.goodPattern(x, pattern, 2, 0, 0);
        x.hand(100, 5, 0);
        Due.goodList(x, list, 0, 0, 0);
        return x;
    }

    private static void term(NeedleHomes x, int topic, int stitch, int colour, int want) {
        Due.is("term " + topic + " of " + stitch + " in " + colour, x.term(topic, 0, 0, 0, stitch, colour), want);
    }

    private static void hasDefaults() {
        int[] wanted = {10, 5, 0, 0, 7, 0};
        NeedleHomes listed = one("a1", "");
        NeedleHomes unlisted = new NeedleHomes();
        Due.goodPattern(unlisted, "a1", 0, 0, 0);
        unlisted.hand(1, 1, 0);
        for (int topic = RATE; topic <= PART; topic++) {
            term(listed, topic, 0, 0, wanted[topic]);
            term(unlisted, topic, 0, 0, wanted[topic]);
        }
    }

    private static void takesTheFirstLine() {
        NeedleHomes x = one("a1", "rate if stitch=3:1;rate:2;rate if stitch=4:3;thread:4;fine:5;late:6;days:7000;part:8;"
                + "thread:9;fine:9;late:9;days:9;part:9;");
        term(x, RATE, 3, 0, 1);
        term(x, RATE, 2, 0, 2);
        term(x, RATE, 4, 0, 2);
        term(x, THREAD, 0, 0, 4);
        term(x, FINE, 0, 0, 5);
        term(x, LATE, 0, 0, 6);
        term(x, DAYS, 0, 0, 7000);
        term(x, PART, 0, 0, 8);
    }

    private static void testsStitchAndColour() {
        NeedleHomes x = one("a1", "rate if stitch<2:1;rate if stitch>4:2;rate if not colour=3:3;"
                + "thread if colour>2:4;thread if not stitch<5:6;fine if stitch=9:7;late if colour=9:8;"
                + "days if stitch<9:9;part if not colour>8:11;");
        term(x, RATE, 0, 0, 1);
        term(x, RATE, 1, 3, 1);
        term(x, RATE, 2, 3, 10);
        term(x, RATE, 2, 2, 3);
        term(x, RATE, 4, 3, 10);
        term(x, RATE, 5, 3, 2);
        term(x, THREAD, 0, 3, 4);
        term(x, THREAD, 5, 2, 6);
        term(x, THREAD, 4, 2, 5);
        term(x, FINE, 0, 0, 7);
        term(x, FINE, -4, 77, 7);
        term(x, LATE, 1, 1, 8);
        term(x, DAYS, 0, 0, 7);
        term(x, PART, 0, 0, 0);
    }

    private static void testsTheRest() {
        NeedleHomes x = one("a1", "rate if ground=2:1;thread if ground<2:1;thread if ground>2:1;thread if ground>1:2;"
                + "fine if skill=100:3;late if skill<100:4;late if skill>100:4;late if not skill>100:5;"
                + "days if spots=0:6;part if not spots<1:1;part if spots>0:1;part if spots<1:7;");
        int[] wanted = {1, 2, 3, 5, 6, 7};
        for (int topic = RATE; topic <= PART; topic++) {
            term(x, topic, 0, 0, wanted[topic]);
        }
    }

    private static void testsSize() {
        term(one("a99", "rate if size=0:1;"), RATE, 0, 0, 1);
        term(one("a100", "rate if size=1:1;"), RATE, 0, 0, 1);
        term(one("a100b99", "rate if size=1:1;"), RATE, 0, 0, 1);
        term(one("a100b100", "rate if size=2:1;"), RATE, 0, 0, 1);
        term(one("100[a9999]", "rate if size=9999:1;"), RATE, 0, 0, 1);
        term(one("100[a9999]b99", "rate if size>9998:1;"), RATE, 0, 0, 1);
        term(one("1000[a1000]", "rate if size=9999:1;"), RATE, 0, 0, 1);
    }

    private static void testsWeekAndHay() {
        NeedleHomes x = one("a1", "rate if week=0:1;rate if week<3:2;rate if week>3:3;fine if hay:4;late if not hay:5;");
        term(x, RATE, 0, 0, 1);
        term(x, FINE, 0, 0, 0);
        term(x, LATE, 0, 0, 5);
        x.hay(0, 1, true);
        term(x, FINE, 0, 0, 0);
        x.day(7);
        term(x, RATE, 0, 0, 2);
        term(x, FINE, 0, 0, 4);
        term(x, LATE, 0, 0, 0);
        x.day(20);
        term(x, RATE, 0, 0, 2);
        term(x, FINE, 0, 0, 0);
        x.day(21);
        term(x, RATE, 0, 0, 10);
        x.day(28);
        term(x, RATE, 0, 0, 3);
    }

    private static void needsAllTests() {
        NeedleHomes x = one("a1", "rate if stitch>0 and stitch<5 and not stitch=2 and not colour=1:1;");
        int[][] wanted = {{0, 0, 10}, {1, 0, 1}, {2, 0, 10}, {3, 0, 1}, {3, 1, 10}, {4, 2, 1}, {5, 0, 10}};
        for (int[] row : wanted) {
            term(x, RATE, row[0], row[1], row[2]);
        }
        NeedleHomes last = one("a1", "late:1;".repeat(15) + "rate if not stitch=1 and stitch<4 and colour=0 and ground=2:3;");
        int[][] ofTheLastLine = {{0, 0, 3}, {1, 0, 10}, {3, 0, 3}, {4, 0, 10}, {0, 1, 10}};
        for (int[] row : ofTheLastLine) {
            term(last, RATE, row[0], row[1], row[2]);
        }
    }

    private static void asksTheListOfNow() {
        NeedleHomes x = one("a1", "rate:1;");
        Due.goodList(x, "rate:2;", 0, 1, 1);
        Due.goodList(x, "rate:3;", 1, 0, 2);
        term(x, RATE, 0, 0, 1);
        Due.is("of another dealer", x.term(RATE, 1, 0, 0, 0, 0), 3);
        Due.is("of a third", x.term(RATE, 2, 0, 0, 0, 0), 10);
        x.day(7);
        term(x, RATE, 0, 0, 2);
        Due.goodList(x, "", 0, 1, 3);
        term(x, RATE, 0, 0, 10);
    }

    private static void refusesWhatIsNotThere() {
        NeedleHomes x = one("a1", "");
        int[][] others = {{-1, 0, 0, 0, 0, 0}, {6, 0, 0, 0, 0, 0}, {0, -1, 0, 0, 0, 0}, {0, 3, 0, 0, 0, 0},
            {0, 0, -1, 0, 0, 0}, {0, 0, 1, 0, 0, 0}, {0, 0, 0, -1, 0, 0}, {0, 0, 0, 1, 0, 0}, {0, 0, 0, 0, -1, 0},
            {0, 0, 0, 0, 6, 0}, {0, 0, 0, 0, 0, -1}, {0, 0, 0, 0, 0, 4}, {1, 0, 0, 0, 6, 0}, {1, 0, 0, 0, 0, 4},
            {4, 3, 0, 0, 0, 0}, {4, 0, 1, 0, 0, 0}, {4, 0, 0, 1, 0, 0}};
        for (int[] o : others) {
            Due.is("term " + java.util.Arrays.toString(o), x.term(o[0], o[1], o[2], o[3], o[4], o[5]), -1);
        }
        for (int topic = FINE; topic <= PART; topic++) {
            Due.is("term without a stitch", x.term(topic, 0, 0, 0, 6, -1), topic == DAYS ? 7 : 0);
        }
    }
}
