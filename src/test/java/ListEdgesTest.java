/** Promises 5, 9 and 10 and the second paragraph of terms, sentence by sentence: lists, days, what is known. */
public final class ListEdgesTest {
    public static void main(String[] args) {
        theEmptyTextIsAList();
        linesAreToldWhole();
        topicsAreSix();
        testsAreAsTold();
        eachByteBehindALine();
        numbersHaveOneToFourDigits();
        faultOneIsAtTheFirstByteOfATokenOrAtTheEnd();
        aPartAboveAHundredIsFaultTwo();
        sixteenLinesAreTaken();
        fourTestsAreTaken();
        theFirstFaultByPlaceIsTold();
        faultOneGoesBeforeOthers();
        eachTextBeginsAnew();
        theTapeIsTaken();
        listsAreNumberedFromNull();
        aFaultIsNone();
        anEleventhIsRefused();
        anotherDealerIsRefused();
        anotherWeekIsRefused();
        noTextIsReadWhenRefused();
        daysGoOn();
        daysEndAtTheLast();
        aWeekHasSevenDays();
        listsAreToldByTheirDay();
        listsAreFromTheirWeekOn();
        theLatestWeekGoesFirst();
        ofSeveralTheOneToldLast();
        noListIsNone();
        listsOfNoneAreRefused();
        Due.end();
    }

    private static void good(String text) {
        Due.goodList(new NeedleHomes(), text, 0, 0, 0);
    }

    private static void theEmptyTextIsAList() {
        Due.terms(2, "TEXT: {LINE}");
        good("");
        good(" ");
        good(" \n".repeat(200));
        good("rate:1;");
        good("rate:1;late:2;");
        good(" rate : 1 ; late : 2 ; ");
    }

    private static void linesAreToldWhole() {
        Due.terms(2, "LINE: TOPIC ['if' TEST {'and' TEST}] ':' NUMBER ';'");
        Due.badList("rate", 1, 4);
        Due.badList("rate:", 1, 5);
        Due.badList("rate:1", 1, 6);
        Due.badList("rate;", 1, 4);
        Due.badList("rate:;", 1, 5);
        Due.badList(":1;", 1, 0);
        Due.badList("rate:1;;", 1, 7);
        Due.badList("rate if:1;", 1, 7);
        Due.badList("rate and hay:1;", 1, 5);
        Due.badList("rate hay:1;", 1, 5);
        Due.badList("rate if hay and:1;", 1, 15);
        Due.badList("rate if hay if hay:1;", 1, 12);
        good("rate if hay:1;");
        good("rate if hay and hay:1;");
    }

    private static void topicsAreSix() {
        Due.terms(2, "TOPICS: 'rate', 'thread', 'fine', 'late', 'days', 'part'");
        String[] topics = {"rate", "thread", "fine", "late", "days", "part"};
        for (String topic : topics) {
            good(topic + ":1;");
            Due.badList(topic + "s:1;", 1, 0);
            Due.badList(topic.substring(0, topic.length() - 1) + ":1;", 1, 0);
            Due.badList("x" + topic + ":1;", 1, 0);
            Due.badList("rate if " + topic + "<1:1;", 1, 8);
        }
        String[] others = {"if", "and", "not", "hay", "stitch", "size", "a", "k"};
        for (String other : others) {
            Due.badList("rate:1; " + other + ":1;", 1, 8);
        }
    }

    private static void testsAreAsTold() {
        Due.terms(2, "TEST: ['not'] ('hay' | ('stitch' | 'colour' | 'ground' | 'size' | 'skill' | 'spots' | 'week') "
                + "('<' | '>' | '=') NUMBER)");
        String[] asked = {"stitch", "colour", "ground", "size", "skill", "spots", "week"};
        for (String what : asked) {
            int length = what.length();
            good("rate if " + what + "<0:1;");
            good("rate if " + what + ">9999:1;");
            good("rate if not " + what + " = 12:1;");
            Due.badList("rate if " + what + ":1;", 1, 8 + length);
            Due.badList("rate if " + what + " 1:1;", 1, 9 + length);
            Due.badList("rate if " + what + "<=1:1;", 1, 9 + length);
            Due.badList("rate if " + what + "[1:1;", 1, 8 + length);
            Due.badList("rate if " + what + "<hay:1;", 1, 9 + length);
            Due.badList("rate if " + what + "<:1;", 1, 9 + length);
            Due.badList("rate if " + what + "<and hay:1;", 1, 9 + length);
            Due.badList("rate if " + what + "and hay:1;", 1, 8);
            Due.badList("rate if " + what + " and hay:1;", 1, 9 + length);
            Due.badList("rate if " + what + "<12345:1;", 1, 9 + length);
            Due.badList("rate if " + what + "x<1:1;", 1, 8);
            Due.badList(what + ":1;", 1, 0);
        }
        good("rate if not hay:1;");
        Due.badList("rate if not:1;", 1, 11);
        Due.badList("rate if not not hay:1;", 1, 12);
        Due.badList("rate if hay<1:1;", 1, 11);
        Due.badList("rate if hay not:1;", 1, 12);
    }

    /** Behind a line a blank does nothing, and no other byte can stand there alone. */
    private static void eachByteBehindALine() {
        Due.terms(2, "TEXT: {LINE}");
        for (int b = 0; b < 256; b++) {
            String text = "rate:1;" + (char) b;
            if (b == 10 || b == 32) {
                good(text);
            } else {
                Due.badList(text, 1, 7);
            }
            if (b != '<' && b != '>' && b != '=' && b != 10 && b != 32 && !(b >= 'a' && b <= 'z')) {
                Due.badList("rate if size" + (char) b + "1:1;", 1, 12);
            }
        }
    }

    private static void numbersHaveOneToFourDigits() {
        Due.terms(1, "NUMBERS, 1 to 4 digits");
        NeedleHomes x = new NeedleHomes();
        x.pattern(0, 0);
        x.hand(1, 1, 0);
        String[] numbers = {"0", "1", "12", "123", "1234", "9999", "0000", "0101"};
        int[] wanted = {0, 1, 12, 123, 1234, 9999, 0, 101};
        for (int i = 0; i < numbers.length; i++) {
            Due.goodList(x, "rate:" + numbers[i] + ";", 0, 0, i);
            Due.is("rate " + numbers[i], x.term(0, 0, 0, 0, 0, 0), wanted[i]);
        }
        Due.badList("rate:12345;", 1, 5);
        Due.badList("rate:00001;", 1, 5);
        Due.badList("rate: 10000 ;", 1, 6);
    }

    private static void faultOneIsAtTheFirstByteOfATokenOrAtTheEnd() {
        Due.terms(1, "FAULT 1 of each text is at the first byte or token with which no text goes on");
        Due.badList("rate:1; lates:1;", 1, 8);
        Due.badList("rate:1; late if fine:1;", 1, 16);
        Due.badList("rate:1 \n", 1, 8);
        Due.badList("\n !", 1, 2);
        Due.badList("rate!:1;", 1, 4);
        Due.badList("rate:1;".repeat(16) + " late:1; !", 1, 121);
        String longest = "rate if hay and hay and hay and hay:1;".repeat(10) + "late if week=100:100";
        Due.is("its length", longest.length(), 400);
        Due.badList(longest, 1, 400);
    }

    private static void aPartAboveAHundredIsFaultTwo() {
        Due.terms(2, "2 a NUMBER behind : of a LINE of part that is above 100");
        good("part:0;");
        good("part:100;");
        good("part:0100;");
        good("part if size>9999:100;");
        Due.badList("part:101;", 2, 5);
        Due.badList("part : 0101;", 2, 7);
        Due.badList("part if size>9999:9999;", 2, 18);
        good("rate:101;thread:101;fine:101;late:101;days:101;");
        good("rate:9999;thread:9999;fine:9999;late:9999;days:9999;");
    }

    private static void sixteenLinesAreTaken() {
        Due.terms(2, "3 one too many, at its first token: a 17th LINE");
        good("late:1;".repeat(16));
        Due.badList("late:1;".repeat(17), 3, 112);
        Due.badList("late:1;".repeat(16) + " \n part if hay:1;", 3, 115);
        Due.badList("late:1;".repeat(18), 3, 112);
        Due.badList("late:1;".repeat(57), 3, 112);
    }

    private static void fourTestsAreTaken() {
        Due.terms(2, "a 5th TEST of a LINE.");
        String four = "rate if hay and hay and hay and hay";
        good(four + ":1;");
        good((four + ":1;").repeat(10));
        Due.badList(four + " and hay:1;", 3, 40);
        Due.badList(four + " and not hay:1;", 3, 40);
        Due.badList(four + " and  size<1:1;", 3, 41);
        Due.badList(four + " and hay and hay:1;", 3, 40);
        Due.badList("late if hay:1;" + four + " and hay:1;", 3, 54);
    }

    private static void theFirstFaultByPlaceIsTold() {
        Due.terms(2, "Other FAULTS, if there is no FAULT 1, the first by place");
        String five = "rate if hay and hay and hay and hay and hay:1;";
        Due.badList("part:101;part:102;", 2, 5);
        Due.badList("part:101;" + five, 2, 5);
        Due.badList(five + "part:101;", 3, 40);
        Due.badList("part if hay and hay and hay and hay and hay:101;", 3, 40);
        Due.badList("late:1;".repeat(16) + "part:101;", 3, 112);
        Due.badList("late:1;".repeat(15) + "part:101;late:1;", 2, 110);
        Due.badList("late:1;".repeat(16) + five, 3, 112);
        Due.badList("late:1;".repeat(15) + five + "late:1;", 3, 145);
    }

    private static void faultOneGoesBeforeOthers() {
        Due.terms(2, "if there is no FAULT 1");
        Due.badList("part:101", 1, 8);
        Due.badList("part:101;!", 1, 9);
        Due.badList("late:1;".repeat(17) + "late", 1, 123);
        Due.badList("rate if hay and hay and hay and hay and rate:1;", 1, 40);
        Due.badList("rate if hay and hay and hay and hay and hay:1", 1, 45);
    }

    /** Nothing of a text before goes on into the next one: no LINE, no TEST. */
    private static void eachTextBeginsAnew() {
        Due.terms(2, "TEXT: {LINE}");
        String[] before = {"fine if hay and hay and hay and hay and hay:5;late:5;", "fine if hay:5;late:5;", "fine:5;late",
            "late:5;".repeat(17)};
        for (String text : before) {
            NeedleHomes x = new NeedleHomes();
            x.pattern(0, 0);
            x.hand(1, 1, 0);
            Due.list(x, text, 0, 0);
            Due.goodList(x, "fine:7;", 0, 0, x.count(1));
            Due.is("fine behind " + text, x.term(2, 0, 0, 0, 0, 0), 7);
            Due.is("late behind " + text, x.term(3, 0, 0, 0, 0, 0), 0);
        }
    }

    private static void theTapeIsTaken() {
        Due.promise(5, "The tape is taken (and is empty then)");
        String[] texts = {"rate:1;", "", "rate", "part:101;"};
        for (String text : texts) {
            NeedleHomes x = new NeedleHomes();
            Due.list(x, text, 0, 0);
            Due.is("one byte behind " + text, x.end(1), -1);
            Due.is("none behind " + text, x.end(0), 0);
            Due.is("the empty tape behind " + text, x.list(0, 0), x.count(1) - 1);
        }
        Due.promise(5, "-2: there are 10, another DEALER, WEEK");
        int[][] others = {{3, 0}, {-1, 0}, {0, 143}, {0, -1}};
        for (int[] other : others) {
            NeedleHomes x = new NeedleHomes();
            Due.is("list", Due.list(x, "rate:1;", other[0], other[1]), -2);
            Due.is("one byte behind it", x.end(1), -1);
        }
    }

    private static void listsAreNumberedFromNull() {
        Due.promise(5, "as a LIST: its number");
        NeedleHomes x = new NeedleHomes();
        for (int i = 0; i < 10; i++) {
            Due.goodList(x, "rate:" + i + ";", i % 3, i, i);
            if (i < 9) {
                Due.badListIn(x, "rate", 1, 4);
            }
            Due.is("count(1)", x.count(1), i + 1);
            Due.is("it is known", x.lists(i % 3, 142, 0), i);
        }
    }

    private static void aFaultIsNone() {
        Due.promise(5, "NONE: a FAULT");
        String[] texts = {"!", "part:101;", "late:1;".repeat(17)};
        for (int i = 0; i < texts.length; i++) {
            NeedleHomes x = new NeedleHomes();
            Due.is("list " + texts[i], Due.list(x, texts[i], 0, 0), -1);
            Due.is("fault of " + texts[i], x.fault(0), i + 1);
            Due.is("count(1)", x.count(1), 0);
            Due.is("lists(0, 0, 0)", x.lists(0, 0, 0), -1);
        }
        Full.refuses("a faulty list", -1, x -> {
            x.end(0);
            int answer = Due.list(x, "part:101;", 0, 0);
            Due.is("its fault", x.fault(0), 2);
            Due.pattern(x, Full.FAULTY, 0, 0);
            Due.feed(x, 0, Full.TAPE);
            return answer;
        });
    }

    private static NeedleHomes ten() {
        NeedleHomes x = new NeedleHomes();
        for (int i = 0; i < 10; i++) {
            Due.is("list " + i, x.list(0, i), i);
        }
        return x;
    }

    private static void anEleventhIsRefused() {
        Due.promise(5, "-2: there are 10");
        Due.terms(2, "A LIST is a text, at most 10 in all");
        String[] texts = {"", "rate:5;", "rate", "part:101;"};
        for (String text : texts) {
            for (int dealer = 0; dealer < 3; dealer++) {
                NeedleHomes x = ten();
                Due.is("an eleventh", Due.list(x, text, dealer, 0), -2);
                Due.is("count(1)", x.count(1), 10);
                Due.is("lists(0, 0, 0)", x.lists(0, 0, 0), 0);
                Due.is("lists(0, 142, 0)", x.lists(0, 142, 0), 9);
                Due.is("lists(1, 142, 0)", x.lists(1, 142, 0), -1);
                Due.is("the tape is taken", x.end(1), -1);
            }
        }
    }

    private static void anotherDealerIsRefused() {
        Due.promise(5, "another DEALER");
        Due.terms(2, "DEALERS are 0 .. 2");
        for (int dealer = 0; dealer <= 2; dealer++) {
            NeedleHomes x = new NeedleHomes();
            Due.is("dealer " + dealer, x.list(dealer, 0), 0);
            for (int other = 0; other <= 2; other++) {
                Due.is("known of " + other, x.lists(other, 0, 0), other == dealer ? 0 : -1);
            }
        }
        int[] others = {-1, 3, 4, Integer.MIN_VALUE, Integer.MAX_VALUE};
        for (int dealer : others) {
            NeedleHomes x = new NeedleHomes();
            Due.is("dealer " + dealer, Due.list(x, "rate:1;", dealer, 0), -2);
            Due.is("count(1)", x.count(1), 0);
        }
    }

    private static void anotherWeekIsRefused() {
        Due.promise(5, "another DEALER, WEEK");
        Due.terms(2, "from a WEEK on (0 .. 142)");
        int[] taken = {0, 1, 141, 142};
        for (int week : taken) {
            NeedleHomes x = new NeedleHomes();
            Due.is("week " + week, x.list(0, week), 0);
            Due.is("known in it", x.lists(0, week, 0), 0);
            Due.is("known ahead of it", x.lists(0, week - 1, 0), week == 0 ? -2 : -1);
        }
        int[] others = {-1, 143, 144, Integer.MIN_VALUE, Integer.MAX_VALUE};
        for (int week : others) {
            NeedleHomes x = new NeedleHomes();
            Due.is("week " + week, Due.list(x, "rate:1;", 0, week), -2);
            Due.is("count(1)", x.count(1), 0);
        }
    }

    private static void noTextIsReadWhenRefused() {
        Due.promise(5, "(no text is read then, FAULT 0)");
        int[][] others = {{3, 0}, {-1, 0}, {0, 143}, {0, -1}};
        for (int[] other : others) {
            NeedleHomes x = new NeedleHomes();
            Due.badListIn(x, "!", 1, 0);
            Due.is("a faulty text", Due.list(x, " !", other[0], other[1]), -2);
            Due.is("fault(0)", x.fault(0), 0);
            Due.is("fault(1)", x.fault(1), -1);
        }
        for (int[] other : others) {
            Full.refuses("list(" + other[0] + ", " + other[1] + ")", -2, x -> {
                int answer = x.list(other[0], other[1]);
                Due.pattern(x, Full.FAULTY, 0, 0);
                Due.feed(x, 0, Full.TAPE);
                return answer;
            });
        }
        NeedleHomes x = ten();
        Due.badPatternIn(x, "!", 1, 0);
        Due.is("an eleventh", Due.list(x, "!", 0, 0), -2);
        Due.is("fault(0)", x.fault(0), 0);
        Due.is("fault(1)", x.fault(1), -1);
    }

    private static void daysGoOn() {
        Due.promise(9, "The DAY of now: true; false: it is earlier than it was");
        NeedleHomes x = new NeedleHomes();
        Due.yes("day(0) on day 0", x.day(0));
        Due.no("day(-1)", x.day(-1));
        Due.yes("day(1)", x.day(1));
        Due.no("day(0) on day 1", x.day(0));
        Due.is("count(4)", x.count(4), 1);
        Due.yes("day(1) on day 1", x.day(1));
        Due.yes("day(500)", x.day(500));
        Due.no("day(499)", x.day(499));
        Due.is("count(4)", x.count(4), 500);
        Full.refuses("day(14)", y -> y.day(Full.DAY - 1));
        Full.refuses("day(0)", y -> y.day(0));
        Full.refuses("day(-1)", y -> y.day(-1));
        Full.refuses("day(min)", y -> y.day(Integer.MIN_VALUE));
    }

    private static void daysEndAtTheLast() {
        Due.promise(9, "or above 999.");
        Due.terms(2, "DAYS go from 0 on, to 999");
        NeedleHomes x = new NeedleHomes();
        Due.no("day(1000)", x.day(1000));
        Due.is("count(4)", x.count(4), 0);
        Due.yes("day(999)", x.day(999));
        Due.is("count(4)", x.count(4), 999);
        Due.no("day(1000) on day 999", x.day(1000));
        Due.no("day(998) on day 999", x.day(998));
        Due.yes("day(999) on day 999", x.day(999));
        Due.is("count(4)", x.count(4), 999);
        Full.refuses("day(1000)", y -> y.day(1000));
        Full.refuses("day(max)", y -> y.day(Integer.MAX_VALUE));
    }

    private static void aWeekHasSevenDays() {
        Due.terms(2, "a WEEK has 7");
        NeedleHomes x = new NeedleHomes();
        int[] days = {0, 6, 7, 13, 14, 20, 21, 986, 987, 993, 994, 999};
        int[] weeks = {0, 0, 1, 1, 2, 2, 3, 140, 141, 141, 142, 142};
        for (int i = 0; i < days.length; i++) {
            Due.yes("day(" + days[i] + ")", x.day(days[i]));
            Due.is("its week", x.count(5), weeks[i]);
        }
    }

    private static void known(NeedleHomes x, int week, int k, int want) {
        Due.is("lists(0, " + week + ", " + k + ")", x.lists(0, week, k), want);
    }

    private static void listsAreToldByTheirDay() {
        Due.promise(10, "The number of the LIST of a DEALER in a WEEK, AS KNOWN on a DAY (0 up to now)");
        Due.terms(2, "of those told by that DAY");
        NeedleHomes x = new NeedleHomes();
        x.day(5);
        x.list(0, 0);
        known(x, 0, 4, -1);
        known(x, 0, 5, 0);
        x.day(6);
        known(x, 0, 4, -1);
        known(x, 0, 5, 0);
        known(x, 0, 6, 0);
        x.day(999);
        x.list(0, 3);
        known(x, 3, 998, 0);
        known(x, 3, 999, 1);
        known(x, 3, 0, -1);
    }

    private static void listsAreFromTheirWeekOn() {
        Due.terms(2, "from that WEEK or earlier");
        NeedleHomes x = new NeedleHomes();
        x.list(0, 70);
        known(x, 69, 0, -1);
        known(x, 70, 0, 0);
        known(x, 71, 0, 0);
        known(x, 142, 0, 0);
        known(x, 0, 0, -1);
    }

    private static void theLatestWeekGoesFirst() {
        Due.terms(2, "that from the latest WEEK");
        NeedleHomes x = new NeedleHomes();
        x.list(0, 8);
        x.list(0, 4);
        x.day(1);
        x.list(0, 6);
        x.list(1, 9);
        known(x, 3, 1, -1);
        known(x, 4, 1, 1);
        known(x, 5, 1, 1);
        known(x, 6, 1, 2);
        known(x, 6, 0, 1);
        known(x, 7, 1, 2);
        known(x, 8, 1, 0);
        known(x, 9, 1, 0);
    }

    private static void ofSeveralTheOneToldLast() {
        Due.terms(2, "of several the one told last.");
        NeedleHomes x = new NeedleHomes();
        x.list(0, 4);
        x.list(0, 4);
        x.list(1, 4);
        known(x, 4, 0, 1);
        x.day(3);
        x.list(0, 4);
        x.list(0, 3);
        known(x, 4, 2, 1);
        known(x, 4, 3, 3);
        x.list(0, 4);
        known(x, 4, 3, 5);
        known(x, 142, 3, 5);
        known(x, 3, 3, 4);
    }

    private static void noListIsNone() {
        Due.promise(10, "NONE: none");
        NeedleHomes x = new NeedleHomes();
        known(x, 0, 0, -1);
        known(x, 142, 0, -1);
        x.list(1, 0);
        known(x, 142, 0, -1);
        Due.is("lists(2, 142, 0)", x.lists(2, 142, 0), -1);
        Due.is("lists(1, 0, 0)", x.lists(1, 0, 0), 0);
    }

    private static void listsOfNoneAreRefused() {
        Due.promise(10, "-2: there is none such (of any).");
        int[][] others = {{-1, 0, 0}, {3, 0, 0}, {0, -1, 0}, {0, 143, 0}, {0, 0, -1}, {0, 0, Full.DAY + 1},
            {Integer.MIN_VALUE, 0, 0}, {Integer.MAX_VALUE, 0, 0}, {0, Integer.MIN_VALUE, 0}, {0, Integer.MAX_VALUE, 0},
            {0, 0, Integer.MIN_VALUE}, {0, 0, Integer.MAX_VALUE}, {0, 0, 1000}};
        for (int[] o : others) {
            Full.refuses("lists(" + o[0] + ", " + o[1] + ", " + o[2] + ")", -2, x -> x.lists(o[0], o[1], o[2]));
        }
        Full.refuses("lists(0, 142, 15)", 0, x -> x.lists(0, 142, Full.DAY));
        Full.refuses("lists(2, 0, 0)", -1, x -> x.lists(2, 0, 0));
    }
}
