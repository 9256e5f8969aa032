/** Promises 20 to 22 and what the third paragraph of terms says of bills, sentence by sentence. */
public final class BillEdgesTest {
    private static final int MIN = Integer.MIN_VALUE;
    private static final int MAX = Integer.MAX_VALUE;
    private static final int NOT_SUCH = -1000000000;

    public static void main(String[] args) {
        aBillIsByWhatIsKnown();
        theListIsOfTheWeekItWentOut();
        theListIsOfItsDealer();
        threadIsCutForEach();
        earnedIsCutForEach();
        dueIsItsDayAndDays();
        nothingIsFinedTillItIsIn();
        nothingIsFinedOfOneThatIsOutBesideOneThatIsIn();
        stitchAndColourAreNineOfTheOthers();
        lateIsBehindDueAlone();
        fineIsEarnedAtMost();
        theGreatestFine();
        partIsCut();
        spotsCountWhenItIsIn();
        billHasFiveWhats();
        billOfNoneIsNone();
        wrongedIsTheDifference();
        wrongedIsByItsTerms();
        wrongedAtItsGreatest();
        wrongedOfNoneIsRefused();
        carriedIsAllPart();
        carriedOfNoneIsNone();
        sumsGoRound();
        sumsOfAllGoRound();
        Due.end();
    }

    private static NeedleHomes one(String pattern) {
        NeedleHomes x = new NeedleHomes();
        Due.goodPattern(x, pattern, 0, 0, 0);
        x.hand(10, 1, 1);
        return x;
    }

    private static NeedleHomes one(String pattern, String list) {
        NeedleHomes x = one(pattern);
        Due.goodList(x, list, 0, 0, 0);
        return x;
    }

    /** Wanted are thread, earned, due, fine, part. */
    private static void bill(NeedleHomes x, int piece, int k, int... wanted) {
        for (int what = 0; what < wanted.length; what++) {
            Due.is("bill(" + piece + ", " + k + ", " + what + ")", x.bill(piece, k, what), wanted[what]);
        }
    }

    private static void aBillIsByWhatIsKnown() {
        Due.promise(20, "BILL of a PIECE by DAY k (0 up to now)");
        NeedleHomes x = one("a1000");
        x.day(2);
        x.out(0, 0, 0);
        x.day(4);
        Due.goodList(x, "rate:20;thread:20;days:20;", 0, 0, 0);
        x.day(5);
        Due.goodList(x, "rate:30;thread:30;days:30;", 0, 0, 1);
        bill(x, 0, 0, 50, 100, 9, 0, 0);
        bill(x, 0, 1, 50, 100, 9, 0, 0);
        bill(x, 0, 3, 50, 100, 9, 0, 0);
        bill(x, 0, 4, 200, 200, 22, 0, 0);
        bill(x, 0, 5, 300, 300, 32, 0, 0);
        Due.is("by a day to come", x.bill(0, 6, 0), -1);
        x.day(6);
        bill(x, 0, 6, 300, 300, 32, 0, 0);
    }

    private static void theListIsOfTheWeekItWentOut() {
        Due.terms(3, "in the WEEK in which it was given OUT, AS KNOWN on k");
        NeedleHomes x = one("a1000");
        Due.goodList(x, "rate:11;", 0, 0, 0);
        Due.goodList(x, "rate:12;", 0, 1, 1);
        Due.goodList(x, "rate:13;", 0, 2, 2);
        int[] days = {0, 6, 7, 13, 14};
        int[] earned = {110, 110, 120, 120, 130};
        for (int i = 0; i < days.length; i++) {
            x.day(days[i]);
            x.out(0, 0, 0);
        }
        x.day(50);
        for (int i = 0; i < days.length; i++) {
            Due.is("earned of day " + days[i], x.bill(i, 50, 1), earned[i]);
            Due.is("earned by day 0", x.bill(i, 0, 1), earned[i]);
        }
    }

    private static void theListIsOfItsDealer() {
        Due.terms(3, "BILL of a PIECE by a DAY k: by the LIST of its DEALER");
        NeedleHomes x = one("a1000");
        Due.goodList(x, "rate:11;", 0, 0, 0);
        Due.goodList(x, "rate:12;", 1, 0, 1);
        for (int dealer = 0; dealer < 3; dealer++) {
            x.out(dealer, 0, 0);
        }
        Due.is("of dealer 0", x.bill(0, 0, 1), 110);
        Due.is("of dealer 1", x.bill(1, 0, 1), 120);
        Due.is("of dealer 2", x.bill(2, 0, 1), 100);
    }

    private static void threadIsCutForEach() {
        Due.terms(3, "THREAD: of each STITCH and COLOUR COUNT * thread / 100, cut, together");
        int[][] rows = {{19, 0}, {20, 1}, {39, 1}, {40, 2}};
        for (int[] row : rows) {
            NeedleHomes x = one("a" + row[0]);
            x.out(0, 0, 0);
            Due.is("thread of " + row[0], x.bill(0, 0, 0), row[1]);
        }
        NeedleHomes x = one("a19b19c19d19e19f19k1a19k2a19k3f39");
        x.out(0, 0, 0);
        Due.is("each is cut", x.bill(0, 0, 0), 1);
        NeedleHomes y = one("a10k1a10k2a10k3a10", "thread if colour=3:99;thread:0;");
        y.out(0, 0, 0);
        Due.is("of one colour", y.bill(0, 0, 0), 9);
        NeedleHomes none = one("");
        none.out(0, 0, 0);
        bill(none, 0, 0, 0, 0, 7, 0, 0);
        NeedleHomes most = one("1000[a1000]", "thread:9999;rate:0;");
        most.out(0, 0, 0);
        bill(most, 0, 0, 99990000, 0, 7, 0, 0);
    }

    private static void earnedIsCutForEach() {
        Due.terms(3, "EARNED: of each COUNT * rate / 100, cut, together");
        int[][] rows = {{9, 0}, {10, 1}, {19, 1}, {20, 2}};
        for (int[] row : rows) {
            NeedleHomes x = one("f" + row[0]);
            x.out(0, 0, 0);
            Due.is("earned of " + row[0], x.bill(0, 0, 1), row[1]);
        }
        NeedleHomes x = one("a9b9c9d9e9f9k1a9k2a9k3f19");
        x.out(0, 0, 0);
        Due.is("each is cut", x.bill(0, 0, 1), 1);
        NeedleHomes y = one("a10b10c10d10e10f10", "rate if stitch=5:99;rate:0;");
        y.out(0, 0, 0);
        Due.is("of one stitch", y.bill(0, 0, 1), 9);
        NeedleHomes most = one("1000[f1000]", "thread:0;rate:9999;");
        most.out(0, 0, 0);
        bill(most, 0, 0, 0, 99990000, 7, 0, 0);
    }

    private static void dueIsItsDayAndDays() {
        Due.terms(3, "DUE: the DAY on which it was given OUT, and days");
        int[][] rows = {{0, 0, 0}, {0, 1, 1}, {5, 0, 5}, {999, 0, 999}, {999, 1, 1000}, {999, 9999, 10998}, {0, 9999, 9999}};
        for (int[] row : rows) {
            NeedleHomes x = one("a1", "days:" + row[1] + ";");
            x.day(row[0]);
            x.out(0, 0, 0);
            Due.is("due of day " + row[0] + " and " + row[1], x.bill(0, row[0], 2), row[2]);
        }
        NeedleHomes x = one("a1");
        x.day(999);
        x.out(0, 0, 0);
        Due.is("due without a list", x.bill(0, 999, 2), 1006);
    }

    private static void nothingIsFinedTillItIsIn() {
        Due.promise(20, "3: FINE, 4: PART (3, 4: 0 till it is IN)");
        NeedleHomes x = one("a1000", "fine:1;late:2;days:0;part:50;");
        x.out(0, 0, 0);
        x.day(20);
        bill(x, 0, 20, 50, 100, 0, 0, 0);
        x.in(0, 3, 0);
        bill(x, 0, 20, 50, 100, 0, 43, 28);
        x.day(90);
        bill(x, 0, 90, 50, 100, 0, 43, 28);
        bill(x, 0, 0, 50, 100, 0, 43, 28);
    }

    private static void nothingIsFinedOfOneThatIsOutBesideOneThatIsIn() {
        Due.promise(20, "(3, 4: 0 till it is IN)");
        NeedleHomes x = one("a1000", "fine:1;late:2;days:0;part:50;");
        x.out(0, 0, 0);
        x.out(0, 0, 0);
        x.day(20);
        x.in(0, 3, 0);
        for (int what = 4; what >= 3; what--) {
            Due.is("of the one that is in", x.bill(0, 20, what), what == 3 ? 43 : 28);
            Due.is("of the one that is out", x.bill(1, 20, what), 0);
        }
    }

    private static void stitchAndColourAreNineOfTheOthers() {
        Due.terms(2, "stitch, colour: those that it is asked for, of rate and thread; 9 of the others");
        NeedleHomes x = one("a1000k3f1000", "rate if stitch=9:99;thread if colour=9:99;rate if stitch=5 and colour=3:20;"
                + "thread if stitch=0 and colour=0:20;fine if stitch=9:1;fine:7;late if colour=9:2;late:7;"
                + "days if stitch=9 and colour=9:3;part if stitch=9 and colour=9:50;part:7;");
        x.out(0, 0, 0);
        x.day(5);
        x.in(0, 4, 0);
        bill(x, 0, 5, 250, 300, 3, 8, 146);
    }

    private static void lateIsBehindDueAlone() {
        Due.terms(3, "and late for each DAY behind DUE");
        int[][] rows = {{0, 0}, {3, 0}, {4, 0}, {5, 10}, {6, 20}, {14, 100}};
        for (int[] row : rows) {
            NeedleHomes x = one("a9999", "late:10;days:4;");
            x.out(0, 0, 0);
            x.day(row[0]);
            x.in(0, 0, 0);
            Due.is("fine of one in on day " + row[0], x.bill(0, row[0], 3), row[1]);
        }
        NeedleHomes never = one("a9999", "late:9999;days:9999;");
        never.out(0, 0, 0);
        never.day(999);
        never.in(0, 0, 0);
        Due.is("fine ahead of due", never.bill(0, 999, 3), 0);
    }

    private static void fineIsEarnedAtMost() {
        Due.terms(3, "EARNED at most");
        int[][] rows = {{98, 98}, {99, 99}, {100, 100}, {101, 100}, {9999, 100}, {0, 0}};
        for (int[] row : rows) {
            NeedleHomes x = one("a1000", "fine:" + row[0] + ";part:100;");
            x.out(0, 0, 0);
            Due.is("net", x.in(0, 1, 0), 0);
            bill(x, 0, 0, 50, 100, 7, row[1], 100 - row[1]);
            NeedleHomes late = one("a1000", "late:" + row[0] + ";days:0;");
            late.out(0, 0, 0);
            late.day(1);
            Due.is("net of one late", late.in(0, 0, 0), 100 - row[1]);
            bill(late, 0, 1, 50, 100, 0, row[1], 0);
        }
        NeedleHomes none = one("a9", "fine:1;part:100;");
        none.out(0, 0, 0);
        Due.is("net of nothing earned", none.in(0, 99, 0), 0);
        bill(none, 0, 0, 0, 0, 7, 0, 0);
    }

    private static void theGreatestFine() {
        Due.terms(3, "FINE: spots * fine, and late for each DAY behind DUE");
        NeedleHomes x = one("1000[a1000]", "rate:9999;fine:9999;late:9999;days:0;part:1;");
        x.out(0, 0, 0);
        x.day(999);
        Due.is("net", x.in(0, 99, 0), 99990000 - 10978902 - 890110);
        bill(x, 0, 999, 50000, 99990000, 0, 99 * 9999 + 999 * 9999, 890110);
    }

    private static void partIsCut() {
        Due.terms(3, "PART: (EARNED less FINE) * part / 100, cut");
        int[][] rows = {{0, 0}, {1, 0}, {2, 1}, {3, 2}, {33, 32}, {50, 49}, {51, 50}, {99, 98}, {100, 99}};
        for (int[] row : rows) {
            NeedleHomes x = one("a1000", "fine:1;part:" + row[0] + ";");
            x.out(0, 0, 0);
            Due.is("net with part " + row[0], x.in(0, 1, 0), 99 - row[1]);
            Due.is("part " + row[0] + " of 99", x.bill(0, 0, 4), row[1]);
            Due.is("carried(1)", x.carried(1), row[1]);
        }
        NeedleHomes most = one("1000[a1000]", "rate:9999;part:99;");
        most.out(0, 0, 0);
        Due.is("net of the most", most.in(0, 0, 0), 999900);
        Due.is("part of the most", most.bill(0, 0, 4), 98990100);
    }

    private static void spotsCountWhenItIsIn() {
        Due.terms(2, "spots: on the PIECE, 0 till it is IN");
        NeedleHomes x = one("a1000", "rate if spots=0:1;rate if spots=7:7;rate if spots>98:9;thread if spots=0:1;"
                + "thread:2;days if spots=0:3;days:4;");
        for (int i = 0; i < 3; i++) {
            x.out(0, 0, 0);
            bill(x, i, 0, 10, 10, 3, 0, 0);
        }
        Due.is("in with 0", x.in(0, 0, 10), 10);
        Due.is("in with 7", x.in(1, 7, 10), 70);
        Due.is("in with 99", x.in(2, 99, 10), 90);
        bill(x, 0, 0, 10, 10, 3, 0, 0);
        bill(x, 1, 0, 20, 70, 4, 0, 0);
        bill(x, 2, 0, 20, 90, 4, 0, 0);
    }

    private static void billHasFiveWhats() {
        Due.promise(20, "what 0: THREAD, 1: EARNED, 2: DUE, 3: FINE, 4: PART");
        NeedleHomes x = one("a2000", "rate:30;thread:40;fine:10;days:9;part:20;");
        x.out(0, 0, 0);
        x.in(0, 5, 0);
        bill(x, 0, 0, 800, 600, 9, 50, 110, -1);
        Due.is("bill(0, 0, -1)", x.bill(0, 0, -1), -1);
    }

    private static void billOfNoneIsNone() {
        Due.promise(20, "NONE: there is none such (of any).");
        int[][] others = {{-1, 0, 0}, {3, 0, 0}, {60, 0, 0}, {MIN, 0, 0}, {MAX, 0, 0}, {0, -1, 0}, {0, Full.DAY + 1, 0},
            {0, 1000, 0}, {0, MIN, 0}, {0, MAX, 0}, {0, 0, -1}, {0, 0, 5}, {0, 0, MIN}, {0, 0, MAX}, {3, 16, 5}};
        for (int[] o : others) {
            Full.refuses("bill(" + o[0] + ", " + o[1] + ", " + o[2] + ")", -1, x -> x.bill(o[0], o[1], o[2]));
        }
        Full.refuses("bill(2, 15, 4)", 24, x -> x.bill(2, Full.DAY, 4));
    }

    private static void wrongedIsTheDifference() {
        Due.promise(21, "WRONGED by DAY k (0 up to now)");
        Due.terms(3, "WRONGED by a DAY k: (EARNED less FINE and PART by BILL by k) less that by its TERMS.");
        NeedleHomes x = one("a1000");
        x.day(3);
        Due.goodList(x, "rate:20;fine:5;part:10;", 0, 0, 0);
        x.out(0, 0, 0);
        x.day(5);
        Due.goodList(x, "rate:50;fine:1;part:50;", 0, 0, 1);
        x.day(6);
        Due.goodList(x, "rate:1;", 0, 0, 2);
        x.in(0, 4, 0);
        Due.is("by day 0, without a list", x.wronged(0, 0), 100 - 162);
        Due.is("by day 2", x.wronged(0, 2), 100 - 162);
        Due.is("by day 3, its own", x.wronged(0, 3), 0);
        Due.is("by day 4", x.wronged(0, 4), 0);
        Due.is("by day 5", x.wronged(0, 5), 248 - 162);
        Due.is("by day 6, now", x.wronged(0, 6), 10 - 162);
        Due.is("by a day to come", x.wronged(0, 7), NOT_SUCH);
    }

    private static void wrongedIsByItsTerms() {
        Due.terms(3, "Its TERMS are those of its BILL by the DAY on which it was given OUT.");
        NeedleHomes x = one("a1000", "rate if hay:70;rate:20;");
        x.advance(0, 50);
        x.out(0, 0, 0);
        x.in(0, 0, 0);
        x.day(1);
        Due.goodList(x, "rate:30;", 0, 0, 1);
        Due.is("by day 1", x.wronged(0, 1), 100);
        Due.is("by day 0", x.wronged(0, 0), 0);
        x.hay(0, 0, true);
        Due.is("by day 1 with hay", x.wronged(0, 1), 300 - 700);
        Due.is("by day 0 with hay", x.wronged(0, 0), 0);
    }

    private static void wrongedAtItsGreatest() {
        Due.terms(3, "(EARNED less FINE and PART by BILL by k) less that by its TERMS.");
        NeedleHomes x = one("1000[a1000]", "rate:0;");
        x.out(0, 0, 0);
        x.in(0, 0, 0);
        x.day(1);
        Due.goodList(x, "rate:9999;", 0, 0, 1);
        Due.is("by day 1", x.wronged(0, 1), 99990000);
        x.out(0, 0, 0);
        x.in(1, 0, 0);
        Due.is("by day 0", x.wronged(1, 0), -99990000);
    }

    private static void wrongedOfNoneIsRefused() {
        Due.promise(21, "-1000000000: there is none such (of either), or it is not IN.");
        int[][] others = {{-1, 0}, {3, 0}, {60, 0}, {MIN, 0}, {MAX, 0}, {0, -1}, {0, Full.DAY + 1}, {0, 1000}, {0, MIN},
            {0, MAX}, {1, 0}, {1, Full.DAY}};
        for (int[] o : others) {
            Full.refuses("wronged(" + o[0] + ", " + o[1] + ")", NOT_SUCH, x -> x.wronged(o[0], o[1]));
        }
        NeedleHomes x = one("a1000");
        x.out(0, 0, 0);
        Due.is("of one that is out", x.wronged(0, 0), NOT_SUCH);
        x.in(0, 0, 0);
        Due.is("of one that is in", x.wronged(0, 0), 0);
    }

    private static void carriedIsAllPart() {
        Due.promise(22, "All PART of a CARRIER");
        Due.terms(3, "The CARRIER has PART");
        NeedleHomes x = new NeedleHomes();
        Due.goodPattern(x, "a1000", 0, 0, 0);
        Due.goodList(x, "part:15;", 0, 0, 0);
        int[] carriers = {0, 1, 2, 1};
        for (int carrier : carriers) {
            x.hand(1, 1, carrier);
        }
        int[][] wanted = {{15, 0, 0}, {15, 15, 0}, {15, 15, 15}, {15, 30, 15}, {30, 30, 15}};
        for (int i = 0; i < wanted.length; i++) {
            x.out(0, 0, i % 4);
            x.in(i, 0, 0);
            for (int carrier = 0; carrier < 3; carrier++) {
                Due.is("carried(" + carrier + ") with " + (i + 1), x.carried(carrier), wanted[i][carrier]);
            }
        }
        x.out(0, 0, 0);
        Due.is("carried(0) with one out", x.carried(0), 30);
    }

    private static void carriedOfNoneIsNone() {
        Due.promise(22, "NONE: there is none such.");
        int[] others = {-1, 3, 4, MIN, MAX};
        for (int carrier : others) {
            Full.refuses("carried(" + carrier + ")", -1, x -> x.carried(carrier));
        }
    }

    /** 22 times 99990000 is above the greatest whole number of 32 bits, 43 times it is round once. */
    private static void sumsGoRound() {
        Due.terms(3, "sums of coins are whole numbers of 32 bits that go round)");
        NeedleHomes x = one("1000[a1000]", "rate:9999;");
        Due.goodList(x, "rate:9999;part:100;", 1, 0, 1);
        for (int i = 1; i <= 60; i++) {
            boolean ofCarrier = i > 44;
            x.out(ofCarrier ? 1 : 0, 0, 0);
            Due.is("in " + i, x.in(i - 1, 0, 0), ofCarrier ? 0 : 99990000);
            if (i == 21) {
                Due.is("21 of the hand", x.tell(0, 4), 2099790000);
            } else if (i == 22) {
                Due.is("22 of the hand", x.tell(0, 4), -2095187296);
                Due.is("count(9)", x.count(9), -2095187296);
            } else if (i == 43) {
                Due.is("43 of the hand", x.tell(0, 4), 4602704);
                Due.is("count(9)", x.count(9), 4602704);
            }
        }
        Due.is("44 of the hand", x.tell(0, 4), 104592704);
        Due.is("16 of the carrier", x.carried(1), 16 * 99990000);
        NeedleHomes y = one("1000[a1000]", "rate:9999;part:100;");
        for (int i = 1; i <= 43; i++) {
            y.out(0, 0, 0);
            y.in(i - 1, 0, 0);
            if (i == 21) {
                Due.is("21 of the carrier", y.carried(1), 2099790000);
            } else if (i == 22) {
                Due.is("22 of the carrier", y.carried(1), -2095187296);
            }
        }
        Due.is("43 of the carrier", y.carried(1), 4602704);
        Due.is("none of the hand", y.tell(0, 4), 0);
    }

    private static void sumsOfAllGoRound() {
        Due.promise(33, "9 all NET");
        NeedleHomes x = one("1000[a1000]", "rate:9999;");
        x.hand(1, 1, 0);
        for (int i = 0; i < 22; i++) {
            x.out(0, 0, i % 2);
            x.in(i, 0, 0);
        }
        Due.is("11 of a hand", x.tell(0, 4), 1099890000);
        Due.is("11 of the other", x.tell(1, 4), 1099890000);
        Due.is("both", x.count(9), -2095187296);
    }
}
