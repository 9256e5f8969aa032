/** Promises 31 and 32 and what the fourth paragraph of terms says of even pay, sentence by sentence. */
public final class EvenEdgesTest {
    private static final int MIN = Integer.MIN_VALUE;
    private static final int MAX = Integer.MAX_VALUE;

    public static void main(String[] args) {
        timesAreThreeHundredAndSixtyAtFirst();
        timesHaveBounds();
        timeOfNoneIsRefused();
        ratesAreThoseOfNow();
        ratesAreOfThePlainCase();
        ratesAreOfADealer();
        paidIsCut();
        theLeastPayIsOne();
        theGreatestPay();
        theGapHasBounds();
        theGapCounts();
        newRatesAreAsNearAsCanBe();
        theLeastIsChangedTogether();
        oneDearStitchDrawsAllOthers();
        ofSeveralTheLeastPay();
        noPayIsPossible();
        evenHasEightWhats();
        evenOfNoneIsNone();
        Due.end();
    }

    /** Wanted are w, the change and new rates of the first stitches. */
    private static void even(NeedleHomes x, int dealer, int g, int... wanted) {
        for (int what = 0; what < wanted.length; what++) {
            Due.is("even(" + dealer + ", " + g + ", " + what + ")", x.even(dealer, g, what), wanted[what]);
        }
    }

    private static NeedleHomes listed(String list) {
        NeedleHomes x = new NeedleHomes();
        Due.goodList(x, list, 0, 0, 0);
        return x;
    }

    private static NeedleHomes timed(String list, int seconds) {
        NeedleHomes x = listed(list);
        for (int stitch = 0; stitch < 6; stitch++) {
            Due.yes("time(" + stitch + ", " + seconds + ")", x.time(stitch, seconds));
        }
        return x;
    }

    private static void timesAreThreeHundredAndSixtyAtFirst() {
        Due.terms(4, "TIMES of STITCHES are told (seconds for 100, 1 .. 9999; 360 at first)");
        NeedleHomes x = new NeedleHomes();
        even(x, 0, 0, 100, 0, 10, 10, 10, 10, 10, 10);
        for (int stitch = 0; stitch < 6; stitch++) {
            NeedleHomes y = new NeedleHomes();
            y.time(stitch, 720);
            even(y, 0, 0, 100, 10);
            for (int other = 0; other < 6; other++) {
                Due.is("rate of " + other, y.even(0, 0, 2 + other), other == stitch ? 20 : 10);
            }
            Due.yes("told anew", y.time(stitch, 360));
            even(y, 0, 0, 100, 0);
        }
    }

    private static void timesHaveBounds() {
        Due.promise(31, "TIME of a STITCH: true; false: there is none such, or another one.");
        for (int stitch = 0; stitch < 6; stitch++) {
            NeedleHomes x = new NeedleHomes();
            Due.yes("time(" + stitch + ", 1)", x.time(stitch, 1));
            even(x, 0, 99, -1);
            Due.yes("time(" + stitch + ", 2)", x.time(stitch, 2));
            even(x, 0, 0, 1800, 9 + 5 * 170);
            Due.yes("time(" + stitch + ", 9998)", x.time(stitch, 9998));
            Due.yes("time(" + stitch + ", 9999)", x.time(stitch, 9999));
            even(x, 0, 0, 10, 5 * 9 + 18);
            Due.is("its rate", x.even(0, 0, 2 + stitch), 28);
            int[] others = {0, -1, 10000, 10001, MIN, MAX};
            for (int seconds : others) {
                Due.no("time(" + stitch + ", " + seconds + ")", x.time(stitch, seconds));
            }
            even(x, 0, 0, 10, 5 * 9 + 18);
        }
    }

    private static void timeOfNoneIsRefused() {
        Due.promise(31, "false: there is none such, or another one.");
        int[][] others = {{-1, 9}, {6, 9}, {MIN, 9}, {MAX, 9}, {0, 0}, {0, -1}, {0, 10000}, {5, MIN}, {5, MAX}};
        for (int[] o : others) {
            Full.refuses("time(" + o[0] + ", " + o[1] + ")", x -> x.time(o[0], o[1]));
        }
    }

    private static void ratesAreThoseOfNow() {
        Due.terms(4, "by the LIST of a DEALER in the WEEK of now, as known now");
        NeedleHomes x = listed("rate if week=0:11;rate:12;");
        Due.goodList(x, "rate:13;", 0, 2, 1);
        even(x, 0, 0, 110, 0, 11);
        x.day(6);
        even(x, 0, 0, 110, 0, 11);
        x.day(7);
        even(x, 0, 0, 120, 0, 12);
        x.day(14);
        even(x, 0, 0, 130, 0, 13);
        Due.goodList(x, "rate:14;", 0, 1, 2);
        even(x, 0, 0, 130, 0, 13);
        Due.goodList(x, "rate:15;", 0, 2, 3);
        even(x, 0, 0, 150, 0, 15);
        Due.goodList(x, "", 0, 2, 4);
        even(x, 0, 0, 100, 0, 10);
    }

    private static void ratesAreOfThePlainCase() {
        Due.terms(4, "RATES: rate TERM of each STITCH");
        for (int stitch = 0; stitch < 6; stitch++) {
            NeedleHomes x = listed("rate if stitch=" + stitch + ":20;");
            even(x, 0, 0, 100, 10, 10, 10, 10, 10, 10, 10);
            even(x, 0, 99, 91, 1);
            Due.is("its rate", x.even(0, 99, 2 + stitch), 19);
        }
        Due.terms(4, "for COLOUR 0, GROUND 0, size 0, skill 100, no spots, no HAY");
        String[] plain = {"colour=0", "ground=0", "size=0", "skill=100", "spots=0", "not hay"};
        for (String test : plain) {
            even(listed("rate if " + test + ":30;"), 0, 0, 300, 0);
        }
        String[] not = {"colour>0", "ground>0", "size>0", "skill<100", "skill>100", "spots>0", "hay", "stitch>5"};
        for (String test : not) {
            NeedleHomes x = listed("rate if " + test + ":30;");
            Due.pattern(x, "a1000", 3, 0);
            x.hand(7, 1, 0);
            x.hay(0, 0, true);
            x.out(0, 0, 0);
            x.in(0, 5, 0);
            even(x, 0, 0, 100, 0);
        }
    }

    private static void ratesAreOfADealer() {
        Due.promise(32, "EVEN pay within g for a DEALER");
        NeedleHomes x = listed("rate:20;");
        Due.goodList(x, "rate:30;", 2, 0, 1);
        even(x, 0, 0, 200, 0, 20);
        even(x, 1, 0, 100, 0, 10);
        even(x, 2, 0, 300, 0, 30);
    }

    /** 7 seconds: rates 1 and 2 pay 514 and 1028; 11 seconds: 1 to 3 pay 327, 654, 981. */
    private static void paidIsCut() {
        Due.terms(4, "Rate r pays r * 3600 / TIME, cut, an hour");
        even(timed("rate:1;", 7), 0, 0, 514, 0, 1);
        even(timed("rate:2;", 7), 0, 0, 1028, 0, 2);
        even(timed("rate:3;", 11), 0, 0, 981, 0, 3);
        even(timed("rate:10;", 9999), 0, 0, 3, 0, 10);
        even(timed("rate:9999;", 9999), 0, 0, 2000, 6 * 4442, 5557);
        even(timed("rate:3;", 3601), 0, 0, 2, 0, 3);
        even(timed("rate:3;", 3600), 0, 0, 3, 0, 3);
        even(timed("rate:3;", 3599), 0, 0, 3, 0, 3);
    }

    private static void theLeastPayIsOne() {
        Due.terms(4, "For a pay w, 1 .. 2000");
        even(timed("rate:0;", 3600), 0, 0, 1, 6, 1, 1, 1, 1, 1, 1);
        even(timed("rate:1;", 3600), 0, 0, 1, 0, 1, 1, 1, 1, 1, 1);
        even(timed("rate:2;", 3600), 0, 0, 2, 0, 2);
        even(timed("rate:2;", 3600), 0, 1, 1, 0, 2);
        even(timed("rate:2;", 3600), 0, 99, 1, 0, 2);
        even(timed("rate:0;", 360), 0, 99, 1, 6, 1);
        even(timed("rate:1;", 9999), 0, 0, 1, 6 * 2, 3);
    }

    private static void theGreatestPay() {
        Due.terms(4, "1 .. 2000, each STITCH has a new rate, 0 .. 9999, that pays w .. w + g");
        even(listed("rate:199;"), 0, 0, 1990, 0, 199);
        even(listed("rate:200;"), 0, 0, 2000, 0, 200);
        even(listed("rate:201;"), 0, 0, 2000, 6, 200);
        even(listed("rate:201;"), 0, 9, 1991, 6, 200);
        even(listed("rate:201;"), 0, 10, 2000, 0, 201);
        even(listed("rate:201;"), 0, 11, 1999, 0, 201);
        even(listed("rate:209;"), 0, 90, 2000, 0, 209);
        even(listed("rate:210;"), 0, 99, 1991, 6, 209);
        even(listed("rate:9999;"), 0, 99, 1991, 6 * 9790, 209);
        even(timed("rate:9999;", 9999), 0, 99, 2000, 6 * (9999 - 5832), 5832);
    }

    private static void theGapHasBounds() {
        Due.terms(4, "EVEN pay within g, 0 .. 99");
        NeedleHomes x = new NeedleHomes();
        even(x, 0, 0, 100, 0);
        even(x, 0, 1, 99, 0);
        even(x, 0, 98, 2, 0);
        even(x, 0, 99, 1, 0);
        int[] others = {-1, -2, 100, 101, MIN, MAX};
        for (int g : others) {
            for (int what = 0; what < 8; what++) {
                Due.is("even(0, " + g + ", " + what + ")", x.even(0, g, what), -1);
            }
        }
    }

    private static void theGapCounts() {
        Due.terms(4, "that pays w .. w + g");
        NeedleHomes x = new NeedleHomes();
        x.time(0, 720);
        even(x, 0, 49, 51, 1, 11, 10);
        even(x, 0, 50, 50, 0, 10, 10);
        even(x, 0, 51, 49, 0, 10, 10);
        NeedleHomes y = new NeedleHomes();
        y.time(5, 180);
        even(y, 0, 0, 100, 5, 10, 10, 10, 10, 10, 5);
        even(y, 0, 19, 81, 5, 10, 10, 10, 10, 10, 5);
        even(y, 0, 20, 100, 4, 10, 10, 10, 10, 10, 6);
        even(y, 0, 99, 81, 1, 10, 10, 10, 10, 10, 9);
    }

    private static void newRatesAreAsNearAsCanBe() {
        Due.terms(4, "as near as can be to its RATE (of two as near the lesser one)");
        NeedleHomes x = listed("rate if stitch=0:40;rate if stitch=1:5;rate:20;");
        even(x, 0, 0, 200, 20 + 15, 20, 20, 20);
        even(x, 0, 99, 101, 20 + 6, 20, 11, 20);
        even(listed("rate if stitch=0:0;rate:10;"), 0, 99, 1, 1, 1, 10, 10);
    }

    private static void theLeastIsChangedTogether() {
        Due.promise(32, "what 0: w, 1: how much is changed together, 2 + s: the new rate of STITCH s");
        Due.terms(4, "that w by which the least is changed together");
        even(listed("rate if stitch<2:30;rate:10;"), 0, 0, 100, 40, 10, 10, 10, 10, 10, 10);
        even(listed("rate if stitch<4:30;rate:10;"), 0, 0, 300, 40, 30, 30, 30, 30, 30, 30);
        even(listed("rate if stitch<4:30;rate:1;"), 0, 50, 250, 2 * 24, 30, 30, 30, 30, 25, 25);
        even(listed("rate if stitch=5:0;rate if stitch=4:50;rate:20;"), 0, 0, 200, 50, 20, 20, 20, 20, 20, 20);
    }

    /** 36 seconds: rate 17 pays 1700; the slow one with rate 5000 of 9999 seconds pays 1800. */
    private static void oneDearStitchDrawsAllOthers() {
        Due.terms(4, "that w by which the least is changed together");
        for (int dear = 0; dear < 6; dear++) {
            NeedleHomes x = timed("rate if stitch=" + dear + ":5000;rate:1;", 36);
            x.time(dear, 9999);
            even(x, 0, 0, 1800, 5 * 17);
            even(x, 0, 99, 1700, 5 * 16 + 1);
            Due.is("rate of the dear one", x.even(0, 99, 2 + dear), 4999);
            Due.is("rate of another", x.even(0, 99, 2 + (dear + 1) % 6), 17);
        }
    }

    private static void ofSeveralTheLeastPay() {
        Due.terms(4, "of several the least.");
        even(listed("rate if stitch<3:10;rate:5;"), 0, 0, 50, 15, 5, 5, 5, 5, 5, 5);
        even(listed("rate if stitch<3:10;rate:5;"), 0, 20, 50, 9, 7, 7, 7, 5, 5, 5);
        even(listed("rate:30;"), 0, 40, 260, 0, 30);
    }

    private static void noPayIsPossible() {
        Due.promise(32, "no w is possible");
        for (int stitch = 0; stitch < 6; stitch++) {
            NeedleHomes x = new NeedleHomes();
            x.time(stitch, 1);
            int[] gaps = {0, 50, 99};
            for (int g : gaps) {
                even(x, 0, g, -1, -1, -1, -1, -1, -1, -1, -1);
            }
        }
        NeedleHomes x = new NeedleHomes();
        x.time(0, 2);
        x.time(1, 3);
        even(x, 0, 99, -1, -1);
        NeedleHomes y = timed("rate:0;", 2);
        even(y, 0, 0, 1800, 6, 1);
        even(y, 0, 99, 1701, 6, 1);
    }

    private static void evenHasEightWhats() {
        Due.promise(32, "or for another what.");
        int[] others = {-1, -2, 8, 9, MIN, MAX};
        for (int what : others) {
            Full.refuses("even(1, 20, " + what + ")", -1, x -> x.even(1, 20, what));
            Due.is("even(0, 0, " + what + ")", new NeedleHomes().even(0, 0, what), -1);
        }
        Due.is("even(0, 0, 7)", new NeedleHomes().even(0, 0, 7), 10);
    }

    private static void evenOfNoneIsNone() {
        Due.promise(32, "NONE: there is none such (of any)");
        int[][] others = {{-1, 0}, {3, 0}, {MIN, 0}, {MAX, 0}, {0, -1}, {0, 100}, {0, MIN}, {0, MAX}};
        for (int[] o : others) {
            for (int what = 0; what < 8; what += 7) {
                int asked = what;
                Full.refuses("even(" + o[0] + ", " + o[1] + ", " + what + ")", -1, x -> x.even(o[0], o[1], asked));
            }
        }
    }
}
