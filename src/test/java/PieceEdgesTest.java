/** Promises 17 to 19 and what the third paragraph of terms says of pieces, sentence by sentence. */
public final class PieceEdgesTest {
    private static final int MIN = Integer.MIN_VALUE;
    private static final int MAX = Integer.MAX_VALUE;

    public static void main(String[] args) {
        piecesAreNumberedFromNull();
        aSixtyFirstIsRefused();
        outTakesAllThereAre();
        outOfNoneIsRefused();
        aPieceIsInOnce();
        spotsHaveBounds();
        backHasBounds();
        backIsByTheTermsOfItsDay();
        inOfNoneIsRefused();
        halfIsCut();
        noMoreThanTheDebtIsPaidOff();
        nothingPaidPaysNothingOff();
        netIsTheRest();
        netIsByTheTermsOfItsDay();
        allIsAsItWasThen();
        pieceTellsNine();
        pieceOfNoneIsRefused();
        Due.end();
    }

    private static NeedleHomes one(String pattern, String list) {
        NeedleHomes x = new NeedleHomes();
        Due.goodPattern(x, pattern, 0, 0, 0);
        x.hand(10, 1, 1);
        Due.goodList(x, list, 0, 0, 0);
        return x;
    }

    private static void tells(NeedleHomes x, int piece, int... wanted) {
        for (int what = 0; what < wanted.length; what++) {
            Due.is("piece(" + piece + ", " + what + ")", x.piece(piece, what), wanted[what]);
        }
    }

    private static void piecesAreNumberedFromNull() {
        Due.promise(17, "A PIECE is given OUT: its number");
        NeedleHomes x = one("a100", "");
        x.pattern(0, 0);
        x.hand(20, 2, 2);
        for (int i = 0; i < 60; i++) {
            x.day(i);
            Due.is("out " + i, x.out(i % 3, i % 2, i / 30), i);
        }
        for (int i = 0; i < 60; i += 7) {
            tells(x, i, i % 3, i % 2, i / 30, i, -1, 0, 0, 0, 0);
        }
        Due.is("count(3)", x.count(3), 60);
        Due.is("count(6)", x.count(6), 60);
    }

    private static NeedleHomes sixty() {
        NeedleHomes x = one("a100", "");
        for (int i = 0; i < 60; i++) {
            x.out(1, 0, 0);
        }
        return x;
    }

    private static void aSixtyFirstIsRefused() {
        Due.promise(17, "NONE: there are 60");
        Due.terms(3, "PIECES, at most 60, from 0 on");
        NeedleHomes x = sixty();
        x.day(4);
        Due.is("a sixty-first", x.out(2, 0, 0), -1);
        Due.is("count(3)", x.count(3), 60);
        Due.is("count(6)", x.count(6), 60);
        Due.is("piece(60, 0)", x.piece(60, 0), -2);
        tells(x, 59, 1, 0, 0, 0, -1, 0, 0, 0, 0);
        tells(x, 0, 1, 0, 0, 0, -1, 0, 0, 0, 0);
        Due.is("one comes in", x.in(59, 0, 0), 10);
        Due.is("a sixty-first all the same", x.out(2, 0, 0), -1);
        Due.is("in(60, 0, 0)", x.in(60, 0, 0), -1);
        Due.is("count(6)", x.count(6), 59);
    }

    private static void outTakesAllThereAre() {
        Due.terms(3, "are of a DEALER, a PATTERN and a HAND, given OUT on a DAY");
        NeedleHomes x = new NeedleHomes();
        for (int i = 0; i < 8; i++) {
            x.pattern(0, 0);
        }
        for (int i = 0; i < 12; i++) {
            x.hand(1, 1, 0);
        }
        Due.is("out(2, 7, 11)", x.out(2, 7, 11), 0);
        x.day(999);
        Due.is("out(0, 0, 0)", x.out(0, 0, 0), 1);
        tells(x, 0, 2, 7, 11, 0, -1);
        tells(x, 1, 0, 0, 0, 999, -1);
        Due.is("out(3, 7, 11)", x.out(3, 7, 11), -1);
        Due.is("out(2, 8, 11)", x.out(2, 8, 11), -1);
        Due.is("out(2, 7, 12)", x.out(2, 7, 12), -1);
        Due.is("count(3)", x.count(3), 2);
    }

    private static void outOfNoneIsRefused() {
        Due.promise(17, "or there is none such (of any).");
        int[][] others = {{-1, 0, 0}, {3, 0, 0}, {MIN, 0, 0}, {MAX, 0, 0}, {0, -1, 0}, {0, 3, 0}, {0, MIN, 0}, {0, MAX, 0},
            {0, 0, -1}, {0, 0, 3}, {0, 0, MIN}, {0, 0, MAX}};
        for (int[] o : others) {
            Full.refuses("out(" + o[0] + ", " + o[1] + ", " + o[2] + ")", -1, x -> x.out(o[0], o[1], o[2]));
        }
        NeedleHomes noHand = new NeedleHomes();
        noHand.pattern(0, 0);
        Due.is("out without hands", noHand.out(0, 0, 0), -1);
        NeedleHomes noPattern = new NeedleHomes();
        noPattern.hand(1, 1, 0);
        Due.is("out without patterns", noPattern.out(0, 0, 0), -1);
    }

    private static void aPieceIsInOnce() {
        Due.promise(18, "it is IN");
        Full.refuses("in(0, 0, 0) of one that is in", -1, x -> x.in(0, 0, 0));
        Full.refuses("in(2, 1, 2) of one that is in", -1, x -> x.in(2, 1, 2));
        NeedleHomes x = one("a1000", "");
        x.out(0, 0, 0);
        Due.is("in on the day it went out", x.in(0, 0, 0), 100);
        Due.is("in anew", x.in(0, 0, 0), -1);
        x.day(9);
        Due.is("in on another day", x.in(0, 1, 1), -1);
        tells(x, 0, 0, 0, 0, 0, 0, 0, 0, 0, 100);
        Due.is("tell(0, 4)", x.tell(0, 4), 100);
    }

    private static void spotsHaveBounds() {
        Due.promise(18, "or other numbers.");
        Due.terms(3, "Brought IN, with spots, 0 .. 99");
        int[] taken = {0, 1, 98, 99};
        for (int spots : taken) {
            NeedleHomes x = one("a9900", "fine:10;");
            x.out(0, 0, 0);
            Due.is("in with spots " + spots, x.in(0, spots, 0), 990 - 10 * spots);
            Due.is("they are told", x.piece(0, 5), spots);
        }
        int[] others = {-1, 100, 101, MIN, MAX};
        for (int spots : others) {
            Full.refuses("in(1, " + spots + ", 0)", -1, x -> x.in(1, spots, 0));
        }
    }

    private static void backHasBounds() {
        Due.terms(3, "and metres of thread that are BACK (not more than THREAD of its TERMS)");
        int[] taken = {0, 1, 49, 50};
        for (int back : taken) {
            NeedleHomes x = one("a1000", "");
            x.out(0, 0, 0);
            Due.is("in with back " + back, x.in(0, 0, back), 100);
            Due.is("it is told", x.piece(0, 6), back);
        }
        int[] others = {-1, 51, 52, MIN, MAX};
        for (int back : others) {
            NeedleHomes x = one("a1000", "");
            x.out(0, 0, 0);
            Due.is("in with back " + back, x.in(0, 0, back), -1);
            Due.is("it is not in", x.piece(0, 4), -1);
        }
        Due.is("thread of piece 1", Full.told().bill(1, 8, 0), 100);
        Full.refuses("in(1, 0, -1)", -1, x -> x.in(1, 0, -1));
        Full.refuses("in(1, 0, 101)", -1, x -> x.in(1, 0, 101));
        Full.refuses("in(1, 0, max)", -1, x -> x.in(1, 0, MAX));
        NeedleHomes none = one("a19", "");
        none.out(0, 0, 0);
        Due.is("thread of none", none.bill(0, 0, 0), 0);
        Due.is("back of none", none.in(0, 0, 1), -1);
        Due.is("nothing back", none.in(0, 0, 0), 1);
        NeedleHomes most = one("1000[a1000]", "thread:9999;");
        most.out(0, 0, 0);
        Due.is("one above the most", most.in(0, 0, 99990001), -1);
        Due.is("the most", most.in(0, 0, 99990000), 100000);
        Due.is("it is told", most.piece(0, 6), 99990000);
    }

    /** A list that came later counts for nothing, one of the day on which the piece went out does. */
    private static void backIsByTheTermsOfItsDay() {
        Due.terms(3, "Its TERMS are those of its BILL by the DAY on which it was given OUT.");
        NeedleHomes x = one("a1000", "thread:10;");
        x.out(0, 0, 0);
        x.out(0, 0, 0);
        Due.goodList(x, "thread:20;", 0, 0, 1);
        x.day(1);
        Due.goodList(x, "thread:30;", 0, 0, 2);
        Due.is("bill by day 1", x.bill(0, 1, 0), 300);
        Due.is("bill by day 0", x.bill(0, 0, 0), 200);
        Due.is("back 201", x.in(0, 0, 201), -1);
        Due.is("back 200", x.in(0, 0, 200), 100);
        NeedleHomes spotted = one("a1000", "thread if spots>0:1;thread:9;");
        spotted.out(0, 0, 0);
        Due.is("back 91", spotted.in(0, 5, 91), -1);
        Due.is("back 90 of one that is not in yet", spotted.in(0, 5, 90), 100);
    }

    private static void inOfNoneIsRefused() {
        Due.promise(18, "NONE: there is none such");
        int[] others = {-1, 3, 60, MIN, MAX};
        for (int piece : others) {
            Full.refuses("in(" + piece + ", 0, 0)", -1, x -> x.in(piece, 0, 0));
        }
        Due.is("in of a new object", new NeedleHomes().in(0, 0, 0), -1);
    }

    private static void paid(int paid, int debt, int paysOff) {
        NeedleHomes x = one("a" + paid, "rate:100;");
        if (debt > 0) {
            x.advance(0, debt);
        }
        x.out(0, 0, 0);
        String of = paid + " paid with a debt of " + debt;
        Due.is("net of " + of, x.in(0, 0, 0), paid - paysOff);
        tells(x, 0, 0, 0, 0, 0, 0, 0, 0, paysOff, paid - paysOff);
        Due.is("debt left of " + of, x.tell(0, 3), debt - paysOff);
        Due.is("net of the hand of " + of, x.tell(0, 4), paid - paysOff);
        Due.is("count(8) of " + of, x.count(8), debt - paysOff);
        Due.is("count(9) of " + of, x.count(9), paid - paysOff);
    }

    private static void halfIsCut() {
        Due.terms(3, "of it half, cut, pays off the DEBT");
        paid(100, 100000, 50);
        paid(101, 100000, 50);
        paid(99, 100000, 49);
        paid(3, 100000, 1);
        paid(2, 100000, 1);
        paid(1, 100000, 0);
    }

    private static void noMoreThanTheDebtIsPaidOff() {
        Due.terms(3, "as far as there is one");
        paid(100, 0, 0);
        paid(100, 1, 1);
        paid(100, 49, 49);
        paid(100, 50, 50);
        paid(100, 51, 50);
        paid(101, 51, 50);
    }

    private static void nothingPaidPaysNothingOff() {
        Due.terms(3, "what is EARNED less FINE and PART is PAID");
        paid(0, 10, 0);
        NeedleHomes fined = one("a100", "rate:100;fine:100;");
        fined.advance(0, 10);
        fined.out(0, 0, 0);
        Due.is("all is fined", fined.in(0, 1, 0), 0);
        Due.is("the debt stays", fined.tell(0, 3), 10);
        NeedleHomes carried = one("a100", "rate:100;part:100;");
        carried.advance(0, 10);
        carried.out(0, 0, 0);
        Due.is("all is the carrier's", carried.in(0, 0, 0), 0);
        Due.is("the debt stays", carried.tell(0, 3), 10);
        Due.is("carried(1)", carried.carried(1), 100);
    }

    private static void netIsTheRest() {
        Due.promise(18, "A PIECE is brought IN: NET");
        Due.terms(3, "the rest is NET, the HAND's");
        NeedleHomes x = one("a1000", "rate:30;fine:7;late:11;days:1;part:33;");
        x.hand(5, 5, 2);
        x.advance(0, 40);
        x.out(0, 0, 0);
        x.out(0, 0, 0);
        x.day(3);
        Due.is("in(0, 2, 0)", x.in(0, 2, 0), 300 - 36 - 87 - 40);
        Due.is("fine", x.bill(0, 3, 3), 14 + 22);
        Due.is("part", x.bill(0, 3, 4), 87);
        tells(x, 0, 0, 0, 0, 0, 3, 2, 0, 40, 137);
        Due.is("in(1, 0, 0)", x.in(1, 0, 0), 300 - 22 - 91);
        Due.is("tell(0, 4)", x.tell(0, 4), 137 + 187);
        Due.is("tell(1, 4)", x.tell(1, 4), 0);
        Due.is("carried(1)", x.carried(1), 87 + 91);
        Due.is("carried(2)", x.carried(2), 0);
    }

    /** A list that came behind the day on which it went out changes nothing of what is paid. */
    private static void netIsByTheTermsOfItsDay() {
        Due.terms(3, "Its TERMS are those of its BILL by the DAY on which it was given OUT.");
        NeedleHomes x = one("a1000", "rate:30;fine:7;late:11;days:2;part:10;");
        x.advance(0, 20);
        x.day(1);
        x.out(0, 0, 0);
        x.day(2);
        Due.goodList(x, "rate:90;fine:1;late:1;days:0;part:50;", 0, 0, 1);
        x.day(4);
        Due.is("in", x.in(0, 2, 0), 300 - 25 - 27 - 20);
        tells(x, 0, 0, 0, 0, 1, 4, 2, 0, 20, 228);
        Due.is("carried(1)", x.carried(1), 27);
        Due.is("tell(0, 4)", x.tell(0, 4), 228);
        Due.is("bill by day 4", x.bill(0, 4, 1), 900);
        Due.is("bill by day 1", x.bill(0, 1, 1), 300);
    }

    private static void allIsAsItWasThen() {
        Due.terms(3, "(all as it was then");
        NeedleHomes x = one("a1000", "rate if hay:50;rate:30;part:10;");
        x.advance(0, 20);
        x.out(0, 0, 0);
        Due.is("in", x.in(0, 0, 0), 250);
        x.hay(0, 0, true);
        Due.goodList(x, "rate:90;part:20;", 0, 0, 1);
        Due.is("bill(0, 0, 1)", x.bill(0, 0, 1), 900);
        tells(x, 0, 0, 0, 0, 0, 0, 0, 0, 20, 250);
        Due.is("tell(0, 3)", x.tell(0, 3), 0);
        Due.is("tell(0, 4)", x.tell(0, 4), 250);
        Due.is("carried(1)", x.carried(1), 30);
        Due.is("an advance behind it", x.advance(0, 7), 7);
        Due.is("piece(0, 7)", x.piece(0, 7), 20);
    }

    private static void pieceTellsNine() {
        Due.promise(19, "4: the DAY on which it was IN (NONE), 5: spots, 6: metres BACK, 7: what paid off the DEBT, "
                + "8: NET (5 .. 8: 0 till it is IN)");
        NeedleHomes x = one("a1000", "");
        x.advance(0, 5);
        x.day(3);
        x.out(2, 0, 0);
        tells(x, 0, 2, 0, 0, 3, -1, 0, 0, 0, 0);
        x.day(999);
        tells(x, 0, 2, 0, 0, 3, -1, 0, 0, 0, 0);
        x.in(0, 99, 50);
        tells(x, 0, 2, 0, 0, 3, 999, 99, 50, 5, 95);
    }

    private static void pieceOfNoneIsRefused() {
        Due.promise(19, "-2 if there is none such, or for another what.");
        int[][] others = {{-1, 0}, {3, 0}, {60, 0}, {MIN, 0}, {MAX, 0}, {0, -1}, {0, 9}, {0, MIN}, {0, MAX}, {1, 9}, {3, 9}};
        for (int[] o : others) {
            Full.refuses("piece(" + o[0] + ", " + o[1] + ")", -2, x -> x.piece(o[0], o[1]));
        }
        NeedleHomes x = sixty();
        Due.is("piece(59, 0)", x.piece(59, 0), 1);
        Due.is("piece(60, 0)", x.piece(60, 0), -2);
    }
}
