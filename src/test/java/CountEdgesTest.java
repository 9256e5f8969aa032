/** Promise 33, sentence by sentence: what is counted, from none to as many as there can be. */
public final class CountEdgesTest {
    public static void main(String[] args) {
        countsOfNothing();
        countsOfAsManyAsThereCanBe();
        refusedCallsAreNotCounted();
        piecesOutAndIn();
        debtsAndNetTogether();
        netOfOneHandAlone();
        anotherWhatIsNone();
        Due.end();
    }

    private static void counts(NeedleHomes x, int... wanted) {
        for (int what = 0; what < wanted.length; what++) {
            Due.is("count(" + what + ")", x.count(what), wanted[what]);
        }
    }

    private static void countsOfNothing() {
        Due.promise(33, "How many: 0 PATTERNS, 1 LISTS, 2 HANDS, 3 PIECES, 4 the DAY, 5 the WEEK");
        counts(new NeedleHomes(), 0, 0, 0, 0, 0, 0, 0, 0, 0, 0, -1);
    }

    private static NeedleHomes most() {
        NeedleHomes x = new NeedleHomes();
        for (int i = 0; i < 8; i++) {
            x.pattern(0, 0);
        }
        for (int i = 0; i < 10; i++) {
            x.list(0, 0);
        }
        for (int i = 0; i < 12; i++) {
            x.hand(1, 1, 0);
            x.advance(i, i + 1);
        }
        x.day(999);
        for (int i = 0; i < 60; i++) {
            x.out(0, 0, 0);
            x.write(0, i, 0, 1);
            x.write(1, i, 0, 2);
        }
        return x;
    }

    private static void countsOfAsManyAsThereCanBe() {
        Due.promise(33, "6 PIECES that are OUT and not IN, 7 PIECES of which the BOOKS DIFFER, 8 all DEBTS together");
        counts(most(), 8, 10, 12, 60, 999, 142, 60, 60, 78, 0, -1);
    }

    private static void refusedCallsAreNotCounted() {
        Due.promise(33, "How many");
        NeedleHomes x = most();
        x.pattern(0, 0);
        x.list(0, 0);
        x.hand(1, 1, 0);
        x.out(0, 0, 0);
        x.day(1000);
        x.advance(12, 5);
        x.advance(0, 0);
        x.in(60, 0, 0);
        counts(x, 8, 10, 12, 60, 999, 142, 60, 60, 78, 0, -1);
    }

    private static void piecesOutAndIn() {
        Due.promise(33, "6 PIECES that are OUT and not IN");
        NeedleHomes x = most();
        for (int i = 0; i < 60; i++) {
            x.in(i, 0, 0);
            Due.is("with " + (i + 1) + " in", x.count(6), 59 - i);
        }
        Due.is("count(3)", x.count(3), 60);
    }

    private static void debtsAndNetTogether() {
        Due.promise(33, "8 all DEBTS together, 9 all NET");
        NeedleHomes x = new NeedleHomes();
        Due.goodPattern(x, "a1000", 0, 0, 0);
        for (int hand = 0; hand < 12; hand++) {
            x.hand(1, 1, 0);
            x.advance(hand, 100000);
            Due.is("debts of " + (hand + 1), x.count(8), 100000 * (hand + 1));
        }
        for (int hand = 0; hand < 12; hand++) {
            x.out(0, 0, hand);
            x.in(hand, 0, 0);
            Due.is("debts with " + (hand + 1) + " in", x.count(8), 1200000 - 50 * (hand + 1));
            Due.is("net with " + (hand + 1) + " in", x.count(9), 50 * (hand + 1));
        }
    }

    /** One piece alone, of each of twelve hands. */
    private static void netOfOneHandAlone() {
        Due.promise(33, "9 all NET");
        for (int hand = 0; hand < 12; hand++) {
            NeedleHomes x = new NeedleHomes();
            Due.goodPattern(x, "a1000", 0, 0, 0);
            for (int i = 0; i < 12; i++) {
                x.hand(1, 1, 0);
            }
            x.advance(hand, 30);
            Due.is("debt of " + hand, x.count(8), 30);
            x.out(0, 0, hand);
            x.in(0, 0, 0);
            Due.is("net of " + hand, x.count(9), 70);
            Due.is("debt of " + hand + " paid off", x.count(8), 0);
        }
    }

    private static void anotherWhatIsNone() {
        Due.promise(33, "NONE for another what.");
        int[] others = {-1, -2, 10, 11, Integer.MIN_VALUE, Integer.MAX_VALUE};
        for (int what : others) {
            Full.refuses("count(" + what + ")", -1, x -> x.count(what));
            Due.is("count(" + what + ")", most().count(what), -1);
        }
    }
}
