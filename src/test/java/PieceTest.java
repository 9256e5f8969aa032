/** Promises 17 to 19: pieces given out and brought in. */
public final class PieceTest {
    public static void main(String[] args) {
        goesOut();
        comesIn();
        paysOffTheDebt();
        keepsWhatWasThen();
        givesNoMoreThreadBack();
        Due.end();
    }

    private static NeedleHomes one(String pattern) {
        NeedleHomes x = new NeedleHomes();
        Due.goodPattern(x, pattern, 0, 0, 0);
        Due.goodPattern(x, "f100", 1, 0, 1);
        x.hand(50, 5, 1);
        x.hand(60, 6, 2);
        return x;
    }

    private static void tells(NeedleHomes x, int piece, int... wanted) {
        for (int what = 0; what < wanted.length; what++) {
            Due.is("piece(" + piece + ", " + what + ")", x.piece(piece, what), wanted[what]);
        }
    }

    private static void goesOut() {
        NeedleHomes x = one("a150");
        int[][] others = {{-1, 0, 0}, {3, 0, 0}, {0, -1, 0}, {0, 2, 0}, {0, 0, -1}, {0, 0, 2}};
        for (int[] o : others) {
            Due.is("out(" + o[0] + ", " + o[1] + ", " + o[2] + ")", x.out(o[0], o[1], o[2]), -1);
        }
        Due.is("count(3)", x.count(3), 0);
        Due.is("out(0, 0, 0)", x.out(0, 0, 0), 0);
        x.day(9);
        Due.is("out(2, 1, 1)", x.out(2, 1, 1), 1);
        tells(x, 0, 0, 0, 0, 0, -1, 0, 0, 0, 0, -2);
        tells(x, 1, 2, 1, 1, 9, -1, 0, 0, 0, 0, -2);
        Due.is("piece(0, -1)", x.piece(0, -1), -2);
        Due.is("piece(2, 0)", x.piece(2, 0), -2);
        Due.is("piece(-1, 0)", x.piece(-1, 0), -2);
        for (int i = 2; i < 60; i++) {
            Due.is("out " + i, x.out(1, 0, 0), i);
        }
        Due.is("a sixty-first", x.out(1, 0, 0), -1);
        Due.is("count(3)", x.count(3), 60);
        Due.is("count(6)", x.count(6), 60);
    }

    private static void comesIn() {
        NeedleHomes x = one("a1000");
        x.day(2);
        x.out(0, 0, 0);
        x.out(0, 0, 1);
        x.day(5);
        int[][] others = {{-1, 0, 0}, {2, 0, 0}, {0, -1, 0}, {0, 100, 0}, {0, 0, -1}, {0, 0, 51}};
        for (int[] o : others) {
            Due.is("in(" + o[0] + ", " + o[1] + ", " + o[2] + ")", x.in(o[0], o[1], o[2]), -1);
        }
        tells(x, 0, 0, 0, 0, 2, -1, 0, 0, 0, 0);
        Due.is("count(6)", x.count(6), 2);
        Due.is("in(0, 99, 50)", x.in(0, 99, 50), 100);
        tells(x, 0, 0, 0, 0, 2, 5, 99, 50, 0, 100);
        Due.is("count(6)", x.count(6), 1);
        Due.is("in anew", x.in(0, 1, 1), -1);
        x.day(8);
        Due.is("in(1, 0, 0)", x.in(1, 0, 0), 100);
        tells(x, 1, 0, 0, 1, 2, 8, 0, 0, 0, 100);
        tells(x, 0, 0, 0, 0, 2, 5, 99, 50, 0, 100);
        Due.is("count(6)", x.count(6), 0);
        Due.is("count(9)", x.count(9), 200);
    }

    private static void paysOffTheDebt() {
        NeedleHomes x = one("a1010");
        x.advance(0, 75);
        x.advance(1, 9);
        for (int i = 0; i < 3; i++) {
            x.out(0, 0, 0);
        }
        x.out(0, 0, 1);
        Due.is("half of it, cut", x.in(0, 0, 0), 51);
        tells(x, 0, 0, 0, 0, 0, 0, 0, 0, 50, 51);
        Due.is("tell(0, 3)", x.tell(0, 3), 25);
        Due.is("count(8)", x.count(8), 34);
        Due.is("what is left", x.in(1, 0, 0), 76);
        tells(x, 1, 0, 0, 0, 0, 0, 0, 0, 25, 76);
        Due.is("tell(0, 3)", x.tell(0, 3), 0);
        Due.is("none is left", x.in(2, 0, 0), 101);
        tells(x, 2, 0, 0, 0, 0, 0, 0, 0, 0, 101);
        Due.is("tell(0, 4)", x.tell(0, 4), 228);
        Due.is("tell(1, 3)", x.tell(1, 3), 9);
        Due.is("in(3, 0, 0)", x.in(3, 0, 0), 92);
        Due.is("count(8)", x.count(8), 0);
        Due.is("count(9)", x.count(9), 320);
        Due.is("an advance anew", x.advance(0, 3), 3);
    }

    /** What was paid stays, though a bill by the same day may be another one later. */
    private static void keepsWhatWasThen() {
        NeedleHomes x = one("a1000");
        x.out(0, 0, 0);
        Due.is("in", x.in(0, 0, 0), 100);
        Due.goodList(x, "rate:20;part:10;", 0, 0, 0);
        Due.is("bill(0, 0, 1)", x.bill(0, 0, 1), 200);
        Due.is("bill(0, 0, 4)", x.bill(0, 0, 4), 20);
        tells(x, 0, 0, 0, 0, 0, 0, 0, 0, 0, 100);
        Due.is("tell(0, 4)", x.tell(0, 4), 100);
        Due.is("carried(1)", x.carried(1), 0);
        x.out(0, 0, 0);
        Due.is("in", x.in(1, 0, 0), 180);
        Due.is("carried(1)", x.carried(1), 20);
    }

    /** Spots are on a piece only when it is in: thread that may come back is that without them. */
    private static void givesNoMoreThreadBack() {
        NeedleHomes x = one("a1000 b99 k1 b99");
        Due.goodList(x, "thread if spots>0:100;thread:10;", 0, 0, 0);
        x.out(0, 0, 0);
        Due.is("bill(0, 0, 0)", x.bill(0, 0, 0), 118);
        Due.is("in(0, 5, 119)", x.in(0, 5, 119), -1);
        Due.is("in(0, 5, 118)", x.in(0, 5, 118), 118);
        Due.is("bill(0, 0, 0)", x.bill(0, 0, 0), 1198);
        Due.goodPattern(x, "", 0, 0, 2);
        x.out(0, 2, 0);
        Due.is("in(1, 0, 1)", x.in(1, 0, 1), -1);
        Due.is("in(1, 0, 0)", x.in(1, 0, 0), 0);
    }
}
