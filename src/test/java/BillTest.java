/** Promises 20 to 22: bills by a day, who was wronged, and what carriers have. */
public final class BillTest {
    private static final int NOT_SUCH = -1000000000;

    public static void main(String[] args) {
        reckonsByADay();
        finesNoMoreThanIsEarned();
        finesOnlyBehindDue();
        cutsEachCount();
        testsThePiece();
        takesAListOfTheSameDay();
        takesTheWeekItWentOut();
        goesRound();
        refusesWhatIsNotThere();
        Due.end();
    }

    private static NeedleHomes one(String pattern) {
        NeedleHomes x = new NeedleHomes();
        Due.goodPattern(x, pattern, 3, 0, 0);
        x.hand(50, 5, 1);
        return x;
    }

    /** Wanted are thread, earned, due, fine, part. */
    private static void bill(NeedleHomes x, int piece, int k, int... wanted) {
        for (int what = 0; what < wanted.length; what++) {
            Due.is("bill(" + piece + ", " + k + ", " + what + ")", x.bill(piece, k, what), wanted[what]);
        }
    }

    private static void reckonsByADay() {
        NeedleHomes x = one("a150 k1 b75");
        x.day(3);
        x.out(0, 0, 0);
        bill(x, 0, 3, 10, 22, 10, 0, 0);
        bill(x, 0, 0, 10, 22, 10, 0, 0);
        x.day(5);
        Due.goodList(x, "rate if stitch=0:33;rate:21;thread:7;fine:2;late:3;days:1;part:10;", 0, 0, 0);
        bill(x, 0, 5, 15, 64, 4, 0, 0);
        bill(x, 0, 4, 10, 22, 10, 0, 0);
        x.day(6);
        Due.is("wronged(0, 6)", x.wronged(0, 6), NOT_SUCH);
        Due.is("in(0, 4, 11)", x.in(0, 4, 11), -1);
        Due.is("in(0, 4, 10)", x.in(0, 4, 10), 22);
        bill(x, 0, 6, 15, 64, 4, 14, 5);
        bill(x, 0, 3, 10, 22, 10, 0, 0);
        Due.is("wronged(0, 6)", x.wronged(0, 6), 23);
        Due.is("wronged(0, 5)", x.wronged(0, 5), 23);
        Due.is("wronged(0, 4)", x.wronged(0, 4), 0);
        Due.is("carried(1)", x.carried(1), 0);

        x.out(0, 0, 0);
        x.day(9);
        Due.is("in(1, 4, 15)", x.in(1, 4, 15), 45);
        bill(x, 1, 9, 15, 64, 7, 14, 5);
        Due.is("wronged(1, 9)", x.wronged(1, 9), 0);
        Due.is("wronged(1, 4)", x.wronged(1, 4), -23);
        Due.is("carried(1)", x.carried(1), 5);
        Due.is("carried(0)", x.carried(0), 0);
    }

    private static void finesNoMoreThanIsEarned() {
        NeedleHomes x = one("a1000");
        Due.goodList(x, "fine:33;late:9999;days:0;part:100;", 0, 0, 0);
        for (int i = 0; i < 4; i++) {
            x.out(0, 0, 0);
        }
        Due.is("in(0, 3, 0)", x.in(0, 3, 0), 0);
        bill(x, 0, 0, 50, 100, 0, 99, 1);
        Due.is("in(1, 4, 0)", x.in(1, 4, 0), 0);
        bill(x, 1, 0, 50, 100, 0, 100, 0);
        Due.is("in(2, 0, 0)", x.in(2, 0, 0), 0);
        bill(x, 2, 0, 50, 100, 0, 0, 100);
        x.day(999);
        Due.is("in(3, 99, 0)", x.in(3, 99, 0), 0);
        bill(x, 3, 999, 50, 100, 0, 100, 0);
        Due.is("carried(1)", x.carried(1), 101);
    }

    private static void finesOnlyBehindDue() {
        NeedleHomes x = one("a1000");
        Due.goodList(x, "late:10;days:3;", 0, 0, 0);
        for (int i = 0; i < 4; i++) {
            x.out(0, 0, 0);
        }
        x.day(2);
        Due.is("in ahead of due", x.in(0, 0, 0), 100);
        x.day(3);
        Due.is("in on due", x.in(1, 0, 0), 100);
        x.day(4);
        Due.is("in a day behind", x.in(2, 0, 0), 90);
        x.day(6);
        Due.is("in three days behind", x.in(3, 0, 0), 70);
        bill(x, 3, 6, 50, 100, 3, 30, 0);
    }

    private static void cutsEachCount() {
        NeedleHomes x = one("a9 k1 a9 k2 a9 k3 a9 b19 f199");
        x.out(1, 0, 0);
        bill(x, 0, 0, 9, 1 + 19, 7);
        Due.goodList(x, "rate:25;thread:25;part:33;", 1, 0, 0);
        bill(x, 0, 0, 2 * 4 + 4 + 49, 2 * 4 + 4 + 49, 7, 0, 0);
        Due.is("in", x.in(0, 0, 0), 61 - 20);
        bill(x, 0, 0, 61, 61, 7, 0, 20);
    }

    private static void testsThePiece() {
        NeedleHomes x = one("b1000");
        x.hand(70, 7, 2);
        Due.goodList(x, "rate if spots>2:1;rate if ground=3 and stitch=1 and skill>50:30;rate if size=10:20;"
                + "days if stitch=9 and colour=9:4;fine if spots<6:1;fine:2;part if skill=70:50;", 2, 0, 0);
        x.out(2, 0, 0);
        x.out(2, 0, 1);
        x.out(2, 0, 1);
        bill(x, 0, 0, 50, 200, 4, 0, 0);
        bill(x, 1, 0, 50, 300, 4, 0, 0);
        Due.is("in(0, 2, 0)", x.in(0, 2, 0), 198);
        Due.is("in(1, 2, 0)", x.in(1, 2, 0), 149);
        bill(x, 1, 0, 50, 300, 4, 2, 149);
        Due.is("in(2, 6, 0)", x.in(2, 6, 0), 0);
        bill(x, 2, 0, 50, 10, 4, 10, 0);
        Due.is("carried(2)", x.carried(2), 149);
    }

    private static void takesAListOfTheSameDay() {
        NeedleHomes x = one("a1000");
        x.out(0, 0, 0);
        bill(x, 0, 0, 50, 100, 7);
        Due.goodList(x, "rate:1;", 0, 0, 0);
        bill(x, 0, 0, 50, 10, 7);
        Due.goodList(x, "rate:2;", 1, 0, 1);
        Due.goodList(x, "rate:3;", 0, 1, 2);
        bill(x, 0, 0, 50, 10, 7);
        Due.goodList(x, "rate:4;", 0, 0, 3);
        bill(x, 0, 0, 50, 40, 7);
        Due.is("in", x.in(0, 0, 0), 40);
    }

    private static void takesTheWeekItWentOut() {
        NeedleHomes x = one("a1000");
        Due.goodList(x, "rate if week=1 and hay:5;rate if week=1:1;rate if week=2:2;", 0, 0, 0);
        x.day(13);
        x.out(0, 0, 0);
        x.day(14);
        bill(x, 0, 14, 50, 10, 20);
        x.hay(0, 2, true);
        bill(x, 0, 14, 50, 10, 20);
        x.hay(0, 1, true);
        bill(x, 0, 14, 50, 50, 20);
        Due.goodList(x, "rate:9;", 0, 2, 1);
        bill(x, 0, 14, 50, 50, 20);
        Due.goodList(x, "rate:8;", 0, 1, 2);
        bill(x, 0, 14, 50, 80, 20);
        bill(x, 0, 13, 50, 50, 20);
        Due.is("in", x.in(0, 0, 0), 50);
        Due.is("wronged(0, 14)", x.wronged(0, 14), 30);
        x.hay(0, 1, false);
        Due.is("wronged anew", x.wronged(0, 14), 70);
    }

    private static void goesRound() {
        NeedleHomes x = one("1000[a1000]");
        Due.goodList(x, "rate:9999;thread:9999;", 0, 0, 0);
        Due.goodList(x, "rate:9999;part:100;", 1, 0, 1);
        int sum = 0;
        for (int i = 0; i < 22; i++) {
            x.out(0, 0, 0);
            x.out(1, 0, 0);
            bill(x, 2 * i, 0, 99990000, 99990000, 7);
            Due.is("in", x.in(2 * i, 0, 99990000), 99990000);
            Due.is("in", x.in(2 * i + 1, 0, 0), 0);
            sum += 99990000;
        }
        Due.is("the sum goes round", sum, 22L * 99990000 - (1L << 32));
        Due.is("tell(0, 4)", x.tell(0, 4), sum);
        Due.is("count(9)", x.count(9), sum);
        Due.is("carried(1)", x.carried(1), sum);
    }

    private static void refusesWhatIsNotThere() {
        NeedleHomes x = one("a1000");
        x.day(1);
        x.out(0, 0, 0);
        int[][] others = {{-1, 0, 0}, {1, 0, 0}, {0, -1, 0}, {0, 2, 0}, {0, 0, -1}, {0, 0, 5}};
        for (int[] o : others) {
            Due.is("bill(" + o[0] + ", " + o[1] + ", " + o[2] + ")", x.bill(o[0], o[1], o[2]), -1);
        }
        Due.is("wronged(0, 0) of one out", x.wronged(0, 0), NOT_SUCH);
        x.in(0, 0, 0);
        Due.is("wronged(0, 0)", x.wronged(0, 0), 0);
        Due.is("wronged(0, 1)", x.wronged(0, 1), 0);
        Due.is("wronged(0, 2)", x.wronged(0, 2), NOT_SUCH);
        Due.is("wronged(0, -1)", x.wronged(0, -1), NOT_SUCH);
        Due.is("wronged(1, 0)", x.wronged(1, 0), NOT_SUCH);
        Due.is("wronged(-1, 0)", x.wronged(-1, 0), NOT_SUCH);
        Due.is("carried(-1)", x.carried(-1), -1);
        Due.is("carried(3)", x.carried(3), -1);
        Due.is("carried(0)", x.carried(0), 0);
    }
}
