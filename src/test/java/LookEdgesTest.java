/** Promises 27 to 29 and what the fourth paragraph of terms says of looks, sentence by sentence. */
public final class LookEdgesTest {
    private static final int MIN = Integer.MIN_VALUE;
    private static final int MAX = Integer.MAX_VALUE;

    public static void main(String[] args) {
        eachStitchIsLookedAt();
        manyHaveBounds();
        turnedHaveBounds();
        toldAnewItIsThat();
        lookOfNoneIsRefused();
        unlikenessIsTogether();
        unlikenessAtItsGreatest();
        unlikeOfNoneIsNone();
        whoIsTheLeast();
        ofSeveralTheLeastOne();
        doubtIsOfTheNext();
        doubtWithOneHand();
        whoHasTwoWhats();
        whoOfNothingIsNone();
        Due.end();
    }

    private static NeedleHomes hands(int many) {
        NeedleHomes x = new NeedleHomes();
        x.pattern(0, 0);
        for (int i = 0; i < many; i++) {
            x.hand(1, 1, 0);
        }
        x.out(0, 0, 0);
        return x;
    }

    private static void eachStitchIsLookedAt() {
        Due.promise(27, "A STITCH of a PIECE is LOOKED AT: true");
        for (int stitch = 0; stitch < 6; stitch++) {
            NeedleHomes x = hands(1);
            x.out(0, 0, 0);
            x.habit(0, stitch, 30);
            Due.yes("look at " + stitch, x.look(0, stitch, 10, 0));
            Due.is("unlike(0, 0)", x.unlike(0, 0), 300);
            Due.is("of another piece", x.unlike(1, 0), 0);
            x.in(0, 0, 0);
            Due.yes("look at one that is in", x.look(0, stitch, 20, 0));
            Due.is("unlike(0, 0)", x.unlike(0, 0), 600);
        }
    }

    private static void manyHaveBounds() {
        Due.terms(4, "of so many STITCHES, 1 .. 999");
        int[] taken = {1, 2, 998, 999};
        for (int many : taken) {
            NeedleHomes x = hands(1);
            Due.yes("look at " + many, x.look(0, 0, many, 0));
            Due.is("unlike(0, 0)", x.unlike(0, 0), 50 * many);
        }
        int[] others = {0, -1, 1000, 1001, MIN, MAX};
        for (int many : others) {
            NeedleHomes x = hands(1);
            Due.no("look at " + many, x.look(0, 0, many, 0));
            Due.is("nothing is looked at", x.who(0, 0), -1);
            Due.no("look at " + many + ", all turned", x.look(0, 0, many, many));
            Due.is("nothing is looked at", x.who(0, 0), -1);
        }
    }

    private static void turnedHaveBounds() {
        Due.terms(4, "so many are TURNED");
        int[][] taken = {{1, 0}, {1, 1}, {10, 0}, {10, 9}, {10, 10}, {999, 998}, {999, 999}};
        for (int[] row : taken) {
            NeedleHomes x = hands(1);
            x.habit(0, 0, 0);
            Due.yes("turned " + row[1] + " of " + row[0], x.look(0, 0, row[0], row[1]));
            Due.is("unlike(0, 0)", x.unlike(0, 0), 100 * row[1]);
        }
        int[][] others = {{1, 2}, {1, -1}, {10, 11}, {10, -1}, {999, 1000}, {999, MIN}, {999, MAX}};
        for (int[] row : others) {
            NeedleHomes x = hands(1);
            Due.no("turned " + row[1] + " of " + row[0], x.look(0, 0, row[0], row[1]));
            Due.is("nothing is looked at", x.who(0, 0), -1);
        }
    }

    private static void toldAnewItIsThat() {
        Due.terms(4, "(told anew it is that)");
        NeedleHomes x = hands(1);
        x.look(0, 2, 999, 0);
        x.look(0, 3, 4, 4);
        Due.yes("told anew", x.look(0, 2, 2, 1));
        Due.is("unlike(0, 0)", x.unlike(0, 0), 0 + 200);
    }

    private static void lookOfNoneIsRefused() {
        Due.promise(27, "false: there is none such (of either), or other numbers.");
        int[][] others = {{-1, 0, 1, 0}, {3, 0, 1, 0}, {60, 0, 1, 0}, {MIN, 0, 1, 0}, {MAX, 0, 1, 0}, {1, -1, 1, 0},
            {1, 6, 1, 0}, {1, MIN, 1, 0}, {1, MAX, 1, 0}, {1, 0, 0, 0}, {1, 0, 1000, 0}, {1, 0, -1, -1}, {1, 0, 9, 10},
            {1, 0, 9, -1}, {0, 3, 1000, 500}, {2, 0, 0, 0}};
        for (int[] o : others) {
            Full.refuses("look " + java.util.Arrays.toString(o), x -> x.look(o[0], o[1], o[2], o[3]));
        }
        Due.no("look of a new object", new NeedleHomes().look(0, 0, 1, 0));
    }

    private static void unlikenessIsTogether() {
        Due.promise(28, "UNLIKENESS of a HAND to a PIECE");
        Due.terms(4, "of each STITCH that was LOOKED AT |100 * TURNED - HABIT * (how many were looked at)|, together");
        NeedleHomes x = hands(2);
        Due.is("nothing was looked at", x.unlike(0, 0), 0);
        x.habit(1, 0, 100);
        x.habit(1, 1, 0);
        x.look(0, 0, 10, 5);
        Due.is("just the habit", x.unlike(0, 0), 0);
        Due.is("that of hand 1", x.unlike(0, 1), 500);
        x.look(0, 1, 10, 7);
        Due.is("more than the habit", x.unlike(0, 0), 200);
        Due.is("that of hand 1", x.unlike(0, 1), 500 + 700);
        x.look(0, 2, 10, 1);
        Due.is("less than the habit", x.unlike(0, 0), 200 + 400);
        Due.is("that of hand 1", x.unlike(0, 1), 500 + 700 + 400);
    }

    private static void unlikenessAtItsGreatest() {
        Due.terms(4, "UNLIKENESS of a HAND");
        NeedleHomes x = hands(2);
        for (int stitch = 0; stitch < 6; stitch++) {
            x.look(0, stitch, 999, 999);
            x.habit(0, stitch, 0);
            x.habit(1, stitch, 100);
        }
        Due.is("unlike(0, 0)", x.unlike(0, 0), 6 * 99900);
        Due.is("unlike(0, 1)", x.unlike(0, 1), 0);
        Due.is("who(0, 0)", x.who(0, 0), 1);
        Due.is("who(0, 1)", x.who(0, 1), 6 * 99900);
        for (int stitch = 0; stitch < 6; stitch++) {
            x.look(0, stitch, 999, 0);
        }
        Due.is("unlike(0, 0)", x.unlike(0, 0), 0);
        Due.is("unlike(0, 1)", x.unlike(0, 1), 6 * 99900);
        Due.is("who(0, 0)", x.who(0, 0), 0);
    }

    private static void unlikeOfNoneIsNone() {
        Due.promise(28, "NONE: there is none such (of either).");
        int[][] others = {{-1, 0}, {3, 0}, {60, 0}, {MIN, 0}, {MAX, 0}, {0, -1}, {0, 3}, {0, 12}, {0, MIN}, {0, MAX}, {3, 3}};
        for (int[] o : others) {
            Full.refuses("unlike(" + o[0] + ", " + o[1] + ")", -1, x -> x.unlike(o[0], o[1]));
        }
        Full.refuses("unlike(2, 2)", 0, x -> x.unlike(2, 2));
    }

    private static void whoIsTheLeast() {
        Due.promise(29, "WHO, what 0: the HAND, 1: DOUBT");
        Due.terms(4, "WHO: the HAND with the least");
        for (int likest = 0; likest < 12; likest++) {
            NeedleHomes x = hands(12);
            x.look(0, 4, 1, 1);
            x.habit(likest, 4, 51);
            Due.is("who", x.who(0, 0), likest);
            Due.is("doubt", x.who(0, 1), 1);
        }
    }

    private static void ofSeveralTheLeastOne() {
        Due.terms(4, "of several the least one");
        NeedleHomes x = hands(12);
        x.look(0, 4, 1, 1);
        Due.is("of all alike", x.who(0, 0), 0);
        x.habit(11, 4, 60);
        x.habit(5, 4, 60);
        x.habit(7, 4, 60);
        Due.is("of three alike", x.who(0, 0), 5);
    }

    private static void doubtIsOfTheNext() {
        Due.terms(4, "DOUBT: how much more that of the next one has (0 if as much");
        NeedleHomes x = hands(3);
        x.look(0, 4, 1, 1);
        Due.is("as much", x.who(0, 1), 0);
        x.habit(2, 4, 90);
        Due.is("10 and 50", x.who(0, 1), 40);
        x.habit(1, 4, 80);
        Due.is("10 and 20", x.who(0, 1), 10);
        x.habit(0, 4, 89);
        Due.is("10 and 11", x.who(0, 1), 1);
        x.habit(0, 4, 90);
        Due.is("10 and 10", x.who(0, 1), 0);
        x.habit(0, 4, 91);
        Due.is("9 and 10", x.who(0, 1), 1);
        Due.is("who", x.who(0, 0), 0);
    }

    private static void doubtWithOneHand() {
        Due.terms(4, "NONE with one HAND).");
        NeedleHomes x = hands(1);
        x.look(0, 0, 1, 0);
        Due.is("who", x.who(0, 0), 0);
        Due.is("doubt", x.who(0, 1), -1);
        x.hand(1, 1, 1);
        Due.is("doubt with two", x.who(0, 1), 0);
    }

    private static void whoHasTwoWhats() {
        Due.promise(29, "or for another what.");
        int[] others = {-1, 2, 3, MIN, MAX};
        for (int what : others) {
            Full.refuses("who(1, " + what + ")", -1, x -> x.who(1, what));
        }
        Full.refuses("who(1, 0)", 0, x -> x.who(1, 0));
    }

    private static void whoOfNothingIsNone() {
        Due.promise(29, "NONE: there are no HANDS, no such PIECE, nothing of it was LOOKED AT");
        Due.is("without hands", new NeedleHomes().who(0, 0), -1);
        Due.is("doubt without hands", new NeedleHomes().who(0, 1), -1);
        int[] others = {-1, 3, 60, MIN, MAX, 2};
        for (int piece : others) {
            Full.refuses("who(" + piece + ", 0)", -1, x -> x.who(piece, 0));
            Full.refuses("who(" + piece + ", 1)", -1, x -> x.who(piece, 1));
        }
        for (int stitch = 0; stitch < 6; stitch++) {
            NeedleHomes x = hands(1);
            Due.is("nothing was looked at", x.who(0, 0), -1);
            x.look(0, stitch, 1, 0);
            Due.is("one stitch was", x.who(0, 0), 0);
        }
    }
}
