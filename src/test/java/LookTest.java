/** Promises 27 to 29: who stitched a piece, by habits. */
public final class LookTest {
    public static void main(String[] args) {
        takesLooks();
        weighsHands();
        findsWho();
        Due.end();
    }

    private static NeedleHomes one(int hands) {
        NeedleHomes x = new NeedleHomes();
        Due.goodPattern(x, "a1", 0, 0, 0);
        x.hand(1, 1, 0);
        x.out(0, 0, 0);
        x.out(0, 0, 0);
        for (int i = 1; i < hands; i++) {
            x.hand(1, 1, 0);
        }
        return x;
    }

    private static void takesLooks() {
        NeedleHomes x = one(1);
        int[][] others = {{-1, 0, 1, 0}, {2, 0, 1, 0}, {0, -1, 1, 0}, {0, 6, 1, 0}, {0, 0, 0, 0}, {0, 0, 1000, 0},
            {0, 0, 1, -1}, {0, 0, 1, 2}, {0, 0, 999, 1000}, {0, 0, -5, -6}};
        for (int[] o : others) {
            Due.no("look " + java.util.Arrays.toString(o), x.look(o[0], o[1], o[2], o[3]));
        }
        Due.is("nothing was looked at", x.who(0, 0), -1);
        Due.is("unlike(0, 0)", x.unlike(0, 0), 0);
        Due.yes("look(0, 0, 1, 0)", x.look(0, 0, 1, 0));
        Due.yes("look(0, 5, 999, 999)", x.look(0, 5, 999, 999));
        Due.is("unlike(0, 0)", x.unlike(0, 0), 50 + 49950);
        Due.yes("told anew", x.look(0, 5, 10, 5));
        Due.is("unlike(0, 0)", x.unlike(0, 0), 50);
        Due.is("of another piece", x.unlike(1, 0), 0);
        Due.is("who of another piece", x.who(1, 0), -1);
    }

    private static void weighsHands() {
        NeedleHomes x = one(2);
        x.habit(0, 0, 10);
        x.habit(0, 1, 90);
        x.habit(1, 0, 33);
        x.look(0, 0, 7, 3);
        x.look(0, 1, 9, 2);
        x.look(0, 2, 4, 4);
        Due.is("unlike(0, 0)", x.unlike(0, 0), (300 - 70) + (810 - 200) + (400 - 200));
        Due.is("unlike(0, 1)", x.unlike(0, 1), (300 - 231) + (450 - 200) + (400 - 200));
        Due.is("unlike(0, 2)", x.unlike(0, 2), -1);
        Due.is("unlike(0, -1)", x.unlike(0, -1), -1);
        Due.is("unlike(2, 0)", x.unlike(2, 0), -1);
        Due.is("unlike(-1, 0)", x.unlike(-1, 0), -1);
    }

    private static void findsWho() {
        NeedleHomes none = new NeedleHomes();
        Due.is("who of none", none.who(0, 0), -1);
        NeedleHomes alone = one(1);
        alone.look(0, 0, 10, 10);
        Due.is("who of one", alone.who(0, 0), 0);
        Due.is("doubt of one", alone.who(0, 1), -1);

        NeedleHomes x = one(4);
        x.look(0, 3, 10, 10);
        Due.is("the least of alike", x.who(0, 0), 0);
        Due.is("no more", x.who(0, 1), 0);
        x.habit(2, 3, 90);
        Due.is("who", x.who(0, 0), 2);
        Due.is("doubt", x.who(0, 1), 400);
        x.habit(0, 3, 70);
        Due.is("who", x.who(0, 0), 2);
        Due.is("doubt", x.who(0, 1), 200);
        x.habit(3, 3, 90);
        Due.is("who", x.who(0, 0), 2);
        Due.is("doubt", x.who(0, 1), 0);
        x.habit(1, 3, 100);
        Due.is("who", x.who(0, 0), 1);
        Due.is("doubt", x.who(0, 1), 100);
        Due.is("who(0, 2)", x.who(0, 2), -1);
        Due.is("who(0, -1)", x.who(0, -1), -1);
        Due.is("who(1, 0)", x.who(1, 0), -1);
        Due.is("who(2, 0)", x.who(2, 0), -1);
        Due.is("who(-1, 0)", x.who(-1, 0), -1);
    }
}
