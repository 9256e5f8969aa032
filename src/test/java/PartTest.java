/** Promises 25 and 26: a pattern parted over hands. */
public final class PartTest {
    public static void main(String[] args) {
        choosesHands();
        sharesOut();
        countsHours();
        halvesInHay();
        goesOnBehindTheLastDay();
        refusesWhatIsNotThere();
        Due.end();
    }

    private static NeedleHomes one(String pattern, int[]... hands) {
        NeedleHomes x = new NeedleHomes();
        Due.goodPattern(x, pattern, 0, 0, 0);
        for (int i = 0; i < hands.length; i++) {
            Due.is("hand " + i, x.hand(hands[i][0], hands[i][1], 0), i);
        }
        return x;
    }

    /** Wanted are how many hands, their spread and their set, then the pieces of each hand. */
    private static void parted(NeedleHomes x, int n, int days, int... wanted) {
        String of = n + " in " + days + " days";
        for (int what = 0; what < 3; what++) {
            Due.is(of + ", part " + what, x.part(0, n, days, what), wanted[what]);
        }
        for (int hand = 0; hand < wanted.length - 3; hand++) {
            Due.is(of + ", hand " + hand, x.parted(0, n, days, hand), wanted[3 + hand]);
        }
    }

    private static void cannot(NeedleHomes x, int n, int days) {
        for (int what = 0; what < 3; what++) {
            Due.is(n + " in " + days + " days, part " + what, x.part(0, n, days, what), -1);
        }
        Due.is(n + " in " + days + " days, hand 0", x.parted(0, n, days, 0), -1);
    }

    private static void choosesHands() {
        NeedleHomes x = one("a1000", new int[] {100, 1}, new int[] {100, 1}, new int[] {90, 2}, new int[] {10, 12},
                new int[] {1, 1});
        parted(x, 1, 10, 1, 0, 1, 1, 0, 0, 0, 0);
        parted(x, 10, 10, 1, 0, 1, 10, 0, 0, 0, 0);
        parted(x, 11, 10, 1, 0, 8, 0, 0, 0, 11, 0);
        parted(x, 12, 10, 1, 0, 8, 0, 0, 0, 12, 0);
        parted(x, 13, 10, 2, 0, 3, 7, 6, 0, 0, 0);
        parted(x, 20, 10, 2, 0, 3, 10, 10, 0, 0, 0);
        parted(x, 21, 10, 2, 80, 12, 0, 0, 10, 11, 0);
        parted(x, 23, 10, 3, 10, 7, 8, 8, 7, 0, 0);
        parted(x, 31, 10, 3, 90, 11, 10, 10, 0, 11, 0);
        parted(x, 40, 10, 4, 90, 15, 10, 10, 10, 10, 0);
        cannot(x, 39, 9);
    }

    private static void sharesOut() {
        NeedleHomes x = one("a1000", new int[] {1, 12}, new int[] {20, 1}, new int[] {100, 1});
        parted(x, 9, 10, 1, 0, 4, 0, 0, 9);
        parted(x, 11, 10, 2, 80, 6, 0, 2, 9);
        parted(x, 12, 10, 2, 80, 6, 0, 2, 10);
        parted(x, 13, 10, 3, 99, 7, 1, 2, 10);
        cannot(x, 14, 10);
    }

    private static void countsHours() {
        parted(one("", new int[] {1, 1}), 40, 40, 1, 0, 1, 40);
        cannot(one("", new int[] {1, 1}), 40, 39);
        parted(one("a10", new int[] {1, 1}), 1, 1, 1, 0, 1, 1);
        cannot(one("a11", new int[] {1, 1}), 1, 1);
        parted(one("a11", new int[] {1, 1}), 1, 2, 1, 0, 1, 1);
        parted(one("a2000", new int[] {200, 1}), 1, 1, 1, 0, 1, 1);
        cannot(one("a2001", new int[] {200, 1}), 1, 1);
        parted(one("a50", new int[] {1, 3}), 2, 4, 1, 0, 1, 2);
        cannot(one("a50", new int[] {1, 3}), 2, 3);
        cannot(one("1000[a1000]", new int[] {1, 12}), 1, 60);
        parted(one("1000[a1000]", new int[] {139, 12}), 1, 60, 1, 0, 1, 1);
        cannot(one("1000[a1000]", new int[] {138, 12}), 1, 60);
    }

    private static void halvesInHay() {
        NeedleHomes x = one("a10", new int[] {1, 5}, new int[] {1, 1});
        x.day(5);
        parted(x, 20, 4, 1, 0, 1, 20, 0);
        x.hay(0, 1, true);
        parted(x, 14, 4, 1, 0, 1, 14, 0);
        parted(x, 15, 4, 2, 0, 3, 11, 4);
        cannot(x, 19, 4);
        x.hay(1, 0, true);
        parted(x, 16, 4, 2, 0, 3, 14, 2);
        cannot(x, 17, 4);
        x.hay(0, 0, true);
        parted(x, 8, 4, 1, 0, 1, 8, 0);
        x.day(14);
        parted(x, 20, 4, 1, 0, 1, 20, 0);
    }

    private static void goesOnBehindTheLastDay() {
        NeedleHomes x = one("a10", new int[] {1, 4});
        x.day(999);
        parted(x, 12, 3, 1, 0, 1, 12);
        x.hay(0, 142, true);
        parted(x, 8, 3, 1, 0, 1, 8);
        cannot(x, 9, 3);
    }

    private static void refusesWhatIsNotThere() {
        NeedleHomes x = one("a10", new int[] {200, 12});
        int[][] others = {{-1, 1, 1}, {1, 1, 1}, {0, 0, 1}, {0, 41, 1}, {0, 1, 0}, {0, 1, 61}, {0, -1, 1}, {0, 1, -1}};
        for (int[] o : others) {
            Due.is("part(" + o[0] + ", " + o[1] + ", " + o[2] + ", 0)", x.part(o[0], o[1], o[2], 0), -1);
            Due.is("parted(" + o[0] + ", " + o[1] + ", " + o[2] + ", 0)", x.parted(o[0], o[1], o[2], 0), -1);
        }
        Due.is("part(0, 40, 60, 0)", x.part(0, 40, 60, 0), 1);
        Due.is("part(0, 1, 1, -1)", x.part(0, 1, 1, -1), -1);
        Due.is("part(0, 1, 1, 3)", x.part(0, 1, 1, 3), -1);
        Due.is("parted(0, 1, 1, 0)", x.parted(0, 1, 1, 0), 1);
        Due.is("parted(0, 1, 1, 1)", x.parted(0, 1, 1, 1), -1);
        Due.is("parted(0, 1, 1, -1)", x.parted(0, 1, 1, -1), -1);
        cannot(one("a10"), 1, 1);
    }
}
