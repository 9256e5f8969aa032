/** Promises 25 and 26 and what the fourth paragraph of terms says of parting, sentence by sentence. */
public final class PartEdgesTest {
    private static final int MIN = Integer.MIN_VALUE;
    private static final int MAX = Integer.MAX_VALUE;

    public static void main(String[] args) {
        manyHaveBounds();
        daysHaveBounds();
        hoursForOneAreCutUp();
        oneHourAtLeast();
        hoursAllowSoMany();
        todayIsTheFirstDay();
        halfOfTheHoursIsCut();
        whoCanDoNoneIsLeftOut();
        theFewestHands();
        thenTheLeastSpread();
        thenTheLeastSet();
        allTwelveHands();
        eachGoesToTheFewest();
        noneThatCanDoNoMore();
        partHasThreeWhats();
        itCannotBe();
        partOfNoneIsNone();
        partedOfNoneIsNone();
        Due.end();
    }

    /** Hands are told as skill and hours. */
    private static NeedleHomes one(String pattern, int... hands) {
        NeedleHomes x = new NeedleHomes();
        Due.goodPattern(x, pattern, 0, 0, 0);
        for (int i = 0; i < hands.length; i += 2) {
            Due.is("hand " + i / 2, x.hand(hands[i], hands[i + 1], 0), i / 2);
        }
        return x;
    }

    /** Wanted are how many hands, their spread and their set, then the pieces of each hand. */
    private static void parted(NeedleHomes x, int n, int days, int... wanted) {
        String of = n + " in " + days + " days";
        for (int what = 0; what < 3; what++) {
            Due.is(of + ", part " + what, x.part(0, n, days, what), wanted[what]);
        }
        for (int hand = 0; hand < wanted.length - 3; hand++) {
            Due.is(of + ", hand " + hand, x.parted(0, n, days, hand), wanted[3 + hand]);
        }
    }

    private static void cannot(NeedleHomes x, int n, int days) {
        for (int what = 0; what < 3; what++) {
            Due.is(n + " in " + days + " days, part " + what, x.part(0, n, days, what), -1);
        }
        Due.is(n + " in " + days + " days, hand 0", x.parted(0, n, days, 0), -1);
    }

    /** One hand alone can do just so many. */
    private static void canDo(NeedleHomes x, int days, int many) {
        if (many > 0) {
            parted(x, many, days, 1, 0, 1, many);
        }
        cannot(x, many + 1, days);
    }

    private static void manyHaveBounds() {
        Due.terms(4, "PARTED: n alike PIECES of a PATTERN, 1 .. 40");
        NeedleHomes x = one("a10", 200, 12);
        parted(x, 1, 60, 1, 0, 1, 1);
        parted(x, 2, 60, 1, 0, 1, 2);
        parted(x, 39, 60, 1, 0, 1, 39);
        parted(x, 40, 60, 1, 0, 1, 40);
        int[] others = {0, -1, 41, 42, MIN, MAX};
        for (int n : others) {
            cannot(x, n, 60);
        }
    }

    private static void daysHaveBounds() {
        Due.terms(4, "in d DAYS from now on (1 .. 60; this one is the first)");
        NeedleHomes x = one("a10", 200, 12);
        parted(x, 1, 1, 1, 0, 1, 1);
        parted(x, 1, 2, 1, 0, 1, 1);
        parted(x, 1, 59, 1, 0, 1, 1);
        parted(x, 1, 60, 1, 0, 1, 1);
        int[] others = {0, -1, 61, 62, MIN, MAX};
        for (int days : others) {
            cannot(x, 1, days);
        }
    }

    private static void hoursForOneAreCutUp() {
        Due.terms(4, "a HAND takes STITCHES / (10 * SKILL) HOURS for one, cut up");
        int[][] rows = {{9, 1}, {10, 1}, {11, 2}, {19, 2}, {20, 2}, {21, 3}, {30, 3}, {31, 4}};
        for (int[] row : rows) {
            canDo(one("a" + row[0], 1, 1), row[1], 1);
            if (row[1] > 1) {
                canDo(one("a" + row[0], 1, 1), row[1] - 1, 0);
            }
        }
        canDo(one("a2000", 200, 1), 1, 1);
        canDo(one("a2001", 200, 1), 1, 0);
        canDo(one("a2001", 200, 1), 2, 1);
        canDo(one("1000[a1000]", 200, 12), 41, 0);
        canDo(one("1000[a1000]", 200, 12), 42, 1);
        canDo(one("1000[a1000]", 1, 12), 60, 0);
    }

    private static void oneHourAtLeast() {
        Due.terms(4, "(1 at least)");
        canDo(one("", 200, 1), 1, 1);
        canDo(one("", 1, 1), 39, 39);
        canDo(one("a0", 1, 5), 1, 5);
        canDo(one("a1", 200, 3), 1, 3);
        parted(one("", 1, 12), 40, 4, 1, 0, 1, 40);
        canDo(one("", 1, 12), 3, 36);
    }

    private static void hoursAllowSoMany() {
        Due.terms(4, "it can do as many as its HOURS allow");
        canDo(one("a20", 1, 3), 1, 1);
        canDo(one("a20", 1, 3), 2, 3);
        canDo(one("a20", 1, 3), 3, 4);
        canDo(one("a50", 1, 12), 1, 2);
        canDo(one("a50", 1, 12), 5, 12);
        canDo(one("a70", 1, 1), 60, 8);
    }

    private static void todayIsTheFirstDay() {
        Due.terms(4, "this one is the first");
        NeedleHomes x = one("a10", 1, 4);
        x.hay(0, 1, true);
        canDo(x, 7, 28);
        canDo(x, 8, 30);
        x.day(6);
        canDo(x, 1, 4);
        canDo(x, 2, 6);
        canDo(x, 8, 18);
        canDo(x, 9, 22);
        x.day(7);
        canDo(x, 1, 2);
        canDo(x, 7, 14);
        canDo(x, 8, 18);
        x.day(13);
        canDo(x, 1, 2);
        canDo(x, 2, 6);
        x.day(14);
        canDo(x, 1, 4);
    }

    private static void halfOfTheHoursIsCut() {
        Due.terms(4, "(in a WEEK with HAY half of them, cut)");
        for (int hours = 1; hours <= 12; hours++) {
            NeedleHomes x = one("a10", 1, hours);
            canDo(x, 1, hours);
            x.hay(0, 0, true);
            canDo(x, 1, hours / 2);
            canDo(x, 3, 3 * (hours / 2));
        }
    }

    private static void whoCanDoNoneIsLeftOut() {
        Due.terms(4, "Some HANDS that can do one at least, and n together, do them");
        NeedleHomes x = one("a20", 1, 1, 1, 2, 1, 1, 1, 2);
        parted(x, 1, 1, 1, 0, 2, 0, 1, 0, 0);
        parted(x, 2, 1, 2, 0, 10, 0, 1, 0, 1);
        cannot(x, 3, 1);
    }

    private static void theFewestHands() {
        Due.terms(4, "the fewest HANDS");
        NeedleHomes x = one("a10", 1, 1, 1, 1, 200, 2);
        parted(x, 1, 1, 1, 0, 1, 1, 0, 0);
        parted(x, 2, 1, 1, 0, 4, 0, 0, 2);
        parted(x, 3, 1, 2, 199, 5, 1, 0, 2);
        parted(x, 4, 1, 3, 199, 7, 1, 1, 2);
        cannot(x, 5, 1);
    }

    private static void thenTheLeastSpread() {
        Due.terms(4, "then the least spread (greatest SKILL of them less the least one)");
        NeedleHomes x = one("a10", 10, 1, 50, 1, 55, 1);
        parted(x, 1, 1, 1, 0, 1, 1, 0, 0);
        parted(x, 2, 1, 2, 5, 6, 0, 1, 1);
        parted(x, 3, 1, 3, 45, 7, 1, 1, 1);
        NeedleHomes y = one("a10", 1, 1, 200, 1);
        parted(y, 2, 1, 2, 199, 3, 1, 1);
        NeedleHomes z = one("a10", 90, 1, 40, 1, 60, 1, 95, 1, 50, 1);
        parted(z, 3, 1, 3, 20, 22, 0, 1, 1, 0, 1);
    }

    private static void thenTheLeastSet() {
        Due.terms(4, "then the least set (bits)");
        parted(one("a10", 10, 1, 20, 1, 30, 1), 2, 1, 2, 10, 3, 1, 1, 0);
        parted(one("a10", 10, 1, 30, 1, 40, 1, 20, 1), 2, 1, 2, 10, 6, 0, 1, 1, 0);
        parted(one("a10", 10, 1, 40, 1, 41, 1, 11, 1), 2, 1, 2, 1, 6, 0, 1, 1, 0);
        parted(one("a10", 7, 1, 7, 1, 7, 1, 7, 1), 1, 1, 1, 0, 1, 1, 0, 0, 0);
        parted(one("a10", 7, 1, 7, 1, 7, 1, 7, 1), 3, 1, 3, 0, 7, 1, 1, 1, 0);
    }

    private static void allTwelveHands() {
        Due.terms(4, "and n together, do them");
        int[] hands = new int[24];
        java.util.Arrays.fill(hands, 1);
        NeedleHomes x = one("a10", hands);
        parted(x, 12, 1, 12, 0, 4095, 1, 1, 1, 1, 1, 1, 1, 1, 1, 1, 1, 1);
        cannot(x, 13, 1);
        parted(x, 36, 3, 12, 0, 4095, 3, 3, 3, 3, 3, 3, 3, 3, 3, 3, 3, 3);
        parted(x, 34, 3, 12, 0, 4095, 3, 3, 3, 3, 3, 3, 3, 3, 3, 3, 2, 2);
        parted(x, 33, 3, 11, 0, 2047, 3, 3, 3, 3, 3, 3, 3, 3, 3, 3, 3, 0);
        cannot(x, 37, 3);
        for (int hand = 0; hand < 11; hand++) {
            x.hay(hand, 0, true);
        }
        parted(x, 1, 1, 1, 0, 2048, 0, 0, 0, 0, 0, 0, 0, 0, 0, 0, 0, 1);
        cannot(x, 2, 1);
    }

    private static void eachGoesToTheFewest() {
        Due.terms(4, "One by one each goes to that of them which has the fewest");
        NeedleHomes x = one("a10", 1, 3, 1, 3, 1, 3);
        parted(x, 3, 1, 1, 0, 1, 3, 0, 0);
        parted(x, 4, 1, 2, 0, 3, 2, 2, 0);
        parted(x, 5, 1, 2, 0, 3, 3, 2, 0);
        parted(x, 6, 1, 2, 0, 3, 3, 3, 0);
        parted(x, 7, 1, 3, 0, 7, 3, 2, 2);
        Due.terms(4, "of several the least.");
        parted(x, 8, 1, 3, 0, 7, 3, 3, 2);
        parted(x, 9, 1, 3, 0, 7, 3, 3, 3);
    }

    private static void noneThatCanDoNoMore() {
        Due.terms(4, "and can do more");
        parted(one("a10", 1, 1, 1, 5), 6, 1, 2, 0, 3, 1, 5);
        parted(one("a10", 1, 5, 1, 1), 6, 1, 2, 0, 3, 5, 1);
        parted(one("a10", 1, 2, 1, 6, 1, 4), 12, 1, 3, 0, 7, 2, 6, 4);
        parted(one("a10", 1, 2, 1, 6, 1, 4), 11, 1, 3, 0, 7, 2, 5, 4);
    }

    private static void partHasThreeWhats() {
        Due.promise(25, "PARTED, what 0: how many HANDS, 1: spread, 2: the set");
        NeedleHomes x = one("a10", 9, 1, 20, 1, 50, 1);
        parted(x, 2, 1, 2, 11, 3);
        Due.promise(25, "or for another what.");
        int[] others = {-1, 3, 4, MIN, MAX};
        for (int what : others) {
            Due.is("part of what " + what, x.part(0, 2, 1, what), -1);
            Full.refuses("part of what " + what, -1, y -> y.part(0, 1, 1, what));
        }
    }

    private static void itCannotBe() {
        Due.promise(25, "it can't be");
        cannot(one("a10"), 1, 60);
        cannot(one("a11", 1, 1), 1, 1);
        NeedleHomes x = one("a10", 1, 1);
        x.hay(0, 0, true);
        cannot(x, 1, 7);
        parted(x, 1, 8, 1, 0, 1, 1);
        cannot(x, 2, 8);
    }

    private static void partOfNoneIsNone() {
        Due.promise(25, "NONE: there are no such numbers");
        int[][] others = {{-1, 1, 1}, {3, 1, 1}, {8, 1, 1}, {MIN, 1, 1}, {MAX, 1, 1}, {0, 0, 1}, {0, 41, 1}, {0, MIN, 1},
            {0, MAX, 1}, {0, 1, 0}, {0, 1, 61}, {0, 1, MIN}, {0, 1, MAX}};
        for (int[] o : others) {
            for (int what = 0; what < 3; what++) {
                int asked = what;
                Full.refuses("part(" + o[0] + ", " + o[1] + ", " + o[2] + ", " + what + ")", -1,
                        x -> x.part(o[0], o[1], o[2], asked));
            }
        }
        Full.refuses("part(2, 40, 60, 0)", 1, x -> x.part(2, 40, 60, 0));
    }

    private static void partedOfNoneIsNone() {
        Due.promise(26, "How many PIECES a HAND has by PARTED");
        NeedleHomes x = one("a10", 1, 3, 1, 3);
        Due.is("of one in the set", x.parted(0, 2, 1, 0), 2);
        Due.is("of one that is not", x.parted(0, 2, 1, 1), 0);
        Due.promise(26, "NONE: there is none such, or as part().");
        int[][] others = {{0, 1, 1, -1}, {0, 1, 1, 3}, {0, 1, 1, 12}, {0, 1, 1, MIN}, {0, 1, 1, MAX}, {-1, 1, 1, 0},
            {3, 1, 1, 0}, {0, 0, 1, 0}, {0, 41, 1, 0}, {0, 1, 0, 0}, {0, 1, 61, 0}, {0, 40, 1, 0}};
        for (int[] o : others) {
            Full.refuses("parted " + java.util.Arrays.toString(o), -1, y -> y.parted(o[0], o[1], o[2], o[3]));
        }
        Full.refuses("parted(2, 1, 1, 2)", 0, y -> y.parted(2, 1, 1, 2));
    }
}
