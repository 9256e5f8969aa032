/** Promise 30 and what the fourth paragraph of terms says of stolen patterns, sentence by sentence. */
public final class StolenEdgesTest {
    private static final int MIN = Integer.MIN_VALUE;
    private static final int MAX = Integer.MAX_VALUE;

    public static void main(String[] args) {
        sharedMarksAreCounted();
        noMarksAndAllMarks();
        nearestToChance();
        onlyTwoPatterns();
        stolenHasTwoWhats();
        Due.end();
    }

    private static NeedleHomes two(int a, int b) {
        NeedleHomes x = new NeedleHomes();
        x.pattern(0, a);
        x.pattern(0, b);
        return x;
    }

    private static void stolen(int a, int b, int shared, int beyond) {
        NeedleHomes x = two(a, b);
        String of = Integer.toHexString(a) + " and " + Integer.toHexString(b);
        Due.is(of + " share", x.stolen(0, 1, 0), shared);
        Due.is(of + " beyond chance", x.stolen(0, 1, 1), beyond);
        Due.is(of + " turned round share", x.stolen(1, 0, 0), shared);
        Due.is(of + " turned round beyond chance", x.stolen(1, 0, 1), beyond);
    }

    private static void sharedMarksAreCounted() {
        Due.promise(30, "STOLEN, what 0: MARKS that they share, 1: 1 if it is BEYOND chance, else 0");
        Due.terms(4, "STOLEN: two PATTERNS share s MARKS, of A and B MARKS that they have");
        for (int bit = 0; bit < 24; bit++) {
            stolen(1 << bit, 0xFFFFFF, 1, 0);
            stolen(1 << bit, 0xFFFFFF - (1 << bit), 0, 0);
        }
        stolen(0x00000F, 0x0000FF, 4, 0);
    }

    private static void noMarksAndAllMarks() {
        Due.terms(4, "is less than how many sets of B there are.");
        stolen(0, 0, 0, 0);
        stolen(0, 0xFFFFFF, 0, 0);
        stolen(0xFFFFFF, 0xFFFFFF, 24, 0);
        stolen(0xFFF000, 0x000FFF, 0, 0);
        stolen(0xFFF000, 0xFFF000, 12, 1);
    }

    /** The same marks: there is one such set of 276 with two marks, of 2024 with three. */
    private static void nearestToChance() {
        Due.terms(4, "BEYOND chance: 1000 * (how many sets of B of 24 bits share s or more with A)");
        stolen(0x000003, 0x000003, 2, 0);
        stolen(0x000007, 0x000007, 3, 1);
        stolen(0x1FFFFF, 0x1FFFFF, 21, 1);
        stolen(0x3FFFFF, 0x3FFFFF, 22, 0);
        // 2380 sets of 2496144, then 3224 of 2496144: what is nearest to one of a thousand on each side
        stolen(0x00007F, 0x0007FF, 7, 1);
        stolen(0x0007FF, 0x003BFF, 10, 0);
        stolen(0x00003F, 0x00005F, 5, 1);
        stolen(0x00001F, 0x0000FF, 5, 0);
    }

    private static void onlyTwoPatterns() {
        Due.promise(30, "NONE: there are no such two PATTERNS");
        int[][] others = {{-1, 0}, {0, -1}, {3, 0}, {0, 3}, {8, 0}, {0, 8}, {0, 0}, {2, 2}, {MIN, 0}, {0, MAX}, {-1, -1},
            {3, 3}};
        for (int[] o : others) {
            for (int what = 0; what < 2; what++) {
                int asked = what;
                Full.refuses("stolen(" + o[0] + ", " + o[1] + ", " + what + ")", -1, x -> x.stolen(o[0], o[1], asked));
            }
        }
        NeedleHomes one = new NeedleHomes();
        one.pattern(0, 7);
        Due.is("one alone", one.stolen(0, 1, 0), -1);
        NeedleHomes eight = new NeedleHomes();
        for (int i = 0; i < 8; i++) {
            eight.pattern(0, 7);
        }
        Due.is("the first and the last", eight.stolen(0, 7, 0), 3);
        Due.is("the last and one behind it", eight.stolen(7, 8, 0), -1);
    }

    private static void stolenHasTwoWhats() {
        Due.promise(30, "or for another what.");
        int[] others = {-1, 2, 3, MIN, MAX};
        for (int what : others) {
            Full.refuses("stolen(0, 1, " + what + ")", -1, x -> x.stolen(0, 1, what));
        }
        Full.refuses("stolen(2, 0, 0)", 8, x -> x.stolen(2, 0, 0));
    }
}
