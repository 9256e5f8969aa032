/** Promise 30: marks that two patterns share, against all sets of marks there are. */
public final class StolenTest {
    public static void main(String[] args) {
        agreesWithAllSets();
        refusesWhatIsNotThere();
        Due.end();
    }

    /** Counts each of the 2 ^ 24 sets by its size and by what it shares with the lowest a bits. */
    private static long[][] countSets(int a) {
        long[][] many = new long[25][25];
        int lowest = (1 << a) - 1;
        for (int set = 0; set < 1 << 24; set++) {
            many[Integer.bitCount(set)][Integer.bitCount(set & lowest)]++;
        }
        return many;
    }

    private static void agreesWithAllSets() {
        for (int a = 0; a <= 24; a++) {
            long[][] many = countSets(a);
            for (int b = 0; b <= 24; b++) {
                for (int s = Math.max(0, a + b - 24); s <= Math.min(a, b); s++) {
                    long all = 0;
                    long asMany = 0;
                    for (int shared = 0; shared <= 24; shared++) {
                        all += many[b][shared];
                        asMany += shared >= s ? many[b][shared] : 0;
                    }
                    NeedleHomes x = new NeedleHomes();
                    x.pattern(0, (1 << a) - 1);
                    x.pattern(0, ((1 << s) - 1) | ((1 << (b - s)) - 1) << a);
                    String of = a + " and " + b + " marks with " + s;
                    Due.is(of, x.stolen(0, 1, 0), s);
                    Due.is(of, x.stolen(0, 1, 1), 1000 * asMany < all ? 1 : 0);
                    Due.is(of, x.stolen(1, 0, 1), 1000 * asMany < all ? 1 : 0);
                }
            }
        }
    }

    private static void refusesWhatIsNotThere() {
        NeedleHomes x = new NeedleHomes();
        x.pattern(0, 0xF0F0F0);
        x.pattern(0, 0xF0F0F0);
        int[][] others = {{0, 0, 0}, {1, 1, 1}, {0, 2, 0}, {2, 0, 0}, {-1, 0, 0}, {0, -1, 0}, {0, 1, 2}, {0, 1, -1}};
        for (int[] o : others) {
            Due.is("stolen(" + o[0] + ", " + o[1] + ", " + o[2] + ")", x.stolen(o[0], o[1], o[2]), -1);
        }
        Due.is("stolen(0, 1, 0)", x.stolen(0, 1, 0), 12);
        Due.is("stolen(0, 1, 1)", x.stolen(0, 1, 1), 1);
    }
}
