/** Promises 23 and 24: the books of dealer and carrier. */
public final class BookTest {
    public static void main(String[] args) {
        NeedleHomes x = new NeedleHomes();
        Due.goodPattern(x, "a1", 0, 0, 0);
        x.hand(1, 1, 0);
        Due.is("differ(0) of none", x.differ(0), -1);
        Due.no("write of none", x.write(0, 0, 0, 0));
        x.out(0, 0, 0);
        x.out(0, 0, 0);
        Due.is("nothing written", x.differ(0), 0);

        int[][] others = {{-1, 0, 0, 0}, {2, 0, 0, 0}, {0, -1, 0, 0}, {0, 2, 0, 0}, {0, 0, -1, 0}, {0, 0, 3, 0},
            {0, 0, 0, -1}, {0, 0, 0, 10000}};
        for (int[] o : others) {
            Due.no("write " + java.util.Arrays.toString(o), x.write(o[0], o[1], o[2], o[3]));
        }
        for (int what = 0; what < 3; what++) {
            Due.yes("dealer writes", x.write(0, 0, what, 0));
            Due.is("one alone", x.differ(0), (1 << what) - 1);
            Due.yes("carrier writes 0", x.write(1, 0, what, 0));
            Due.is("the same", x.differ(0), (1 << what) - 1);
            Due.yes("carrier writes 9999", x.write(1, 0, what, 9999));
            Due.is("another", x.differ(0), (2 << what) - 1);
        }
        Due.is("count(7)", x.count(7), 1);
        Due.no("a wrong number changes nothing", x.write(1, 0, 1, 10000));
        Due.is("differ(0)", x.differ(0), 7);
        Due.yes("told anew", x.write(0, 0, 1, 9999));
        Due.is("differ(0)", x.differ(0), 5);
        Due.is("of another piece", x.differ(1), 0);
        Due.yes("carrier alone", x.write(1, 1, 2, 5));
        Due.is("differ(1)", x.differ(1), 0);
        Due.yes("and the dealer", x.write(0, 1, 2, 6));
        Due.is("differ(1)", x.differ(1), 4);
        Due.is("count(7)", x.count(7), 2);
        Due.is("differ(2)", x.differ(2), -1);
        Due.is("differ(-1)", x.differ(-1), -1);
        Due.end();
    }
}
