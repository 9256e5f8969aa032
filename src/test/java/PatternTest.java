/** Promises 4, 6, 7 and 8: patterns, their faults and their counts. */
public final class PatternTest {
    public static void main(String[] args) {
        countsPlainItems();
        carriesColours();
        countsManyTimes();
        findsFaultOne();
        findsOtherFaults();
        findsTooManyStitches();
        refusesWithoutReading();
        tellsWhatItIs();
        Due.end();
    }

    /** Rows of wanted are stitch, colour, count; all others are 0. */
    private static void counts(String text, int[][] wanted) {
        NeedleHomes x = new NeedleHomes();
        Due.goodPattern(x, text, 0, 0, 0);
        int all = 0;
        for (int stitch = 0; stitch < 6; stitch++) {
            for (int colour = 0; colour < 4; colour++) {
                int want = 0;
                for (int[] row : wanted) {
                    want = row[0] == stitch && row[1] == colour ? row[2] : want;
                }
                all += want;
                Due.is(text + ": " + stitch + " in " + colour, x.stitches(0, stitch, colour), want);
            }
        }
        Due.is(text + ": all", x.about(0, 2), all);
    }

    private static void countsPlainItems() {
        counts("", new int[][] {});
        counts(" \n \n", new int[][] {});
        counts("a1b2c3d4e5f6", new int[][] {{0, 0, 1}, {1, 0, 2}, {2, 0, 3}, {3, 0, 4}, {4, 0, 5}, {5, 0, 6}});
        counts("a\n1\n\na  0020 f0", new int[][] {{0, 0, 21}});
        counts("k3a9999k2a9998k1a9997k0a9996", new int[][] {{0, 3, 9999}, {0, 2, 9998}, {0, 1, 9997}, {0, 0, 9996}});
        counts("k0003 b7", new int[][] {{1, 3, 7}});
    }

    private static void carriesColours() {
        counts("2[a1 k1]", new int[][] {{0, 0, 1}, {0, 1, 1}});
        counts("3[a1 k1] b2", new int[][] {{0, 0, 1}, {0, 1, 2}, {1, 1, 2}});
        counts("1[a1 k1] a5", new int[][] {{0, 0, 1}, {0, 1, 5}});
        counts("k3 2[a2] b1 k0 a1", new int[][] {{0, 3, 4}, {1, 3, 1}, {0, 0, 1}});
        counts("k2 4[] a1", new int[][] {{0, 2, 1}});
        counts("2[a1 2[b1 k2] k3]", new int[][] {{0, 0, 1}, {0, 3, 1}, {1, 0, 1}, {1, 3, 1}, {1, 2, 2}});
        counts("2[2[2[c1] k1 c1] k2] c1", new int[][] {{2, 0, 2}, {2, 1, 8}, {2, 2, 3}});
        counts("3[2[d1] 2[k1 d1 k2] d1]", new int[][] {{3, 0, 2}, {3, 1, 6}, {3, 2, 7}});
    }

    private static void countsManyTimes() {
        counts("10[10[10[a1 5[b2]]]]", new int[][] {{0, 0, 1000}, {1, 0, 10000}});
        counts("1[1[1[1[1[1[a3]]]]]]", new int[][] {{0, 0, 3}});
        counts("1[]1[1[]]1[1[1[1[1[1[]]]]]]a1", new int[][] {{0, 0, 1}});
        counts("3[2[2[2[2[2[a3 k1]]]]]]", new int[][] {{0, 0, 3}, {0, 1, 285}});
        counts("1000[a1000]", new int[][] {{0, 0, 1000000}});
        counts("1000[a999 k1 b1]", new int[][] {{0, 0, 999}, {0, 1, 998001}, {1, 1, 1000}});
        counts("9999[9999[9999[9999[9999[9999[a0k2]]]]]]", new int[][] {});
        counts("100[9999[]a9999]100[]", new int[][] {{0, 0, 999900}});
    }

    private static void findsFaultOne() {
        Due.badPattern("a", 1, 1);
        Due.badPattern("a  ", 1, 3);
        Due.badPattern("a1 b\n", 1, 5);
        Due.badPattern("k", 1, 1);
        Due.badPattern("7", 1, 1);
        Due.badPattern("7 ", 1, 2);
        Due.badPattern("1[a1", 1, 4);
        Due.badPattern("1[1[a1]", 1, 7);
        Due.badPattern("[a1]", 1, 0);
        Due.badPattern("a1 ]", 1, 3);
        Due.badPattern("1[a1]]", 1, 5);
        Due.badPattern("3 ]", 1, 2);
        Due.badPattern("3 4[]", 1, 2);
        Due.badPattern("a k1", 1, 2);
        Due.badPattern("a1 5 b2", 1, 5);
        Due.badPattern("g1", 1, 0);
        Due.badPattern("j1", 1, 0);
        Due.badPattern("l1", 1, 0);
        Due.badPattern("a1 aa1", 1, 3);
        Due.badPattern("kk1", 1, 0);
        Due.badPattern("A1", 1, 0);
        Due.badPattern("a1:", 1, 2);
        Due.badPattern("a1;", 1, 2);
        Due.badPattern("a<1", 1, 1);
        Due.badPattern("a>1", 1, 1);
        Due.badPattern("a=1", 1, 1);
        Due.badPattern("a1\t", 1, 2);
        Due.badPattern("a1\r\n", 1, 2);
        Due.badPattern("a1\0", 1, 2);
        Due.badPattern("a" + (char) 177, 1, 1);
        Due.badPattern("" + (char) 225 + "1", 1, 0);
        Due.badPattern("" + (char) 255, 1, 0);
        Due.badPattern("a-1", 1, 1);
        Due.badPattern("a 12345", 1, 2);
        Due.badPattern("00001[]", 1, 0);
        Due.badPattern("a123456789012", 1, 1);
        Due.badPattern("a1 2`", 1, 4);
        Due.badPattern("a1{", 1, 2);
        Due.badPattern("a1/", 1, 2);
    }

    private static void findsOtherFaults() {
        Due.badPattern("k4", 2, 1);
        Due.badPattern("k 9999", 2, 2);
        Due.badPattern("a1 0[]", 2, 3);
        Due.badPattern("0000[]", 2, 0);
        Due.badPattern("1[k4]", 2, 3);
        Due.badPattern("1[1[1[1[1[1[1[]]]]]]]", 3, 13);
        Due.badPattern("1[1[1[1[1[1[1 []]]]]]]", 3, 14);
        Due.badPattern("1[1[1[1[1[1[0[]]]]]]]", 2, 12);
        Due.badPattern("1[1[1[1[1[1[] 1[]]]]]] k4 1[1[1[1[1[1[1[]]]]]]]", 2, 24);
        Due.badPattern("1[1[1[1[1[1[1[]]]]]]] k4", 3, 13);
        Due.badPattern("0[k4]", 2, 0);
        Due.badPattern("k4 0[] a", 1, 8);
        Due.badPattern("k4 1[1[1[1[1[1[1[1[1[;", 1, 21);
        Due.badPattern("1000[a1000] a1 k4", 2, 16);
        String deep = "1[".repeat(133) + "]".repeat(133);
        Due.badPattern(deep, 3, 13);
        Due.badPattern(deep + "]", 1, 399);
        Due.badPattern("1[".repeat(200), 1, 400);
    }

    private static void findsTooManyStitches() {
        Due.badPattern("1000[a1000]f1", 4, 0);
        Due.badPattern("  1000[a1000 k1]f1", 4, 0);
        Due.badPattern("1001[b999 k1 2[c1]]", 4, 0);
        Due.badPattern("9999[9999[9999[9999[9999[9999[a9999]]]]]]", 4, 0);
        Due.badPattern("9999[9999[9999[9999[9999[9999[a1k1]]]]]]", 4, 0);
        Due.badPattern("4295[1000[1000[a1]]]", 4, 0);
        Due.badPattern("100[a9999]a101", 4, 0);
    }

    private static void refusesWithoutReading() {
        NeedleHomes x = new NeedleHomes();
        int[][] others = {{-1, 0}, {4, 0}, {0, -1}, {0, 1 << 24}, {Integer.MIN_VALUE, 0}, {0, Integer.MAX_VALUE}};
        for (int[] other : others) {
            Due.is("pattern ;", Due.pattern(x, ";", 0, 0), -1);
            Due.is("fault(0)", x.fault(0), 1);
            Due.is("pattern of " + other[0] + ", " + other[1], Due.pattern(x, ";", other[0], other[1]), -2);
            Due.is("fault(0)", x.fault(0), 0);
            Due.is("fault(1)", x.fault(1), -1);
            Due.is("the tape is taken", x.end(1), -1);
        }
        for (int i = 0; i < 8; i++) {
            Due.goodPattern(x, "a" + i, 3, (1 << 24) - 1, i);
        }
        Due.is("a ninth", Due.pattern(x, "a1", 0, 0), -2);
        Due.is("count(0)", x.count(0), 8);
        Due.is("its stitches", x.about(7, 2), 7);
        Due.is("fault(2)", x.fault(2), -1);
        Due.is("fault(-1)", x.fault(-1), -1);
    }

    private static void tellsWhatItIs() {
        NeedleHomes x = new NeedleHomes();
        Due.goodPattern(x, "a1 b2 k1 b3 k3 f4 e0 k2 d0", 2, 0xABCDEF, 0);
        int[] wanted = {2, 0xABCDEF, 10, 3, 3, -2};
        for (int what = 0; what < wanted.length; what++) {
            Due.is("about(0, " + what + ")", x.about(0, what), wanted[what]);
        }
        Due.is("about(0, -1)", x.about(0, -1), -2);
        Due.is("about(1, 0)", x.about(1, 0), -2);
        Due.is("about(-1, 0)", x.about(-1, 0), -2);
        Due.is("about(min, 0)", x.about(Integer.MIN_VALUE, 0), -2);
        Due.is("stitches(1, 0, 0)", x.stitches(1, 0, 0), -1);
        Due.is("stitches(-1, 0, 0)", x.stitches(-1, 0, 0), -1);
        Due.is("stitches(0, -1, 0)", x.stitches(0, -1, 0), -1);
        Due.is("stitches(0, 6, 0)", x.stitches(0, 6, 0), -1);
        Due.is("stitches(0, 0, -1)", x.stitches(0, 0, -1), -1);
        Due.is("stitches(0, 0, 4)", x.stitches(0, 0, 4), -1);
        Due.is("stitches(0, 5, 3)", x.stitches(0, 5, 3), 4);
    }
}
