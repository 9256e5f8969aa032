/** Promises 2 and 3: feed and end. */
public final class TapeTest {
    public static void main(String[] args) {
        fillsUp();
        keepsTheOrder();
        isCut();
        growsBehindACut();
        Due.end();
    }

    private static void fillsUp() {
        NeedleHomes x = new NeedleHomes();
        for (int fed = 1; fed <= 20; fed++) {
            Due.is("feed " + fed, x.feed(0x20202020, 0x20202020, 0x20202020, 0x20202020, 0x20202020), 20 * fed);
        }
        Due.is("feed 21", x.feed(1, 1, 1, 1, 1), -1);
        Due.is("end(401)", x.end(401), -1);
        Due.is("end(400)", x.end(400), 400);
        Due.is("a tape of blanks", x.pattern(0, 0), 0);
        Due.is("taken tape", x.end(1), -1);

        for (int fed = 1; fed <= 20; fed++) {
            x.feed(0, 0, 0, 0, 0);
        }
        Due.is("end(381)", x.end(381), 381);
        Due.is("feed to 401", x.feed(0, 0, 0, 0, 0), -1);
        Due.is("nothing came", x.end(382), -1);
        Due.is("end(380)", x.end(380), 380);
        Due.is("feed to 400", x.feed(0, 0, 0, 0, 0), 400);
    }

    private static void keepsTheOrder() {
        NeedleHomes x = new NeedleHomes();
        Due.is("feed", x.feed(Due.four("a123", 0), Due.four("b4k1", 0), Due.four("c  5", 0), Due.four("\nd6k", 0),
                Due.four("3e78", 0)), 20);
        Due.is("feed", x.feed(Due.four("f900", 0), Due.four("0   ", 0), 0, 0, 0), 40);
        Due.is("end(28)", x.end(28), 28);
        Due.is("pattern", x.pattern(0, 0), 0);
        Due.is("a in 0", x.stitches(0, 0, 0), 123);
        Due.is("b in 0", x.stitches(0, 1, 0), 4);
        Due.is("c in 1", x.stitches(0, 2, 1), 5);
        Due.is("d in 1", x.stitches(0, 3, 1), 6);
        Due.is("e in 3", x.stitches(0, 4, 3), 78);
        Due.is("f in 3", x.stitches(0, 5, 3), 9000);
    }

    private static void isCut() {
        NeedleHomes x = new NeedleHomes();
        Due.feed(x, 0, "a1 a2 a3");
        Due.is("end(9)", x.end(9), -1);
        Due.is("end(-1)", x.end(-1), -1);
        Due.is("end(min)", x.end(Integer.MIN_VALUE), -1);
        Due.is("end(max)", x.end(Integer.MAX_VALUE), -1);
        Due.is("end(8)", x.end(8), 8);
        Due.is("end(5)", x.end(5), 5);
        Due.is("end(6)", x.end(6), -1);
        Due.is("pattern", x.pattern(0, 0), 0);
        Due.is("stitches", x.stitches(0, 0, 0), 3);
    }

    private static void growsBehindACut() {
        NeedleHomes x = new NeedleHomes();
        Due.feed(x, 0, "a1x");
        x.end(2);
        Due.feed(x, 2, "2 b3");
        Due.is("pattern", x.pattern(0, 0), 0);
        Due.is("a", x.stitches(0, 0, 0), 12);
        Due.is("b", x.stitches(0, 1, 0), 3);
    }
}
