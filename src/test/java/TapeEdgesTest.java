/** Promises 1 to 3, sentence by sentence: a new object, feed and end. */
public final class TapeEdgesTest {
    private static final int BLANKS = 0x20202020;

    public static void main(String[] args) {
        aNewObjectHasNothing();
        aNewObjectHasFirstNumbers();
        feedTakesTheHighestByteFirst();
        feedTakesEachByteAsItIs();
        feedComesBehindTheTape();
        feedAnswersHowManyThereAre();
        feedIsRefusedAboveFourHundred();
        aRefusedFeedLeavesAll();
        endKeepsTheFirstBytes();
        endIsRefusedOutside();
        aRefusedEndLeavesAll();
        Due.end();
    }

    private static void aNewObjectHasNothing() {
        Due.promise(1, "No PATTERNS, LISTS, HANDS, PIECES; DAY 0; no images.");
        NeedleHomes x = new NeedleHomes();
        for (int what = 0; what <= 9; what++) {
            Due.is("count(" + what + ")", x.count(what), 0);
        }
        Due.is("about(0, 0)", x.about(0, 0), -2);
        Due.is("stitches(0, 0, 0)", x.stitches(0, 0, 0), -1);
        for (int dealer = 0; dealer < 3; dealer++) {
            Due.is("lists(" + dealer + ", 142, 0)", x.lists(dealer, 142, 0), -1);
        }
        Due.is("tell(0, 0)", x.tell(0, 0), -2);
        Due.is("piece(0, 0)", x.piece(0, 0), -2);
        Due.is("out(0, 0, 0)", x.out(0, 0, 0), -1);
        Due.is("lists(0, 0, 1)", x.lists(0, 0, 1), -2);
        for (int k = 0; k < 3; k++) {
            Due.no("again(" + k + ")", x.again(k));
        }
        Due.yes("day(0)", x.day(0));
    }

    private static void aNewObjectHasFirstNumbers() {
        Due.promise(1, "No PATTERNS");
        NeedleHomes x = new NeedleHomes();
        Due.is("fault(0)", x.fault(0), 0);
        Due.is("fault(1)", x.fault(1), -1);
        Due.is("end(1)", x.end(1), -1);
        Due.is("end(0)", x.end(0), 0);
        for (int carrier = 0; carrier < 3; carrier++) {
            Due.is("carried(" + carrier + ")", x.carried(carrier), 0);
        }
        Due.is("even(0, 0, 0)", x.even(0, 0, 0), 100);
        Due.is("even(0, 0, 1)", x.even(0, 0, 1), 0);
    }

    private static void feedTakesTheHighestByteFirst() {
        Due.promise(2, "twenty bytes come behind it, of each number the highest first");
        NeedleHomes x = new NeedleHomes();
        String text = "k1a2b3c4d5e6f7k2a8b9";
        x.feed(Due.four(text, 0), Due.four(text, 4), Due.four(text, 8), Due.four(text, 12), Due.four(text, 16));
        Due.is("all twenty", x.pattern(0, 0), 0);
        int[] inOne = {2, 3, 4, 5, 6, 7};
        int[] inTwo = {8, 9, 0, 0, 0, 0};
        for (int stitch = 0; stitch < 6; stitch++) {
            Due.is(stitch + " in 1", x.stitches(0, stitch, 1), inOne[stitch]);
            Due.is(stitch + " in 2", x.stitches(0, stitch, 2), inTwo[stitch]);
        }
    }

    /** A high bit of one byte may not spill into those beside it. */
    private static void feedTakesEachByteAsItIs() {
        Due.promise(2, "of each number the highest first");
        int[][] rows = {{0xFF202020, 0}, {0x20FF2020, 1}, {0x2020FF20, 2}, {0x202020FF, 3}, {0x80202020, 0},
            {0x20202080, 3}, {0x20200020, 2}, {Integer.MIN_VALUE, 0}, {-1, 0}};
        for (int[] row : rows) {
            NeedleHomes x = new NeedleHomes();
            x.feed(BLANKS, row[0], BLANKS, BLANKS, BLANKS);
            Due.is("pattern with " + row[0], x.pattern(0, 0), -1);
            Due.is("fault of " + row[0], x.fault(0), 1);
            Due.is("place of " + row[0], x.fault(1), 4 + row[1]);
        }
    }

    private static void feedComesBehindTheTape() {
        Due.promise(2, "twenty bytes come behind it");
        NeedleHomes x = new NeedleHomes();
        x.feed(Due.four("a123", 0), BLANKS, BLANKS, BLANKS, BLANKS);
        Due.is("end(3)", x.end(3), 3);
        Due.is("feed behind three", x.feed(Due.four("4b56", 0), BLANKS, BLANKS, BLANKS, Due.four("  c7", 0)), 23);
        Due.is("feed behind 23", x.feed(Due.four("8d9 ", 0), BLANKS, BLANKS, BLANKS, BLANKS), 43);
        Due.is("pattern", x.pattern(0, 0), 0);
        Due.is("a", x.stitches(0, 0, 0), 124);
        Due.is("b", x.stitches(0, 1, 0), 56);
        Due.is("c", x.stitches(0, 2, 0), 78);
        Due.is("d", x.stitches(0, 3, 0), 9);
    }

    private static void feedAnswersHowManyThereAre() {
        Due.promise(2, "how many it has");
        NeedleHomes x = new NeedleHomes();
        for (int fed = 1; fed <= 20; fed++) {
            Due.is("feed " + fed, x.feed(BLANKS, BLANKS, BLANKS, BLANKS, BLANKS), 20 * fed);
        }
        Due.is("a taken tape", x.pattern(0, 0), 0);
        Due.is("feed anew", x.feed(BLANKS, BLANKS, BLANKS, BLANKS, BLANKS), 20);
        Due.is("end(0)", x.end(0), 0);
        Due.is("feed behind none", x.feed(BLANKS, BLANKS, BLANKS, BLANKS, BLANKS), 20);
    }

    /** A tape with a1 at its front and b2 at its end. */
    private static NeedleHomes fourHundred() {
        NeedleHomes x = new NeedleHomes();
        x.feed(Due.four("a1  ", 0), BLANKS, BLANKS, BLANKS, BLANKS);
        for (int fed = 2; fed <= 19; fed++) {
            x.feed(BLANKS, BLANKS, BLANKS, BLANKS, BLANKS);
        }
        Due.is("the twentieth feed", x.feed(BLANKS, BLANKS, BLANKS, BLANKS, Due.four("  b2", 0)), 400);
        return x;
    }

    private static void feedIsRefusedAboveFourHundred() {
        Due.promise(2, "NONE, and nothing comes, if there would be more than 400.");
        Due.terms(1, "THE TAPE has at most 400 bytes");
        NeedleHomes x = fourHundred();
        int c3 = Due.four("c3c3", 0);
        Due.is("feed at 400", x.feed(c3, c3, c3, c3, c3), -1);
        Due.is("end(401)", x.end(401), -1);
        Due.is("end(400)", x.end(400), 400);
        Due.is("pattern", x.pattern(0, 0), 0);
        Due.is("a of the front", x.stitches(0, 0, 0), 1);
        Due.is("b of the end", x.stitches(0, 1, 0), 2);
        Due.is("c of what was refused", x.stitches(0, 2, 0), 0);
        for (int had = 381; had <= 399; had++) {
            NeedleHomes y = fourHundred();
            y.end(had);
            Due.is("feed at " + had, y.feed(c3, c3, c3, c3, c3), -1);
            Due.is("one more than " + had, y.end(had + 1), -1);
            Due.is("end(" + had + ")", y.end(had), had);
            Due.is("pattern", y.pattern(0, 0), had == 399 ? -1 : 0);
            Due.is("c of what was refused", y.stitches(0, 2, 0), had == 399 ? -1 : 0);
        }
        NeedleHomes z = fourHundred();
        z.end(380);
        Due.is("feed at 380", z.feed(c3, c3, c3, c3, c3), 400);
        Due.is("pattern", z.pattern(0, 0), 0);
        Due.is("c that came", z.stitches(0, 2, 0), 30);
    }

    private static void aRefusedFeedLeavesAll() {
        Due.promise(2, "NONE, and nothing comes");
        Full.refuses("feed behind 387 bytes", -1, x -> {
            for (int fed = 1; fed <= 19; fed++) {
                x.feed(BLANKS, BLANKS, BLANKS, BLANKS, BLANKS);
            }
            int answer = x.feed(1, 2, 3, 4, 5);
            x.end(Full.TAPE.length());
            return answer;
        });
    }

    private static void endKeepsTheFirstBytes() {
        Due.promise(3, "The tape has its first n bytes alone: n");
        String text = "a1b2c3d4e5f6a7b8c9d1";
        for (int n = 0; n <= 20; n += 2) {
            NeedleHomes x = new NeedleHomes();
            x.feed(Due.four(text, 0), Due.four(text, 4), Due.four(text, 8), Due.four(text, 12), Due.four(text, 16));
            Due.is("end(" + n + ")", x.end(n), n);
            Due.is("one more than " + n, x.end(n + 1), -1);
            Due.is("end(" + n + ") anew", x.end(n), n);
            Due.is("pattern", x.pattern(0, 0), 0);
            int all = 0;
            for (int at = 1; at < n; at += 2) {
                all += text.charAt(at) - '0';
            }
            Due.is("stitches of " + n + " bytes", x.about(0, 2), all);
        }
        NeedleHomes one = new NeedleHomes();
        one.feed(Due.four(text, 0), 0, 0, 0, 0);
        Due.is("end(1)", one.end(1), 1);
        Due.is("pattern of a alone", one.pattern(0, 0), -1);
        Due.is("its place", one.fault(1), 1);
    }

    private static void endIsRefusedOutside() {
        Due.promise(3, "NONE if it has not so many, or n is below 0.");
        NeedleHomes x = new NeedleHomes();
        Due.is("end(0) of none", x.end(0), 0);
        Due.is("end(1) of none", x.end(1), -1);
        Due.is("end(-1) of none", x.end(-1), -1);
        x.feed(Due.four("a12 ", 0), BLANKS, BLANKS, BLANKS, BLANKS);
        int[] others = {21, 22, 40, 400, 401, -1, -2, -20, Integer.MIN_VALUE, Integer.MAX_VALUE};
        for (int n : others) {
            Due.is("end(" + n + ")", x.end(n), -1);
        }
        Due.is("end(20)", x.end(20), 20);
        Due.is("pattern", x.pattern(0, 0), 0);
        Due.is("its stitches", x.about(0, 2), 12);
        Due.is("end(1) of a taken tape", x.end(1), -1);
        NeedleHomes full = fourHundred();
        Due.is("end(401)", full.end(401), -1);
        Due.is("end(400)", full.end(400), 400);
    }

    private static void aRefusedEndLeavesAll() {
        Due.promise(3, "NONE if it has not so many");
        int length = Full.TAPE.length();
        Full.refuses("end(8)", -1, x -> x.end(length + 1));
        Full.refuses("end(-1)", -1, x -> x.end(-1));
        Full.refuses("end(min)", -1, x -> x.end(Integer.MIN_VALUE));
        Full.refuses("end(max)", -1, x -> x.end(Integer.MAX_VALUE));
    }
}
