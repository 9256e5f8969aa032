/** An object that has something of everything, and all that calls show of it. */
final class Full {
    /** A call that answers a number. */
    interface Asked {
        long on(NeedleHomes x);
    }

    /** A call that answers true or false. */
    interface Told {
        boolean on(NeedleHomes x);
    }

    static final String TAPE = "c12 d34";
    static final String FAULTY = "a1 k4";
    /** With three PATTERNS, two LISTS, three HANDS and three PIECES, the last number of each is one less. */
    static final int DAY = 15;
    private static String shownAtFirst = "";

    private Full() {
    }

    /** Some seventy calls. Piece 0 and 2 are IN, images 0 and 1 are there, image 2 is not. */
    static NeedleHomes told() {
        NeedleHomes x = new NeedleHomes();
        Due.pattern(x, "a120k1b230k2c340k3d450e7f8", 1, 0xFF);
        Due.pattern(x, "2[a600 k1]", 2, 0xF0F0);
        x.pattern(3, 0xFF00FF);
        x.hand(20, 4, 0);
        x.hand(50, 6, 1);
        x.hand(90, 8, 2);
        x.out(0, 0, 1);
        x.image(0);
        x.day(8);
        Due.list(x, "rate if hay:30;rate if spots>2:8;rate if stitch=1:25;rate:20;thread:9;fine:3;late:4;days:2;part:15;",
                0, 0);
        Due.list(x, "rate:40;part:5;", 1, 1);
        for (int stitch = 0; stitch < 6; stitch++) {
            x.habit(0, stitch, 5 + 10 * stitch);
            x.habit(1, stitch, 90 - 7 * stitch);
        }
        x.hay(0, 1, true);
        x.hay(1, 0, true);
        x.hay(2, 2, true);
        x.advance(1, 70);
        x.advance(2, 9);
        x.time(0, 300);
        x.time(5, 500);
        x.out(0, 0, 0);
        x.out(1, 1, 2);
        x.in(0, 4, 11);
        x.image(1);
        x.day(DAY);
        x.in(2, 1, 2);
        tellOfPieces(x);
        Due.pattern(x, FAULTY, 0, 0);
        Due.feed(x, 0, TAPE);
        return x;
    }

    private static void tellOfPieces(NeedleHomes x) {
        x.write(0, 1, 0, 5);
        x.write(1, 1, 0, 6);
        x.write(0, 1, 1, 7);
        x.write(1, 2, 2, 8);
        for (int stitch = 0; stitch < 6; stitch++) {
            x.look(1, stitch, 10 + stitch, stitch);
        }
        x.look(0, 3, 999, 500);
    }

    /** All that calls show of such an object, in some four hundred calls; nothing of it is as it was behind it. */
    static String shown(NeedleHomes x) {
        StringBuilder all = new StringBuilder();
        showQuestions(all, x);
        showTexts(all, x);
        showHands(all, x);
        showPieces(all, x);
        showWritten(all, x);
        showTape(all, x);
        showImages(all, x);
        return all.toString();
    }

    private static void line(StringBuilder all, String name, long... numbers) {
        all.append(name);
        for (long number : numbers) {
            all.append(' ').append(number);
        }
        all.append('\n');
    }

    private static void showQuestions(StringBuilder all, NeedleHomes x) {
        for (int what = 0; what < 10; what++) {
            line(all, "count " + what, x.count(what));
        }
        line(all, "fault", x.fault(0), x.fault(1));
        line(all, "carried", x.carried(0), x.carried(1), x.carried(2));
        line(all, "stolen", x.stolen(0, 1, 0), x.stolen(0, 2, 0), x.stolen(0, 2, 1), x.stolen(1, 2, 0));
        for (int what = 0; what < 8; what++) {
            line(all, "even " + what, x.even(1, 20, what));
        }
        for (int i = 0; i < 3; i++) {
            line(all, "part " + i, x.part(0, 20, 14, i), x.parted(0, 20, 14, i));
        }
    }

    private static void showTexts(StringBuilder all, NeedleHomes x) {
        for (int pattern = 0; pattern < 4; pattern++) {
            for (int what = 0; what < 5; what++) {
                line(all, "about " + pattern + " " + what, x.about(pattern, what));
            }
        }
        for (int stitch = 0; stitch < 6; stitch++) {
            line(all, "stitches " + stitch, x.stitches(0, stitch, 0), x.stitches(0, stitch, stitch % 4),
                    x.stitches(0, stitch, 3), x.stitches(1, stitch, 0), x.stitches(1, stitch, 1));
        }
        for (int dealer = 0; dealer < 3; dealer++) {
            line(all, "lists " + dealer, x.lists(dealer, 0, 7), x.lists(dealer, 0, DAY), x.lists(dealer, 142, 8),
                    x.lists(dealer, 142, DAY));
        }
    }

    private static void showHands(StringBuilder all, NeedleHomes x) {
        for (int hand = 0; hand < 4; hand++) {
            for (int what = 0; what < 6; what++) {
                line(all, "tell " + hand + " " + what, x.tell(hand, what));
            }
            line(all, "rate " + hand, x.term(0, 0, 0, hand, 0, 0), x.term(0, 0, 0, hand, 1, 0));
        }
        for (int topic = 1; topic < 6; topic++) {
            line(all, "term " + topic, x.term(topic, 0, 1, 1, 0, 0), x.term(topic, 1, 1, 1, 0, 0));
        }
    }

    private static void showPieces(StringBuilder all, NeedleHomes x) {
        for (int piece = 0; piece < 4; piece++) {
            for (int what = 0; what < 9; what++) {
                line(all, "piece " + piece + " " + what, x.piece(piece, what));
            }
            for (int what = 0; what < 5; what++) {
                line(all, "bill " + piece + " " + what, x.bill(piece, 7, what), x.bill(piece, DAY, what));
            }
            line(all, "wronged " + piece, x.wronged(piece, 0), x.wronged(piece, DAY));
            line(all, "unlike " + piece, x.unlike(piece, 0), x.unlike(piece, 1), x.unlike(piece, 2));
            line(all, "who " + piece, x.who(piece, 0), x.who(piece, 1));
            line(all, "differ " + piece, x.differ(piece));
        }
    }

    /** A number that stands in one book alone is seen when the other has it, too. */
    private static void showWritten(StringBuilder all, NeedleHomes x) {
        x.write(1, 1, 1, 7);
        x.write(0, 2, 2, 8);
        line(all, "the same is written", x.differ(1), x.differ(2), x.count(7));
    }

    private static void showTape(StringBuilder all, NeedleHomes x) {
        line(all, "tape", x.end(TAPE.length() + 1), x.end(TAPE.length()), x.pattern(0, 0), x.fault(0));
        int last = x.count(0) - 1;
        line(all, "text", x.stitches(last, 2, 0), x.stitches(last, 3, 0), x.about(last, 2));
    }

    private static void showImages(StringBuilder all, NeedleHomes x) {
        for (int k = 0; k < 3; k++) {
            line(all, "again " + k, x.again(k) ? 1 : 0);
            for (int what = 0; what < 10; what++) {
                line(all, "count " + what, x.count(what));
            }
            line(all, "hand", x.tell(1, 3), x.tell(1, 4), x.tell(1, 5), x.piece(0, 4), x.fault(0), x.fault(1));
        }
    }

    /** Such an object with nothing done to it. */
    static String shownAtFirst() {
        if (shownAtFirst.isEmpty()) {
            shownAtFirst = shown(told());
        }
        return shownAtFirst;
    }

    /** A call that is answered by this number, and leaves all as it was. */
    static void refuses(String call, long want, Asked asked) {
        NeedleHomes x = told();
        Due.is(call, asked.on(x), want);
        Due.same("behind " + call + ", all", shown(x), shownAtFirst());
    }

    /** A call that is answered by false, and leaves all as it was. */
    static void refuses(String call, Told asked) {
        refuses(call, 0, x -> asked.on(x) ? 1 : 0);
    }
}
