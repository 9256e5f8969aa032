/** Promises 33 to 35: counts, images, and all as an image has it. */
public final class ImageTest {
    public static void main(String[] args) {
        counts();
        keepsAll();
        keepsImagesApart();
        imagesANewObject();
        Due.end();
    }

    private static void counts() {
        NeedleHomes x = full();
        int[] wanted = {2, 2, 3, 3, 8, 1, 2, 1, 11 + 5, 45, -1};
        for (int what = 0; what < wanted.length; what++) {
            Due.is("count(" + what + ")", x.count(what), wanted[what]);
        }
        Due.is("count(-1)", x.count(-1), -1);
    }

    /** One of each, with a fault and something on the tape. */
    private static NeedleHomes full() {
        NeedleHomes x = new NeedleHomes();
        Due.goodPattern(x, "a1000", 1, 0xFF, 0);
        Due.goodPattern(x, "k1 b2000", 2, 0xFF00, 1);
        Due.goodList(x, "part:10;", 0, 0, 0);
        x.hand(10, 2, 0);
        x.hand(20, 3, 1);
        x.hand(30, 4, 2);
        x.advance(1, 50);
        x.advance(2, 5);
        x.habit(0, 0, 80);
        x.hay(0, 1, true);
        x.time(3, 400);
        x.out(0, 0, 1);
        x.out(1, 1, 2);
        x.out(2, 0, 1);
        x.advance(1, 6);
        Due.is("in(0, 2, 3)", x.in(0, 2, 3), 45);
        x.write(0, 1, 0, 4);
        x.write(1, 1, 0, 5);
        x.write(0, 1, 2, 6);
        x.look(1, 0, 10, 8);
        x.day(8);
        Due.goodList(x, "rate:99;", 1, 1, 1);
        Due.badPatternIn(x, "a1 k4", 2, 4);
        Due.feed(x, 0, "c12 d34");
        return x;
    }

    /** Asks for all that can be asked without changing anything; an object has 512 calls, so each asks but once. */
    private static String ask(NeedleHomes x) {
        StringBuilder all = new StringBuilder();
        for (int what = 0; what < 10; what++) {
            all.append(x.count(what)).append(' ').append(x.fault(what)).append(' ').append(x.carried(what)).append('\n');
            for (int i = 0; i < 4; i++) {
                all.append(x.about(i, what)).append(' ').append(x.tell(i, what)).append(' ').append(x.piece(i, what));
                all.append(' ').append(x.bill(i, 8, what)).append('\n');
            }
        }
        for (int i = 0; i < 4; i++) {
            all.append(x.stitches(0, i, 0)).append(' ').append(x.stitches(1, i, 1)).append(' ').append(x.differ(i));
            all.append(' ').append(x.wronged(i, 0)).append(' ').append(x.wronged(i, 8)).append(' ');
            all.append(x.lists(i, 0, 0)).append(' ').append(x.lists(i, 1, 8)).append(' ').append(x.part(0, 3, 10, i));
            for (int hand = 0; hand < 4; hand++) {
                all.append(' ').append(x.unlike(i, hand)).append(' ').append(x.parted(0, 3, 10, hand));
            }
            all.append(' ').append(x.stolen(0, i, 0)).append(' ').append(x.term(0, 1, i, 0, 0, 0));
            all.append(' ').append(x.who(1, i)).append(' ').append(x.even(1, 3, i)).append('\n');
        }
        return all.toString();
    }

    private static void changeAll(NeedleHomes x) {
        x.end(0);
        Due.goodPattern(x, "f77", 3, 0xFFF, 2);
        Due.goodList(x, "rate:5;fine:9;late:8;days:0;part:50;", 0, 0, 2);
        x.hand(40, 5, 0);
        x.habit(0, 0, 11);
        x.habit(1, 0, 80);
        x.hay(0, 1, false);
        x.hay(1, 1, true);
        x.advance(0, 7);
        x.time(3, 500);
        x.out(0, 1, 1);
        x.in(1, 1, 1);
        x.in(2, 1, 1);
        x.write(1, 1, 0, 4);
        x.write(0, 0, 1, 1);
        x.write(1, 0, 1, 2);
        x.look(1, 0, 20, 1);
        x.look(0, 0, 20, 1);
        x.day(99);
        Due.badPatternIn(x, ";", 1, 0);
        x.feed(1, 2, 3, 4, 5);
    }

    private static void keepsAll() {
        String before = ask(full());
        NeedleHomes x = full();
        changeAll(x);
        String changed = ask(x);
        Due.no("all is changed", before.equals(changed));

        x = full();
        Due.yes("image(0)", x.image(0));
        Due.yes("nothing is changed by it", before.equals(ask(x)));

        x = full();
        x.image(0);
        changeAll(x);
        Due.yes("again(0)", x.again(0));
        tapeIsAsItWas(x);
        Due.yes("all is as it was", before.equals(ask(x)));

        x = full();
        x.image(0);
        changeAll(x);
        Due.yes("image(1)", x.image(1));
        x.again(0);
        changeAll(x);
        x.again(0);
        tapeIsAsItWas(x);
        Due.yes("all is as it was, anew", before.equals(ask(x)));

        x = full();
        x.image(0);
        changeAll(x);
        x.image(1);
        x.again(0);
        Due.yes("again(1)", x.again(1));
        Due.is("its tape", x.end(20), 20);
        Due.yes("all is as it was changed", changed.equals(ask(x)));
    }

    private static void tapeIsAsItWas(NeedleHomes x) {
        Due.is("end(8)", x.end(8), -1);
        Due.is("end(7)", x.end(7), 7);
        Due.is("pattern", x.pattern(0, 0), 2);
        Due.is("c", x.stitches(2, 2, 0), 12);
        Due.is("d", x.stitches(2, 3, 0), 34);
        Due.yes("again(0)", x.again(0));
    }

    private static void keepsImagesApart() {
        NeedleHomes x = new NeedleHomes();
        Due.no("image(-1)", x.image(-1));
        Due.no("image(3)", x.image(3));
        Due.no("again(-1)", x.again(-1));
        Due.no("again(3)", x.again(3));
        for (int k = 0; k < 3; k++) {
            x.day(10 * k + 1);
            Due.no("again(" + k + ")", x.again(k));
            Due.yes("image(" + k + ")", x.image(k));
        }
        int[] order = {2, 0, 1, 1, 2, 0};
        for (int k : order) {
            Due.yes("again(" + k + ")", x.again(k));
            Due.is("count(4)", x.count(4), 10 * k + 1);
            x.day(500);
        }
        Due.yes("image(1) anew", x.image(1));
        x.again(0);
        Due.is("image 0 stays", x.count(4), 1);
        x.again(1);
        Due.is("image 1 is new", x.count(4), 500);
        x.again(2);
        Due.is("image 2 stays", x.count(4), 21);
    }

    private static void imagesANewObject() {
        String before = ask(new NeedleHomes());
        NeedleHomes x = new NeedleHomes();
        Due.yes("image(2)", x.image(2));
        Due.goodPattern(x, "a1", 0, 0, 0);
        x.hand(1, 1, 0);
        x.out(0, 0, 0);
        Due.yes("again(2)", x.again(2));
        Due.yes("nothing is there", before.equals(ask(x)));
        x.again(2);
        Due.is("hand", x.hand(7, 7, 2), 0);
        Due.is("its debt", x.tell(0, 3), 0);
        Due.is("its skill", x.tell(0, 0), 7);
        Due.goodPattern(x, "b5", 0, 0, 0);
        Due.is("out", x.out(2, 0, 0), 0);
        Due.is("its dealer", x.piece(0, 0), 2);
        Due.is("of a", x.stitches(0, 0, 0), 0);
        Due.is("of b", x.stitches(0, 1, 0), 5);
    }
}
