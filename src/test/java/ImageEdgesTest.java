/** Promises 34 and 35, sentence by sentence: images and all as they have it. */
public final class ImageEdgesTest {
    private static final int MIN = Integer.MIN_VALUE;
    private static final int MAX = Integer.MAX_VALUE;

    /** Changes something of an object like that of Full. */
    private interface Change {
        void of(NeedleHomes x);
    }

    private static final String[] NAMES = {"feed", "end", "pattern", "a faulty pattern", "list", "a faulty list", "hand",
        "habit", "hay", "no hay", "advance", "out", "in", "write", "look", "time", "day", "all of them"};
    private static final Change[] CHANGES = {
        x -> x.feed(1, 2, 3, 4, 5),
        x -> x.end(3),
        x -> x.pattern(1, 7),
        x -> Due.pattern(x, "!", 0, 0),
        ImageEdgesTest::tellList,
        x -> Due.list(x, "part:101;", 0, 0),
        x -> x.hand(33, 3, 1),
        x -> x.habit(1, 3, 44),
        x -> x.hay(0, 2, true),
        x -> x.hay(1, 0, false),
        x -> x.advance(0, 500),
        x -> x.out(2, 1, 1),
        x -> x.in(1, 9, 30),
        ImageEdgesTest::writeAll,
        x -> x.look(1, 2, 900, 1),
        x -> x.time(2, 111),
        x -> x.day(400),
        ImageEdgesTest::changeAll};

    public static void main(String[] args) {
        imagesHaveBounds();
        aRefusedImageLeavesAll();
        anImageChangesNothing();
        anImageIsAllThatIsTold();
        anImageIsAsItWasThen();
        anImageIsTakenAnew();
        againHasBounds();
        againWithoutAnImageLeavesAll();
        otherImagesStay();
        againAsOftenAsItIsAsked();
        theTapeIsAsItWas();
        theFaultIsAsItWas();
        fewerAreThereAgain();
        moreAreThereAgain();
        othersStandInTheirPlaces();
        anImageOfNothing();
        Due.end();
    }

    private static void tellList(NeedleHomes x) {
        x.end(0);
        Due.list(x, "rate:77;fine:1;days:1;", 0, 0);
    }

    private static void writeAll(NeedleHomes x) {
        for (int what = 0; what < 3; what++) {
            x.write(0, 1, what, 40 + what);
            x.write(1, 2, what, 50 + what);
        }
    }

    private static void changeAll(NeedleHomes x) {
        for (int i = 0; i < CHANGES.length - 1; i++) {
            CHANGES[i].of(x);
        }
    }

    private static void imagesHaveBounds() {
        Due.promise(34, "Image k (0 .. 2) is all that is told");
        NeedleHomes x = new NeedleHomes();
        for (int k = 0; k <= 2; k++) {
            Due.yes("image(" + k + ")", x.image(k));
            Due.yes("again(" + k + ")", x.again(k));
        }
        int[] others = {-1, 3, 4, MIN, MAX};
        for (int k : others) {
            Due.no("image(" + k + ")", x.image(k));
            Due.no("again(" + k + ")", x.again(k));
        }
    }

    private static void aRefusedImageLeavesAll() {
        Due.promise(34, "true; false for another k.");
        int[] others = {-1, 3, 4, MIN, MAX};
        for (int k : others) {
            Full.refuses("image(" + k + ")", x -> x.image(k));
        }
    }

    private static void anImageChangesNothing() {
        Due.promise(34, "as it is now: true");
        NeedleHomes x = Full.told();
        Due.yes("image(0) anew", x.image(0));
        String shown = Full.shown(x);
        int images = Full.shownAtFirst().indexOf("again 0");
        Due.same("all but the images", shown.substring(0, images), Full.shownAtFirst().substring(0, images));
    }

    /** Whatever is told behind an image is gone by it, one by one and all together. */
    private static void anImageIsAllThatIsTold() {
        Due.promise(34, "is all that is told (the tape, the FAULT, too), as it is now");
        Due.promise(35, "All that is as image k has it");
        for (int i = 0; i < CHANGES.length; i++) {
            NeedleHomes x = Full.told();
            Due.yes("image(2)", x.image(2));
            CHANGES[i].of(x);
            Due.yes("again(2) behind " + NAMES[i], x.again(2));
            Due.same(NAMES[i] + " is gone, all", withoutImageTwo(Full.shown(x)), withoutImageTwo(Full.shownAtFirst()));
        }
    }

    private static String withoutImageTwo(String shown) {
        return shown.substring(0, shown.indexOf("again 2"));
    }

    /** The same changes are all seen where there is no image to go back to. */
    private static void anImageIsAsItWasThen() {
        Due.promise(34, "as it is now");
        for (int i = 0; i < CHANGES.length; i++) {
            NeedleHomes x = Full.told();
            CHANGES[i].of(x);
            Due.no(NAMES[i] + " is not seen", Full.shown(x).equals(Full.shownAtFirst()));
            NeedleHomes y = Full.told();
            CHANGES[i].of(y);
            String changed = Full.shown(y);
            NeedleHomes z = Full.told();
            CHANGES[i].of(z);
            z.image(2);
            changeAll(z);
            z.again(2);
            Due.same(NAMES[i] + " is in the image, all", withoutImageTwo(Full.shown(z)), withoutImageTwo(changed));
        }
    }

    private static void anImageIsTakenAnew() {
        Due.promise(34, "Image k (0 .. 2) is all that is told");
        NeedleHomes x = new NeedleHomes();
        x.image(1);
        x.day(5);
        x.hand(1, 1, 1);
        x.image(1);
        x.day(9);
        x.hand(2, 2, 2);
        Due.yes("again(1)", x.again(1));
        Due.is("the day of the later one", x.count(4), 5);
        Due.is("the hands of the later one", x.count(2), 1);
    }

    private static void againHasBounds() {
        Due.promise(35, "true; false if there is none such.");
        int[] others = {-1, 2, 3, 4, MIN, MAX};
        for (int k : others) {
            Full.refuses("again(" + k + ")", x -> x.again(k));
        }
    }

    private static void againWithoutAnImageLeavesAll() {
        Due.promise(35, "false if there is none such.");
        for (int k = 0; k < 3; k++) {
            NeedleHomes x = new NeedleHomes();
            x.image((k + 1) % 3);
            x.day(7);
            Due.no("again(" + k + ")", x.again(k));
            Due.is("count(4)", x.count(4), 7);
            Due.no("again(" + k + ") asked anew", x.again(k));
        }
    }

    private static void otherImagesStay() {
        Due.promise(35, "(other images stay)");
        NeedleHomes x = new NeedleHomes();
        for (int k = 0; k < 3; k++) {
            x.day(10 + k);
            x.hand(10 + k, 1, 0);
            x.advance(0, 1);
            x.image(k);
        }
        int[] order = {0, 2, 1, 2, 0, 1, 1};
        for (int k : order) {
            Due.yes("again(" + k + ")", x.again(k));
            Due.is("its day", x.count(4), 10 + k);
            Due.is("its hands", x.count(2), k + 1);
            Due.is("its debt", x.tell(0, 3), k + 1);
            x.day(100);
            x.advance(0, 100);
            x.hand(1, 1, 1);
        }
        x.again(0);
        x.image(2);
        x.again(1);
        Due.is("image 1 behind image(2)", x.count(4), 11);
        x.again(2);
        Due.is("image 2 is that of image 0", x.count(4), 10);
    }

    private static void againAsOftenAsItIsAsked() {
        Due.promise(35, "All that is as image k has it");
        for (int i = 0; i < CHANGES.length; i++) {
            NeedleHomes x = Full.told();
            x.image(2);
            x.again(2);
            CHANGES[i].of(x);
            Due.yes("again(2) a second time", x.again(2));
            Due.same(NAMES[i] + " did not touch the image, all", withoutImageTwo(Full.shown(x)),
                    withoutImageTwo(Full.shownAtFirst()));
        }
    }

    private static void theTapeIsAsItWas() {
        Due.promise(34, "(the tape, the FAULT, too)");
        NeedleHomes x = new NeedleHomes();
        Due.feed(x, 0, "a12 b34");
        x.image(0);
        Due.is("the tape stays", x.end(7), 7);
        x.end(0);
        x.feed(0x21212121, 0x21212121, 0x21212121, 0x21212121, 0x21212121);
        x.again(0);
        Due.is("no more than it had", x.end(8), -1);
        Due.is("as much as it had", x.end(7), 7);
        Due.is("pattern", x.pattern(0, 0), 0);
        Due.is("a", x.stitches(0, 0, 0), 12);
        Due.is("b", x.stitches(0, 1, 0), 34);
        x.again(0);
        Due.is("the tape is there anew", x.pattern(0, 0), 0);
        Due.is("b", x.stitches(0, 1, 0), 34);
        NeedleHomes full = new NeedleHomes();
        for (int fed = 1; fed <= 20; fed++) {
            full.feed(0x20202020, 0x20202020, 0x20202020, 0x20202020, fed == 20 ? Due.four("  c5", 0) : 0x20202020);
        }
        full.image(2);
        full.pattern(0, 0);
        full.again(2);
        Due.is("a full tape is full again", full.feed(0, 0, 0, 0, 0), -1);
        Due.is("end(400)", full.end(400), 400);
        Due.is("pattern", full.pattern(0, 0), 0);
        Due.is("c", full.stitches(0, 2, 0), 5);
    }

    private static void theFaultIsAsItWas() {
        Due.promise(34, "(the tape, the FAULT, too)");
        NeedleHomes x = new NeedleHomes();
        x.image(0);
        Due.badPatternIn(x, "a1 !", 1, 3);
        x.image(1);
        Due.badListIn(x, "part:101;", 2, 5);
        x.image(2);
        int[][] wanted = {{0, -1}, {1, 3}, {2, 5}};
        int[] order = {1, 0, 2, 1};
        for (int k : order) {
            x.again(k);
            Due.is("fault(0) of image " + k, x.fault(0), wanted[k][0]);
            Due.is("fault(1) of image " + k, x.fault(1), wanted[k][1]);
        }
    }

    private static NeedleHomes most(NeedleHomes x) {
        for (int i = 0; i < 12; i++) {
            x.pattern(0, 5);
            x.list(1, 1);
            x.hand(9, 9, 2);
        }
        for (int i = 0; i < 60; i++) {
            x.out(2, 0, 0);
        }
        return x;
    }

    private static void fewerAreThereAgain() {
        Due.promise(35, "All that is as image k has it");
        NeedleHomes x = new NeedleHomes();
        x.image(0);
        most(x);
        x.again(0);
        for (int what = 0; what < 10; what++) {
            Due.is("count(" + what + ")", x.count(what), 0);
        }
        Due.is("about(0, 0)", x.about(0, 0), -2);
        Due.is("lists(1, 1, 0)", x.lists(1, 1, 0), -1);
        Due.is("tell(0, 0)", x.tell(0, 0), -2);
        Due.is("piece(0, 0)", x.piece(0, 0), -2);
        Due.is("pattern", x.pattern(1, 1), 0);
        Due.is("list", x.list(0, 0), 0);
        Due.is("hand", x.hand(1, 1, 0), 0);
        Due.is("out", x.out(0, 0, 0), 0);
        Due.is("its ground", x.about(0, 0), 1);
        Due.is("its list", x.lists(0, 0, 0), 0);
        Due.is("its skill", x.tell(0, 0), 1);
        Due.is("its dealer", x.piece(0, 0), 0);
    }

    private static void moreAreThereAgain() {
        Due.promise(35, "All that is as image k has it");
        NeedleHomes x = new NeedleHomes();
        x.image(0);
        most(x).image(1);
        x.again(0);
        x.again(1);
        Due.is("count(0)", x.count(0), 8);
        Due.is("count(1)", x.count(1), 10);
        Due.is("count(2)", x.count(2), 12);
        Due.is("count(3)", x.count(3), 60);
        Due.is("about(7, 1)", x.about(7, 1), 5);
        Due.is("lists(1, 1, 0)", x.lists(1, 1, 0), 9);
        Due.is("tell(11, 2)", x.tell(11, 2), 2);
        Due.is("piece(59, 0)", x.piece(59, 0), 2);
        Due.is("a ninth pattern", x.pattern(0, 0), -2);
        Due.is("an eleventh list", x.list(0, 0), -2);
        Due.is("a thirteenth hand", x.hand(1, 1, 0), -1);
        Due.is("a sixty-first piece", x.out(0, 0, 0), -1);
    }

    /** All places are full with one kind, then with another; kind is 1 or 2. */
    private static void fill(NeedleHomes x, int kind) {
        for (int i = 0; i < 8; i++) {
            x.pattern(kind, 10 * kind + i);
        }
        for (int i = 0; i < 10; i++) {
            x.list(kind, 10 * kind + i);
        }
        for (int i = 0; i < 12; i++) {
            x.hand(20 * kind + i, 3 * kind, kind);
        }
        x.day(kind);
        for (int i = 0; i < 60; i++) {
            x.out(kind, (i + kind) % 8, (i + kind) % 12);
        }
    }

    private static void showsFill(NeedleHomes x, int kind) {
        for (int i = 0; i < 8; i++) {
            Due.is("ground of " + i, x.about(i, 0), kind);
            Due.is("marks of " + i, x.about(i, 1), 10 * kind + i);
        }
        for (int i = 0; i < 10; i++) {
            Due.is("list of " + i, x.lists(kind, 10 * kind + i, 0), i);
            Due.is("list of another dealer", x.lists(3 - kind, 142, 0), -1);
        }
        for (int i = 0; i < 12; i++) {
            Due.is("skill of " + i, x.tell(i, 0), 20 * kind + i);
            Due.is("hours of " + i, x.tell(i, 1), 3 * kind);
            Due.is("carrier of " + i, x.tell(i, 2), kind);
        }
        int[] some = {0, 1, 30, 58, 59};
        for (int i : some) {
            Due.is("dealer of " + i, x.piece(i, 0), kind);
            Due.is("pattern of " + i, x.piece(i, 1), (i + kind) % 8);
            Due.is("hand of " + i, x.piece(i, 2), (i + kind) % 12);
            Due.is("day of " + i, x.piece(i, 3), kind);
        }
    }

    private static void othersStandInTheirPlaces() {
        Due.promise(35, "All that is as image k has it");
        NeedleHomes x = new NeedleHomes();
        x.image(0);
        fill(x, 1);
        x.image(1);
        x.again(0);
        fill(x, 2);
        x.image(2);
        showsFill(x, 2);
        x.again(1);
        showsFill(x, 1);
        x.again(2);
        showsFill(x, 2);
    }

    private static void anImageOfNothing() {
        Due.promise(35, "All that is as image k has it");
        NeedleHomes x = new NeedleHomes();
        Due.yes("image(2) of nothing", x.image(2));
        x.time(0, 9999);
        x.pattern(0, 0);
        x.hand(1, 1, 0);
        x.hay(0, 0, true);
        x.habit(0, 0, 9);
        x.advance(0, 9);
        x.out(0, 0, 0);
        x.write(0, 0, 0, 1);
        x.look(0, 0, 5, 5);
        Due.yes("again(2)", x.again(2));
        Due.is("even(0, 0, 1)", x.even(0, 0, 1), 0);
        x.pattern(0, 0);
        x.hand(1, 1, 0);
        x.out(0, 0, 0);
        Due.is("no debt", x.tell(0, 3), 0);
        Due.is("nothing was looked at", x.who(0, 0), -1);
        x.write(1, 0, 0, 2);
        Due.is("nothing was written", x.differ(0), 0);
        x.look(0, 0, 1, 0);
        Due.is("habit 50", x.unlike(0, 0), 50);
        Due.list(x, "fine if hay:1;", 0, 0);
        Due.is("no hay", x.term(2, 0, 0, 0, 0, 0), 0);
    }
}
