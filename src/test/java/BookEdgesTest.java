/** Promises 23 and 24 and what the third paragraph of terms says of books, sentence by sentence. */
public final class BookEdgesTest {
    private static final int MIN = Integer.MIN_VALUE;
    private static final int MAX = Integer.MAX_VALUE;

    public static void main(String[] args) {
        bothBooksAreWritten();
        numbersHaveBounds();
        toldAnewItIsThat();
        writeOfNoneIsRefused();
        aRefusedNumberLeavesTheOldOne();
        nothingWrittenDoesNotDiffer();
        oneBookAloneDoesNotDiffer();
        differencesAreBits();
        differOfNoneIsNone();
        piecesThatDifferAreCounted();
        Due.end();
    }

    private static NeedleHomes pieces(int many) {
        NeedleHomes x = new NeedleHomes();
        x.pattern(0, 0);
        x.hand(1, 1, 0);
        for (int i = 0; i < many; i++) {
            x.out(0, 0, 0);
        }
        return x;
    }

    private static void bothBooksAreWritten() {
        Due.promise(23, "It is written in a BOOK: true");
        Due.terms(3, "BOOKS, 0 of the DEALER, 1 of the CARRIER: of a PIECE what 0: the DAY on which it came, 1: spots, "
                + "2: metres BACK");
        NeedleHomes x = pieces(60);
        for (int what = 0; what < 3; what++) {
            Due.yes("book 0, what " + what, x.write(0, 59, what, 3));
            Due.yes("book 1, what " + what, x.write(1, 59, what, 4));
        }
        Due.is("differ(59)", x.differ(59), 7);
        Due.is("differ(58)", x.differ(58), 0);
        x.in(59, 0, 0);
        Due.yes("of one that is in", x.write(1, 59, 0, 3));
        Due.is("differ(59)", x.differ(59), 6);
    }

    private static void numbersHaveBounds() {
        Due.promise(23, "or another number (0 .. 9999).");
        int[] taken = {0, 1, 9998, 9999};
        for (int number : taken) {
            NeedleHomes x = pieces(1);
            Due.yes("dealer writes " + number, x.write(0, 0, 1, number));
            Due.yes("carrier writes " + number, x.write(1, 0, 1, number));
            Due.is("the same", x.differ(0), 0);
            Due.yes("carrier writes another", x.write(1, 0, 1, number == 9999 ? 9998 : number + 1));
            Due.is("not the same", x.differ(0), 2);
        }
        int[] others = {-1, -2, 10000, 10001, MIN, MAX};
        for (int number : others) {
            NeedleHomes x = pieces(1);
            x.write(0, 0, 1, 7);
            Due.no("carrier writes " + number, x.write(1, 0, 1, number));
            Due.is("nothing is written", x.differ(0), 0);
        }
    }

    private static void toldAnewItIsThat() {
        Due.terms(3, "as it is written (told anew it is that)");
        for (int book = 0; book < 2; book++) {
            NeedleHomes x = pieces(1);
            x.write(book, 0, 2, 5);
            x.write(1 - book, 0, 2, 6);
            Due.is("5 and 6", x.differ(0), 4);
            Due.yes("6 anew", x.write(book, 0, 2, 6));
            Due.is("6 and 6", x.differ(0), 0);
            Due.yes("0 anew", x.write(book, 0, 2, 0));
            Due.is("0 and 6", x.differ(0), 4);
        }
    }

    private static void writeOfNoneIsRefused() {
        Due.promise(23, "false: there is none such (of any)");
        int[][] others = {{-1, 0, 0, 1}, {2, 0, 0, 1}, {MIN, 0, 0, 1}, {MAX, 0, 0, 1}, {0, -1, 0, 1}, {0, 3, 0, 1},
            {0, 60, 0, 1}, {0, MIN, 0, 1}, {0, MAX, 0, 1}, {0, 0, -1, 1}, {0, 0, 3, 1}, {0, 0, MIN, 1}, {0, 0, MAX, 1},
            {0, 1, 1, -1}, {0, 1, 1, 10000}, {1, 2, 2, MIN}, {1, 2, 2, MAX}, {1, 1, -1, 9}, {1, 1, 3, 9}, {-1, 1, 2, 9}};
        for (int[] o : others) {
            Full.refuses("write " + java.util.Arrays.toString(o), x -> x.write(o[0], o[1], o[2], o[3]));
        }
        Due.no("write of a new object", new NeedleHomes().write(0, 0, 0, 0));
        Due.no("write of piece 60", pieces(60).write(0, 60, 0, 0));
    }

    private static void aRefusedNumberLeavesTheOldOne() {
        Due.promise(23, "or another number (0 .. 9999).");
        int[] others = {-1, 10000, MIN, MAX};
        for (int number : others) {
            NeedleHomes x = pieces(1);
            x.write(0, 0, 0, 7);
            Due.no("write " + number, x.write(0, 0, 0, number));
            x.write(1, 0, 0, 7);
            Due.is("7 stays", x.differ(0), 0);
        }
    }

    private static void nothingWrittenDoesNotDiffer() {
        Due.promise(24, "In what the BOOKS DIFFER of a PIECE, as bits");
        NeedleHomes x = pieces(60);
        Due.is("differ(0)", x.differ(0), 0);
        Due.is("differ(59)", x.differ(59), 0);
        Due.is("count(7)", x.count(7), 0);
    }

    private static void oneBookAloneDoesNotDiffer() {
        Due.terms(3, "They DIFFER in a what, if both have it and it is not the same.");
        for (int book = 0; book < 2; book++) {
            for (int what = 0; what < 3; what++) {
                NeedleHomes x = pieces(1);
                x.write(book, 0, what, 9);
                Due.is("book " + book + " alone", x.differ(0), 0);
                x.write(1 - book, 0, (what + 1) % 3, 8);
                Due.is("the other has another what", x.differ(0), 0);
                x.write(1 - book, 0, what, 9);
                Due.is("both the same", x.differ(0), 0);
                x.write(1 - book, 0, what, 0);
                Due.is("not the same", x.differ(0), 1 << what);
            }
        }
    }

    private static void differencesAreBits() {
        Due.promise(24, "as bits");
        for (int bits = 0; bits < 8; bits++) {
            NeedleHomes x = pieces(1);
            for (int what = 0; what < 3; what++) {
                x.write(0, 0, what, 10 + what);
                x.write(1, 0, what, 10 + what + (bits >> what & 1));
            }
            Due.is("bits " + bits, x.differ(0), bits);
            Due.is("count(7)", x.count(7), bits == 0 ? 0 : 1);
        }
    }

    private static void differOfNoneIsNone() {
        Due.promise(24, "NONE: there is none such.");
        int[] others = {-1, 3, 60, MIN, MAX};
        for (int piece : others) {
            Full.refuses("differ(" + piece + ")", -1, x -> x.differ(piece));
        }
        Due.is("differ of a new object", new NeedleHomes().differ(0), -1);
        Due.is("differ(60)", pieces(60).differ(60), -1);
    }

    private static void piecesThatDifferAreCounted() {
        Due.promise(33, "7 PIECES of which the BOOKS DIFFER");
        NeedleHomes x = pieces(60);
        for (int piece = 0; piece < 60; piece++) {
            x.write(0, piece, piece % 3, 1);
            x.write(1, piece, piece % 3, 2);
            Due.is("with " + (piece + 1), x.count(7), piece + 1);
        }
        x.write(0, 0, 0, 2);
        Due.is("one less", x.count(7), 59);
    }
}
