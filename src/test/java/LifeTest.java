/** An object is good for 512 calls, and the last of them is answered as the first. */
public final class LifeTest {
    private static final int CALLS = 512;
    private static final int BLANKS = 0x20202020;

    public static void main(String[] args) {
        Due.words("An object is used for at most 512 calls after it has been made");
        advancesToTheLast();
        tapesToTheLast();
        textsToTheLast();
        imagesToTheLast();
        piecesToTheLast();
        questionsToTheLast();
        Due.words("nothing about an object after its 512th call.");
        endsAllTheSameBehindTheLast();
        Due.end();
    }

    private static void advancesToTheLast() {
        NeedleHomes x = new NeedleHomes();
        x.hand(1, 1, 0);
        for (int call = 2; call <= CALLS; call++) {
            Due.is("call " + call, x.advance(0, 100000), 100000L * (call - 1));
        }
    }

    private static void tapesToTheLast() {
        NeedleHomes x = new NeedleHomes();
        for (int call = 1; call <= CALLS; call++) {
            int round = call % 22;
            if (round == 0) {
                Due.is("call " + call, x.end(0), 0);
            } else if (round == 21) {
                Due.is("call " + call, x.feed(call, call, call, call, call), -1);
            } else {
                Due.is("call " + call, x.feed(call, call, call, call, call), 20 * round);
            }
        }
    }

    /** The first eight texts are kept, then each is refused; a faulty one is told as the last. */
    private static void textsToTheLast() {
        NeedleHomes x = new NeedleHomes();
        for (int i = 0; i < 127; i++) {
            x.feed(Due.four("a7a7", 0), BLANKS, BLANKS, BLANKS, BLANKS);
            x.end(4);
            Due.is("text " + i, i % 2 == 0 ? x.pattern(0, 0) : x.list(0, 0), i % 2 == 1 ? -1 : i < 16 ? i / 2 : -2);
            Due.is("its fault", x.fault(0), i % 2);
        }
        x.feed(Due.four("fine", 0), Due.four(":10;", 0), BLANKS, BLANKS, BLANKS);
        x.hand(1, 1, 0);
        Due.is("call 511", x.list(0, 0), 0);
        Due.is("call 512", x.term(2, 0, 7, 0, 0, 0), 10);
    }

    private static void imagesToTheLast() {
        NeedleHomes x = new NeedleHomes();
        x.hand(1, 1, 0);
        x.image(0);
        for (int i = 0; i < 127; i++) {
            x.advance(0, 5);
            Due.yes("again", x.again(0));
            x.advance(0, 1);
            Due.yes("image", x.image(0));
        }
        Due.yes("call 511", x.again(0));
        Due.is("call 512", x.tell(0, 3), 127);
    }

    private static void piecesToTheLast() {
        NeedleHomes x = new NeedleHomes();
        x.feed(Due.four("a100", 0), Due.four("0   ", 0), BLANKS, BLANKS, BLANKS);
        x.pattern(0, 0);
        for (int i = 0; i < 12; i++) {
            x.hand(10, 1, 0);
        }
        for (int i = 0; i < 60; i++) {
            x.out(0, 0, i % 12);
            x.write(0, i, 0, 1);
            x.write(1, i, 0, 2);
            x.look(i, 0, 10, 10);
            x.in(i, 0, 0);
            x.day(i);
            x.who(i, 0);
            Due.is("net with " + (i + 1), x.count(9), 100 * (i + 1));
        }
        for (int i = 0; i < 16; i++) {
            Due.is("a sixty-first", x.out(0, 0, 0), -1);
        }
        Due.is("call 511", x.count(7), 60);
        Due.is("call 512", x.tell(11, 4), 500);
    }

    private static void questionsToTheLast() {
        NeedleHomes x = new NeedleHomes();
        x.pattern(0, 0xFFF);
        x.pattern(0, 0xFFF);
        for (int i = 0; i < 12; i++) {
            x.hand(1 + i, 1, 0);
        }
        for (int i = 0; i < 166; i++) {
            Due.is("part", x.part(0, 40, 4, 2), 1023);
            Due.is("even", x.even(0, i % 100, 0), 100 - i % 100);
            Due.is("stolen", x.stolen(0, 1, 1), 1);
        }
    }

    /** What they answer is free, but a call may never throw, nor fail to end. */
    private static void endsAllTheSameBehindTheLast() {
        NeedleHomes x = Full.told();
        for (int i = 0; i < 5000; i++) {
            x.feed(i, i, i, i, i);
            x.pattern(i % 5, i);
            x.list(i % 4, i % 150);
            x.hand(i % 210, i % 14, i % 4);
            x.advance(i % 13, 100000);
            x.out(i % 4, i % 9, i % 13);
            x.in(i % 61, i % 101, i % 50);
            x.image(i % 4);
            x.again((i + 1) % 4);
            x.day(i % 1001);
        }
        Due.yes("an answer came", x.count(3) >= 0 || x.count(3) < 0);
    }
}
