import java.lang.management.ManagementFactory;

/** What the dearest calls make: 512 of each must stay far below the room that a run has. */
public final class RoomTest {
    /** 7.3 million fields and elements of four bytes or so are the whole room; a run may have a tenth of it. */
    private static final long BYTES_MOST = 3000000;

    public static void main(String[] args) {
        stays("images", 0);
        stays("patterns", 1);
        stays("lists", 2);
        stays("pieces", 3);
        stays("questions", 4);
        Due.end();
    }

    private static long allocated() {
        return ((com.sun.management.ThreadMXBean) ManagementFactory.getThreadMXBean())
                .getThreadAllocatedBytes(Thread.currentThread().getId());
    }

    private static void stays(String what, int kind) {
        run(kind);
        long before = allocated();
        run(kind);
        long bytes = allocated() - before;
        Due.yes("512 calls for " + what + " made " + bytes + " bytes", bytes < BYTES_MOST);
        System.out.println(what + ": " + bytes + " bytes");
    }

    private static void run(int kind) {
        NeedleHomes x = new NeedleHomes();
        x.pattern(0, 0);
        for (int i = 0; i < 12; i++) {
            x.hand(10 + i, 5, 0);
        }
        x.image(0);
        for (int i = 0; i < 60; i++) {
            x.out(0, 0, i % 12);
        }
        x.look(0, 0, 5, 5);
        x.image(1);
        int calls = 76;
        for (int call = 0; calls <= 510; call++) {
            calls += switch (kind) {
                case 0 -> imageOrAgain(x, call);
                case 1 -> 1 + onceMore(x, call, x.pattern(0, 0));
                case 2 -> tellLongList(x, call);
                case 3 -> 1 + onceMore(x, call, x.out(0, 0, 0));
                default -> ask(x, call);
            };
        }
    }

    /** Each of these answers how many calls it made. */
    private static int imageOrAgain(NeedleHomes x, int call) {
        if (call % 2 == 0) {
            x.image(call % 3);
        } else {
            x.again(call % 3);
        }
        return 1;
    }

    private static int onceMore(NeedleHomes x, int call, int answer) {
        if (answer < 0 || call % 7 == 6) {
            x.again(0);
            return 1;
        }
        return 0;
    }

    private static int tellLongList(NeedleHomes x, int call) {
        int line = Due.four("rate", 0);
        if (call % 5 < 4) {
            x.feed(line, Due.four(":10;", 0), line, Due.four(":10;", 0), 0x20202020);
            return 1;
        }
        return 1 + onceMore(x, call / 5, x.list(0, 0));
    }

    private static int ask(NeedleHomes x, int call) {
        switch (call % 8) {
            case 0 -> x.even(0, 3, 1);
            case 1 -> x.part(0, 40, 60, 2);
            case 2 -> x.parted(0, 40, 60, 2);
            case 3 -> x.bill(call % 60, 0, 1);
            case 4 -> x.in(call % 60, 3, 0);
            case 5 -> x.who(0, 1);
            case 6 -> x.wronged(call % 60, 0);
            default -> x.count(7);
        }
        return 1;
    }
}
