import java.util.Random;

/** Random runs of calls: the class must answer as the document written down a second time does. */
public final class ModelTest {
    private static final int RUNS = 3000;
    private static final int CALLS = 512;
    private static final int[] ODD = {-1, -2, 6, 12, 60, 100, 143, 1000, Integer.MIN_VALUE, Integer.MAX_VALUE};

    private final Random random;
    private final NeedleHomes x = new NeedleHomes();
    private final Model model = new Model();
    private int calls = 0;
    private int day = 0;

    private ModelTest(int seed) {
        random = new Random(seed);
    }

    public static void main(String[] args) {
        for (int seed = 0; seed < RUNS; seed++) {
            new ModelTest(seed).run("run " + seed + ": ");
        }
        Due.end();
    }

    private int below(int n) {
        return random.nextInt(n);
    }

    /** A number below n, or now and then one that is not. */
    private int some(int n) {
        int kind = below(40);
        return kind == 0 ? ODD[below(ODD.length)] : kind == 1 ? n : below(n);
    }

    private int from(int least, int most) {
        int kind = below(40);
        return kind == 0 ? least - 1 : kind == 1 ? most + 1 : least + below(most - least + 1);
    }

    private void same(String call, long got, long want) {
        calls++;
        Due.is(call, got, want);
    }

    private void same(String call, boolean got, boolean want) {
        same(call, got ? 1 : 0, want ? 1 : 0);
    }

    private void run(String of) {
        for (int i = 0; i < 3; i++) {
            tellPattern(of);
            tellHand(of);
        }
        boolean many = below(3) == 0;
        while (calls < CALLS - 25) {
            switch (below(many ? 12 : 8)) {
                case 0 -> tell(of);
                case 1, 2 -> askOfTexts(of);
                case 3 -> tellOfHand(of);
                case 4, 5 -> tellOfPiece(of);
                case 6 -> askOfAll(of);
                case 7 -> askOfPiece(of);
                default -> tellOfPiece(of);
            }
        }
    }

    private void tell(String of) {
        switch (below(9)) {
            case 0, 1 -> tellPattern(of);
            case 2, 3, 4 -> tellList(of);
            case 5 -> tellHand(of);
            case 6 -> {
                int to = below(30) == 0 ? some(1000) : day + below(8);
                same(of + "day " + to, x.day(to), model.day(to));
                day = model.count(4);
            }
            case 7 -> {
                int k = some(3);
                same(of + "image " + k, x.image(k), model.image(k));
            }
            default -> {
                int k = some(3);
                same(of + "again " + k, x.again(k), model.again(k));
                day = model.count(4);
            }
        }
    }

    private void feed(String of, String text) {
        for (int at = 0; at < text.length(); at += 20) {
            int[] n = new int[5];
            for (int i = 0; i < 5; i++) {
                n[i] = Due.four(text, at + 4 * i);
            }
            same(of + "feed", x.feed(n[0], n[1], n[2], n[3], n[4]), model.feed(n));
        }
        same(of + "end of " + text, x.end(text.length()), model.end(text.length()));
    }

    private void tellPattern(String of) {
        if (below(20) == 0) {
            same(of + "feed", x.feed(7, 7, 7, 7, 7), model.feed(7, 7, 7, 7, 7));
            int n = some(21);
            same(of + "end", x.end(n), model.end(n));
        }
        String text = spoil(items(0, 1 + below(4)));
        if (text.length() <= 120) {
            feed(of, text);
        }
        int ground = some(4);
        int marks = below(30) == 0 ? 1 << 24 : random.nextInt() & random.nextInt() & 0xFFFFFF;
        same(of + "pattern " + text, x.pattern(ground, marks), model.pattern(ground, marks));
        askFault(of);
    }

    private void askFault(String of) {
        int what = some(2);
        same(of + "fault " + what, x.fault(what), model.fault(what));
    }

    private String blank() {
        return below(3) == 0 ? below(2) == 0 ? " " : "\n" : "";
    }

    private String number() {
        int kind = below(12);
        return Integer.toString(kind == 0 ? below(12000) : kind < 5 ? below(100) : below(8));
    }

    private String items(int depth, int many) {
        StringBuilder text = new StringBuilder();
        for (int i = 0; i < many; i++) {
            int kind = below(10);
            if (kind < 2) {
                text.append('k').append(blank()).append(below(60) == 0 ? below(9) : below(4));
            } else if (kind < 5 && depth < 8) {
                text.append(below(60) == 0 ? "0" : Integer.toString(1 + below(below(4) == 0 ? 60 : 3))).append(blank());
                text.append('[').append(items(depth + 1, 1 + below(3))).append(']');
            } else {
                text.append((char) ('a' + below(6))).append(blank()).append(number());
            }
            text.append(blank());
        }
        return text.toString();
    }

    /** Now and then a sign is lost, doubled or another one. */
    private String spoil(String text) {
        if (text.isEmpty() || below(4) != 0) {
            return text;
        }
        int at = below(text.length());
        String signs = "abk[]:;<>=0129 \nz(" + (char) 200;
        return switch (below(4)) {
            case 0 -> text.substring(0, at) + text.substring(at + 1);
            case 1 -> text.substring(0, at) + signs.charAt(below(signs.length())) + text.substring(at);
            case 2 -> text.substring(0, at) + signs.charAt(below(signs.length())) + text.substring(at + 1);
            default -> text.substring(0, at);
        };
    }

    private void tellList(String of) {
        StringBuilder text = new StringBuilder();
        int lines = below(25) == 0 ? 14 + below(6) : 1 + below(6);
        for (int i = 0; i < lines; i++) {
            text.append(line(lines > 8));
        }
        String spoiled = spoil(text.toString());
        if (spoiled.length() <= 200) {
            feed(of, spoiled);
        }
        int dealer = some(2);
        int week = below(10) == 0 ? some(143) : Math.min(142, day / 7 + below(2));
        same(of + "list " + spoiled, x.list(dealer, week), model.list(dealer, week));
        askFault(of);
    }

    private String line(boolean isShort) {
        String[] topics = {"rate", "rate", "rate", "thread", "fine", "late", "days", "part"};
        String topic = topics[below(topics.length)];
        StringBuilder text = new StringBuilder(topic).append(blank());
        int tests = isShort ? 0 : below(30) == 0 ? 3 + below(4) : below(3);
        for (int i = 0; i < tests; i++) {
            text.append(i == 0 ? " if " : " and ").append(below(3) == 0 ? "not " : "").append(test());
        }
        int number = topic.equals("part") ? below(40) == 0 ? 101 : below(101)
                : topic.equals("rate") ? below(below(5) == 0 ? 10000 : 60) : below(12);
        return text.append(':').append(blank()).append(number).append(blank()).append(';').append(blank()).toString();
    }

    private String test() {
        String[] asked = {"stitch", "colour", "ground", "size", "skill", "spots", "week"};
        int[] most = {7, 5, 5, 30, 210, 12, 12};
        int which = below(8);
        return which == 7 ? "hay" : asked[which] + blank() + "<>=".charAt(below(3)) + blank() + below(most[which]);
    }

    private void tellHand(String of) {
        int skill = from(1, 200);
        int hours = from(1, 12);
        int carrier = some(3);
        same(of + "hand", x.hand(skill, hours, carrier), model.hand(skill, hours, carrier));
    }

    private int hand() {
        return some(Math.max(1, model.count(2)));
    }

    private int pattern() {
        return some(Math.max(1, model.count(0)));
    }

    private int piece() {
        return some(Math.max(1, model.count(3)));
    }

    private int pastDay() {
        return some(day + 1);
    }

    private void tellOfHand(String of) {
        int hand = hand();
        switch (below(4)) {
            case 0 -> {
                int stitch = some(6);
                int habit = from(0, 100);
                same(of + "habit", x.habit(hand, stitch, habit), model.habit(hand, stitch, habit));
            }
            case 1 -> {
                int week = below(3) == 0 ? some(143) : day / 7 + below(3);
                boolean is = below(3) != 0;
                same(of + "hay", x.hay(hand, week, is), model.hay(hand, week, is));
            }
            case 2 -> {
                int coins = below(10) == 0 ? from(1, 100000) : from(1, 60);
                same(of + "advance", x.advance(hand, coins), model.advance(hand, coins));
            }
            default -> {
                int stitch = some(6);
                int seconds = below(5) == 0 ? from(1, 9999) : 300 + below(200);
                same(of + "time", x.time(stitch, seconds), model.time(stitch, seconds));
            }
        }
    }

    private void askOfTexts(String of) {
        int pattern = pattern();
        int what = some(6);
        int colour = some(4);
        switch (below(7)) {
            case 0 -> same(of + "stitches", x.stitches(pattern, what, colour), model.stitches(pattern, what, colour));
            case 1 -> same(of + "about", x.about(pattern, what), model.about(pattern, what));
            case 2 -> {
                int dealer = some(3);
                int week = below(3) == 0 ? some(143) : below(day / 7 + 2);
                int k = pastDay();
                same(of + "lists", x.lists(dealer, week, k), model.lists(dealer, week, k));
            }
            case 3, 4, 5 -> {
                int topic = some(6);
                int dealer = some(3);
                int hand = hand();
                same(of + "term", x.term(topic, dealer, pattern, hand, what, colour),
                        model.term(topic, dealer, pattern, hand, what, colour));
            }
            default -> {
                int b = pattern();
                int which = some(2);
                same(of + "stolen", x.stolen(pattern, b, which), model.stolen(pattern, b, which));
            }
        }
    }

    private void tellOfPiece(String of) {
        int piece = piece();
        switch (below(6)) {
            case 0, 1 -> {
                int dealer = some(2);
                int pattern = pattern();
                int hand = hand();
                same(of + "out", x.out(dealer, pattern, hand), model.out(dealer, pattern, hand));
            }
            case 2, 3 -> {
                int spots = below(2) == 0 ? below(4) : from(0, 99);
                int back = below(4) == 0 ? Math.max(0, model.bill(piece, 0, 0)) + below(2) : some(2);
                same(of + "in", x.in(piece, spots, back), model.in(piece, spots, back, true));
            }
            case 4 -> {
                int book = some(2);
                int what = some(3);
                int number = below(10) == 0 ? from(0, 9999) : below(3);
                same(of + "write", x.write(book, piece, what, number), model.write(book, piece, what, number));
            }
            default -> {
                int stitch = some(6);
                int many = from(1, below(2) == 0 ? 999 : 5);
                int turned = from(0, Math.max(1, many));
                same(of + "look", x.look(piece, stitch, many, turned), model.look(piece, stitch, many, turned));
            }
        }
    }

    private void askOfPiece(String of) {
        int piece = piece();
        int what = some(9);
        int k = pastDay();
        int hand = hand();
        switch (below(7)) {
            case 0 -> same(of + "piece", x.piece(piece, what), model.piece(piece, what));
            case 1, 2 -> same(of + "bill", x.bill(piece, k, what % 5), model.bill(piece, k, what % 5));
            case 3 -> same(of + "wronged", x.wronged(piece, k), model.wronged(piece, k));
            case 4 -> same(of + "differ", x.differ(piece), model.differ(piece));
            case 5 -> same(of + "unlike", x.unlike(piece, hand), model.unlike(piece, hand));
            default -> same(of + "who", x.who(piece, what % 2), model.who(piece, what % 2));
        }
    }

    private void askOfAll(String of) {
        int what = some(10);
        switch (below(6)) {
            case 0 -> same(of + "count", x.count(what), model.count(what));
            case 1 -> {
                int hand = hand();
                same(of + "tell", x.tell(hand, what % 6), model.tell(hand, what % 6));
            }
            case 2 -> same(of + "carried", x.carried(what % 3), model.carried(what % 3));
            case 3 -> {
                int pattern = pattern();
                int n = from(1, 40);
                int days = from(1, below(2) == 0 ? 60 : 9);
                int which = some(3);
                same(of + "part", x.part(pattern, n, days, which), model.part(pattern, n, days, which));
            }
            case 4 -> {
                int pattern = pattern();
                int n = from(1, 40);
                int days = from(1, 60);
                int hand = hand();
                same(of + "parted", x.parted(pattern, n, days, hand), model.parted(pattern, n, days, hand));
            }
            default -> {
                if (below(10) == 0) {
                    int dealer = some(2);
                    int g = below(2) == 0 ? below(5) : from(0, 99);
                    int which = some(8);
                    same(of + "even", x.even(dealer, g, which), model.even(dealer, g, which));
                }
            }
        }
    }
}
