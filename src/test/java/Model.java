import java.math.BigInteger;
import java.util.ArrayList;
import java.util.Arrays;
import java.util.HashMap;
import java.util.List;
import java.util.Map;
import java.util.TreeMap;
import java.util.TreeSet;
import java.util.regex.Matcher;
import java.util.regex.Pattern;

/** The document written down a second time, by other ways than the class: slow, and for tests alone. */
final class Model {
    private static final Pattern TOKENS = Pattern.compile("[a-z]+|[0-9]+|[\\[\\]:;<>=]|[^ \\n]", Pattern.DOTALL);
    private static final List<String> TOPICS = List.of("rate", "thread", "fine", "late", "days", "part");
    private static final List<String> ASKED = List.of("stitch", "colour", "ground", "size", "skill", "spots", "week");
    /** r a topic but part, p part, i if, a and, n not, h hay, s what has a sign, c a sign of these, 9 a number. */
    private static final Pattern LIST = Pattern.compile("([rp](in?(h|sc9)(an?(h|sc9))*)?:9;)*");

    private record Token(String text, int place) {
        boolean isNumber() {
            return text.matches("[0-9]{1,4}");
        }

        int number() {
            return Integer.parseInt(text);
        }
    }

    private record Item(int stitch, int number, List<Item> inside) {
    }

    private record Counted(Map<List<Integer>, BigInteger> counts, int colour) {
    }

    private record Pat(int ground, int marks, Map<List<Integer>, BigInteger> counts) {
        int count(int stitch, int colour) {
            return counts.getOrDefault(List.of(stitch, colour), BigInteger.ZERO).intValueExact();
        }

        int all() {
            return counts.values().stream().reduce(BigInteger.ZERO, BigInteger::add).intValueExact();
        }

        long different(int at) {
            return counts.keySet().stream().filter(k -> counts.get(k).signum() > 0).map(k -> k.get(at)).distinct().count();
        }
    }

    private record Test(boolean not, String what, char sign, int number) {
        boolean holds(Map<String, Integer> asked) {
            int value = asked.get(what);
            return not ^ (sign == '<' ? value < number : sign == '>' ? value > number : value == number);
        }
    }

    private record Line(String topic, List<Test> tests, int number) {
    }

    private record Terms(int dealer, int week, int told, List<Line> lines) {
    }

    private record Bill(int thread, int earned, int due, int fine, int part) {
        int paid() {
            return earned - fine - part;
        }
    }

    private static final class Worker {
        int skill;
        int hours;
        int carrier;
        int debt;
        Map<Integer, Integer> habits = new HashMap<>();
        TreeSet<Integer> hay = new TreeSet<>();
        List<Integer> nets = new ArrayList<>();

        Worker copy() {
            Worker w = new Worker();
            w.skill = skill;
            w.hours = hours;
            w.carrier = carrier;
            w.debt = debt;
            w.habits = new HashMap<>(habits);
            w.hay = new TreeSet<>(hay);
            w.nets = new ArrayList<>(nets);
            return w;
        }
    }

    private static final class Job {
        int dealer;
        int pattern;
        int hand;
        int out;
        Integer in;
        int spots;
        int back;
        int paidOff;
        int net;
        int part;
        Map<List<Integer>, Integer> books = new HashMap<>();
        TreeMap<Integer, int[]> looks = new TreeMap<>();

        Job copy() {
            Job j = new Job();
            j.dealer = dealer;
            j.pattern = pattern;
            j.hand = hand;
            j.out = out;
            j.in = in;
            j.spots = spots;
            j.back = back;
            j.paidOff = paidOff;
            j.net = net;
            j.part = part;
            j.books = new HashMap<>(books);
            j.looks = new TreeMap<>(looks);
            return j;
        }
    }

    private static final class State {
        String tape = "";
        int fault = 0;
        int place = -1;
        int day = 0;
        List<Pat> patterns = new ArrayList<>();
        List<Terms> lists = new ArrayList<>();
        List<Worker> hands = new ArrayList<>();
        List<Job> pieces = new ArrayList<>();
        Map<Integer, Integer> times = new HashMap<>();

        State copy() {
            State s = new State();
            s.tape = tape;
            s.fault = fault;
            s.place = place;
            s.day = day;
            s.patterns = new ArrayList<>(patterns);
            s.lists = new ArrayList<>(lists);
            for (Worker w : hands) {
                s.hands.add(w.copy());
            }
            for (Job j : pieces) {
                s.pieces.add(j.copy());
            }
            s.times = new HashMap<>(times);
            return s;
        }
    }

    private State s = new State();
    private final Map<Integer, State> images = new HashMap<>();

    private static boolean has(List<?> list, int i) {
        return i >= 0 && i < list.size();
    }

    private static boolean in(int number, int least, int most) {
        return least <= number && number <= most;
    }

    int feed(int... numbers) {
        if (s.tape.length() > 380) {
            return -1;
        }
        for (int number : numbers) {
            for (byte b : BigInteger.valueOf((1L << 32) + (number & 0xFFFFFFFFL)).toByteArray()) {
                s.tape += (char) (b & 255);
            }
            s.tape = s.tape.substring(0, s.tape.length() - 5) + s.tape.substring(s.tape.length() - 4);
        }
        return s.tape.length();
    }

    int end(int n) {
        if (n < 0 || n > s.tape.length()) {
            return -1;
        }
        s.tape = s.tape.substring(0, n);
        return n;
    }

    private static List<Token> tokens(String text) {
        List<Token> all = new ArrayList<>();
        Matcher m = TOKENS.matcher(text);
        while (m.find()) {
            all.add(new Token(m.group(), m.start()));
        }
        all.add(new Token("", text.length()));
        return all;
    }

    private String takeTape() {
        String text = s.tape;
        s.tape = "";
        s.fault = 0;
        s.place = -1;
        return text;
    }

    private boolean faulty(int fault, int place) {
        s.fault = fault;
        s.place = place;
        return true;
    }

    /** Reads items from a token on till one that begins none; answers where that is, below 0 if it is a fault there. */
    private static int items(List<Token> t, int at, int depth, List<Item> into, TreeMap<Integer, Integer> others) {
        while (at < t.size()) {
            String text = t.get(at).text;
            boolean numbered = at + 1 < t.size() && t.get(at + 1).isNumber();
            if (text.matches("[a-fk]")) {
                if (!numbered) {
                    return -1 - (at + 1);
                }
                int number = t.get(at + 1).number();
                if (text.equals("k") && number > 3) {
                    others.putIfAbsent(t.get(at + 1).place, 2);
                }
                into.add(new Item(text.equals("k") ? -1 : text.charAt(0) - 'a', number, null));
                at += 2;
            } else if (t.get(at).isNumber()) {
                if (!t.get(at + 1).text.equals("[")) {
                    return -1 - (at + 1);
                }
                if (t.get(at).number() == 0) {
                    others.putIfAbsent(t.get(at).place, 2);
                }
                if (depth >= 6) {
                    others.putIfAbsent(t.get(at + 1).place, 3);
                }
                List<Item> inside = new ArrayList<>();
                int behind = items(t, at + 2, depth + 1, inside, others);
                if (behind < 0) {
                    return behind;
                }
                if (!t.get(behind).text.equals("]")) {
                    return -1 - behind;
                }
                into.add(new Item(-2, t.get(at).number(), inside));
                at = behind + 1;
            } else {
                return at;
            }
        }
        return at;
    }

    private static void add(Map<List<Integer>, BigInteger> to, Map<List<Integer>, BigInteger> more, int times) {
        more.forEach((k, v) -> to.merge(k, v.multiply(BigInteger.valueOf(times)), BigInteger::add));
    }

    /** Runs through items from a colour on; times that began with the same colour are the same. */
    private static Counted run(List<Item> items, int colour) {
        Map<List<Integer>, BigInteger> counts = new HashMap<>();
        for (Item item : items) {
            if (item.stitch == -1) {
                colour = item.number;
            } else if (item.stitch >= 0) {
                add(counts, Map.of(List.of(item.stitch, colour), BigInteger.valueOf(item.number)), 1);
            } else {
                int[] begunWith = new int[4];
                Counted[] known = new Counted[4];
                for (int i = 0; i < item.number; i++) {
                    begunWith[colour]++;
                    if (known[colour] == null) {
                        known[colour] = run(item.inside, colour);
                    }
                    colour = known[colour].colour;
                }
                for (int c = 0; c < 4; c++) {
                    if (known[c] != null) {
                        add(counts, known[c].counts, begunWith[c]);
                    }
                }
            }
        }
        return new Counted(counts, colour);
    }

    int pattern(int ground, int marks) {
        String text = takeTape();
        if (s.patterns.size() == 8 || ground >> 2 != 0 || marks >> 24 != 0) {
            return -2;
        }
        List<Token> t = tokens(text);
        List<Item> items = new ArrayList<>();
        TreeMap<Integer, Integer> others = new TreeMap<>();
        int end = items(t, 0, 0, items, others);
        if (end != t.size() - 1) {
            faulty(1, t.get(end < 0 ? -1 - end : end).place);
        } else if (!others.isEmpty()) {
            faulty(others.firstEntry().getValue(), others.firstKey());
        } else {
            Map<List<Integer>, BigInteger> counts = run(items, 0).counts;
            BigInteger all = counts.values().stream().reduce(BigInteger.ZERO, BigInteger::add);
            if (all.compareTo(BigInteger.valueOf(1000000)) > 0) {
                faulty(4, 0);
            } else {
                s.patterns.add(new Pat(ground, marks, counts));
            }
        }
        return s.fault != 0 ? -1 : s.patterns.size() - 1;
    }

    private static char kindOf(Token token) {
        String text = token.text;
        if (TOPICS.contains(text)) {
            return text.equals("part") ? 'p' : 'r';
        }
        if (ASKED.contains(text)) {
            return 's';
        }
        if (token.isNumber()) {
            return '9';
        }
        return switch (text) {
            case "if", "and", "not", "hay" -> text.charAt(0);
            case "<", ">", "=" -> 'c';
            case ":", ";" -> text.charAt(0);
            default -> '?';
        };
    }

    int list(int dealer, int week) {
        String text = takeTape();
        if (s.lists.size() == 10 || !in(dealer, 0, 2) || !in(week, 0, 142)) {
            return -2;
        }
        List<Token> t = tokens(text);
        StringBuilder kinds = new StringBuilder();
        for (int i = 0; i + 1 < t.size(); i++) {
            kinds.append(kindOf(t.get(i)));
            Matcher m = LIST.matcher(kinds);
            if (!m.matches() && !m.hitEnd()) {
                faulty(1, t.get(i).place);
                return -1;
            }
        }
        if (!LIST.matcher(kinds).matches()) {
            faulty(1, text.length());
            return -1;
        }
        List<Line> lines = lines(t);
        if (s.fault != 0) {
            return -1;
        }
        s.lists.add(new Terms(dealer, week, s.day, lines));
        return s.lists.size() - 1;
    }

    /** Of a text that has no fault 1. */
    private List<Line> lines(List<Token> t) {
        List<Line> lines = new ArrayList<>();
        TreeMap<Integer, Integer> others = new TreeMap<>();
        int at = 0;
        while (at + 1 < t.size()) {
            String topic = t.get(at).text;
            if (lines.size() >= 16) {
                others.put(t.get(at).place, 3);
            }
            List<Test> tests = new ArrayList<>();
            at++;
            while (!t.get(at).text.equals(":")) {
                at++;
                if (tests.size() >= 4) {
                    others.put(t.get(at).place, 3);
                }
                boolean not = t.get(at).text.equals("not");
                at += not ? 1 : 0;
                if (t.get(at).text.equals("hay")) {
                    tests.add(new Test(not, "hay", '=', 1));
                    at++;
                } else {
                    tests.add(new Test(not, t.get(at).text, t.get(at + 1).text.charAt(0), t.get(at + 2).number()));
                    at += 3;
                }
            }
            int number = t.get(at + 1).number();
            if (topic.equals("part") && number > 100) {
                others.put(t.get(at + 1).place, 2);
            }
            lines.add(new Line(topic, tests, number));
            at += 3;
        }
        if (!others.isEmpty()) {
            faulty(others.firstEntry().getValue(), others.firstKey());
        }
        return lines;
    }

    int fault(int what) {
        return what == 0 ? s.fault : what == 1 ? s.place : -1;
    }

    int stitches(int pattern, int stitch, int colour) {
        return has(s.patterns, pattern) && in(stitch, 0, 5) && in(colour, 0, 3)
                ? s.patterns.get(pattern).count(stitch, colour) : -1;
    }

    int about(int pattern, int what) {
        if (!has(s.patterns, pattern)) {
            return -2;
        }
        Pat p = s.patterns.get(pattern);
        return switch (what) {
            case 0 -> p.ground;
            case 1 -> p.marks;
            case 2 -> p.all();
            case 3 -> (int) p.different(0);
            case 4 -> (int) p.different(1);
            default -> -2;
        };
    }

    boolean day(int day) {
        if (day < s.day || day > 999) {
            return false;
        }
        s.day = day;
        return true;
    }

    private int known(int dealer, int week, int day) {
        for (int from = week; from >= 0; from--) {
            for (int i = s.lists.size() - 1; i >= 0; i--) {
                Terms t = s.lists.get(i);
                if (t.dealer == dealer && t.week == from && t.told <= day) {
                    return i;
                }
            }
        }
        return -1;
    }

    int lists(int dealer, int week, int k) {
        return in(dealer, 0, 2) && in(week, 0, 142) && in(k, 0, s.day) ? known(dealer, week, k) : -2;
    }

    int hand(int skill, int hours, int carrier) {
        if (s.hands.size() == 12 || !in(skill, 1, 200) || !in(hours, 1, 12) || !in(carrier, 0, 2)) {
            return -1;
        }
        Worker w = new Worker();
        w.skill = skill;
        w.hours = hours;
        w.carrier = carrier;
        s.hands.add(w);
        return s.hands.size() - 1;
    }

    boolean habit(int hand, int stitch, int habit) {
        boolean can = has(s.hands, hand) && in(stitch, 0, 5) && in(habit, 0, 100);
        if (can) {
            s.hands.get(hand).habits.put(stitch, habit);
        }
        return can;
    }

    boolean hay(int hand, int week, boolean is) {
        boolean can = has(s.hands, hand) && in(week, 0, 142);
        if (can && is) {
            s.hands.get(hand).hay.add(week);
        } else if (can) {
            s.hands.get(hand).hay.remove(week);
        }
        return can;
    }

    int advance(int hand, int coins) {
        if (!has(s.hands, hand) || !in(coins, 1, 100000)) {
            return -1;
        }
        s.hands.get(hand).debt += coins;
        return s.hands.get(hand).debt;
    }

    private static int sum(List<Integer> numbers) {
        return numbers.stream().reduce(0, Integer::sum);
    }

    int tell(int hand, int what) {
        if (!has(s.hands, hand)) {
            return -2;
        }
        Worker w = s.hands.get(hand);
        return switch (what) {
            case 0 -> w.skill;
            case 1 -> w.hours;
            case 2 -> w.carrier;
            case 3 -> w.debt;
            case 4 -> sum(w.nets);
            case 5 -> (int) s.pieces.stream().filter(j -> j.in == null && j.hand == hand).count();
            default -> -2;
        };
    }

    private Map<String, Integer> asked(int pattern, int hand, int spots, int week) {
        Map<String, Integer> asked = new HashMap<>();
        asked.put("stitch", 9);
        asked.put("colour", 9);
        asked.put("ground", s.patterns.get(pattern).ground);
        asked.put("size", Math.min(9999, s.patterns.get(pattern).all() / 100));
        asked.put("skill", s.hands.get(hand).skill);
        asked.put("spots", spots);
        asked.put("week", week);
        asked.put("hay", s.hands.get(hand).hay.contains(week) ? 1 : 0);
        return asked;
    }

    private int term(int list, String topic, Map<String, Integer> asked) {
        if (list >= 0) {
            for (Line line : s.lists.get(list).lines) {
                if (line.topic.equals(topic) && line.tests.stream().allMatch(test -> test.holds(asked))) {
                    return line.number;
                }
            }
        }
        return Map.of("rate", 10, "thread", 5, "fine", 0, "late", 0, "part", 0, "days", 7).get(topic);
    }

    int term(int topic, int dealer, int pattern, int hand, int stitch, int colour) {
        boolean counts = topic == 0 || topic == 1;
        if (!in(topic, 0, 5) || !in(dealer, 0, 2) || !has(s.patterns, pattern) || !has(s.hands, hand)
                || counts && (!in(stitch, 0, 5) || !in(colour, 0, 3))) {
            return -1;
        }
        Map<String, Integer> asked = asked(pattern, hand, 0, s.day / 7);
        if (counts) {
            asked.put("stitch", stitch);
            asked.put("colour", colour);
        }
        return term(known(dealer, s.day / 7, s.day), TOPICS.get(topic), asked);
    }

    int out(int dealer, int pattern, int hand) {
        if (s.pieces.size() == 60 || !in(dealer, 0, 2) || !has(s.patterns, pattern) || !has(s.hands, hand)) {
            return -1;
        }
        Job j = new Job();
        j.dealer = dealer;
        j.pattern = pattern;
        j.hand = hand;
        j.out = s.day;
        s.pieces.add(j);
        return s.pieces.size() - 1;
    }

    private Bill bill(Job j, int k) {
        int list = known(j.dealer, j.out / 7, k);
        Map<String, Integer> asked = asked(j.pattern, j.hand, j.spots, j.out / 7);
        int due = j.out + term(list, "days", asked);
        int fine = term(list, "fine", asked);
        int late = term(list, "late", asked);
        int part = term(list, "part", asked);
        BigInteger thread = BigInteger.ZERO;
        BigInteger earned = BigInteger.ZERO;
        for (Map.Entry<List<Integer>, BigInteger> count : s.patterns.get(j.pattern).counts.entrySet()) {
            asked.put("stitch", count.getKey().get(0));
            asked.put("colour", count.getKey().get(1));
            BigInteger hundred = BigInteger.valueOf(100);
            thread = thread.add(count.getValue().multiply(BigInteger.valueOf(term(list, "thread", asked))).divide(hundred));
            earned = earned.add(count.getValue().multiply(BigInteger.valueOf(term(list, "rate", asked))).divide(hundred));
        }
        if (j.in == null) {
            return new Bill(thread.intValueExact(), earned.intValueExact(), due, 0, 0);
        }
        long fined = (long) j.spots * fine;
        for (int d = due + 1; d <= j.in; d++) {
            fined += late;
        }
        fined = Math.min(fined, earned.longValueExact());
        long parted = (earned.longValueExact() - fined) * part / 100;
        return new Bill(thread.intValueExact(), earned.intValueExact(), due, (int) fined, (int) parted);
    }

    int in(int piece, int spots, int back, boolean justForTheName) {
        if (!has(s.pieces, piece) || s.pieces.get(piece).in != null || !in(spots, 0, 99)) {
            return -1;
        }
        Job j = s.pieces.get(piece);
        if (!in(back, 0, bill(j, j.out).thread)) {
            return -1;
        }
        j.in = s.day;
        j.spots = spots;
        j.back = back;
        Bill bill = bill(j, j.out);
        Worker w = s.hands.get(j.hand);
        for (int coin = 0; coin < bill.paid() / 2 && w.debt > 0; coin++) {
            w.debt--;
            j.paidOff++;
        }
        j.net = bill.paid() - j.paidOff;
        j.part = bill.part;
        w.nets.add(j.net);
        return j.net;
    }

    int piece(int piece, int what) {
        if (!has(s.pieces, piece)) {
            return -2;
        }
        Job j = s.pieces.get(piece);
        return switch (what) {
            case 0 -> j.dealer;
            case 1 -> j.pattern;
            case 2 -> j.hand;
            case 3 -> j.out;
            case 4 -> j.in == null ? -1 : j.in;
            case 5 -> j.spots;
            case 6 -> j.back;
            case 7 -> j.paidOff;
            case 8 -> j.net;
            default -> -2;
        };
    }

    int bill(int piece, int k, int what) {
        if (!has(s.pieces, piece) || !in(k, 0, s.day)) {
            return -1;
        }
        Bill bill = bill(s.pieces.get(piece), k);
        return switch (what) {
            case 0 -> bill.thread;
            case 1 -> bill.earned;
            case 2 -> bill.due;
            case 3 -> bill.fine;
            case 4 -> bill.part;
            default -> -1;
        };
    }

    int wronged(int piece, int k) {
        if (!has(s.pieces, piece) || !in(k, 0, s.day) || s.pieces.get(piece).in == null) {
            return -1000000000;
        }
        Job j = s.pieces.get(piece);
        return bill(j, k).paid() - bill(j, j.out).paid();
    }

    int carried(int carrier) {
        return !in(carrier, 0, 2) ? -1
                : sum(s.pieces.stream().filter(j -> s.hands.get(j.hand).carrier == carrier).map(j -> j.part).toList());
    }

    boolean write(int book, int piece, int what, int number) {
        boolean can = in(book, 0, 1) && has(s.pieces, piece) && in(what, 0, 2) && in(number, 0, 9999);
        if (can) {
            s.pieces.get(piece).books.put(List.of(book, what), number);
        }
        return can;
    }

    int differ(int piece) {
        if (!has(s.pieces, piece)) {
            return -1;
        }
        Map<List<Integer>, Integer> books = s.pieces.get(piece).books;
        int bits = 0;
        for (int what = 0; what < 3; what++) {
            Integer one = books.get(List.of(0, what));
            Integer other = books.get(List.of(1, what));
            bits += one != null && other != null && !one.equals(other) ? 1 << what : 0;
        }
        return bits;
    }

    /** Null if it can't be; else how many hands, spread, set, and then the pieces of each hand. */
    private int[] parting(int pattern, int n, int days) {
        if (!has(s.patterns, pattern) || !in(n, 1, 40) || !in(days, 1, 60)) {
            return null;
        }
        int hands = s.hands.size();
        int[] can = new int[hands];
        for (int h = 0; h < hands; h++) {
            Worker w = s.hands.get(h);
            int one = Math.max(1, (int) Math.ceil(s.patterns.get(pattern).all() / (10.0 * w.skill)));
            int has = 0;
            for (int d = s.day; d < s.day + days; d++) {
                has += w.hay.contains(d / 7) ? w.hours / 2 : w.hours;
            }
            while ((can[h] + 1) * one <= has) {
                can[h]++;
            }
        }
        int[] best = null;
        for (int set = 0; set < 1 << hands; set++) {
            int[] now = {Integer.bitCount(set), 0, set};
            TreeSet<Integer> skills = new TreeSet<>();
            int together = 0;
            boolean allCan = true;
            for (int h = 0; h < hands; h++) {
                if ((set & 1 << h) != 0) {
                    skills.add(s.hands.get(h).skill);
                    together += can[h];
                    allCan &= can[h] > 0;
                }
            }
            if (allCan && together >= n) {
                now[1] = skills.last() - skills.first();
                best = best == null || Arrays.compare(now, best) < 0 ? now : best;
            }
        }
        return best == null ? null : shared(best, can, n);
    }

    private static int[] shared(int[] best, int[] can, int n) {
        int[] all = Arrays.copyOf(best, 3 + can.length);
        for (int one = 0; one < n; one++) {
            int to = -1;
            for (int h = can.length - 1; h >= 0; h--) {
                boolean may = (best[2] & 1 << h) != 0 && all[3 + h] < can[h];
                to = may && (to < 0 || all[3 + h] <= all[3 + to]) ? h : to;
            }
            all[3 + to]++;
        }
        return all;
    }

    int part(int pattern, int n, int days, int what) {
        int[] all = parting(pattern, n, days);
        return all == null || !in(what, 0, 2) ? -1 : all[what];
    }

    int parted(int pattern, int n, int days, int hand) {
        int[] all = parting(pattern, n, days);
        return all == null || !has(s.hands, hand) ? -1 : all[3 + hand];
    }

    boolean look(int piece, int stitch, int many, int turned) {
        boolean can = has(s.pieces, piece) && in(stitch, 0, 5) && in(many, 1, 999) && in(turned, 0, many);
        if (can) {
            s.pieces.get(piece).looks.put(stitch, new int[] {many, turned});
        }
        return can;
    }

    int unlike(int piece, int hand) {
        if (!has(s.pieces, piece) || !has(s.hands, hand)) {
            return -1;
        }
        int sum = 0;
        for (Map.Entry<Integer, int[]> look : s.pieces.get(piece).looks.entrySet()) {
            int habit = s.hands.get(hand).habits.getOrDefault(look.getKey(), 50);
            sum += Math.abs(100 * look.getValue()[1] - habit * look.getValue()[0]);
        }
        return sum;
    }

    int who(int piece, int what) {
        if (s.hands.isEmpty() || !has(s.pieces, piece) || s.pieces.get(piece).looks.isEmpty() || !in(what, 0, 1)) {
            return -1;
        }
        List<int[]> all = new ArrayList<>();
        for (int h = 0; h < s.hands.size(); h++) {
            all.add(new int[] {unlike(piece, h), h});
        }
        all.sort(Arrays::compare);
        return what == 0 ? all.get(0)[1] : all.size() == 1 ? -1 : all.get(1)[0] - all.get(0)[0];
    }

    private static BigInteger choose(int n, int k) {
        if (k < 0 || k > n) {
            return BigInteger.ZERO;
        }
        return k == 0 ? BigInteger.ONE : choose(n - 1, k - 1).multiply(BigInteger.valueOf(n)).divide(BigInteger.valueOf(k));
    }

    int stolen(int a, int b, int what) {
        if (a == b || !has(s.patterns, a) || !has(s.patterns, b) || !in(what, 0, 1)) {
            return -1;
        }
        int first = s.patterns.get(a).marks;
        int second = s.patterns.get(b).marks;
        int shared = Integer.bitCount(first & second);
        BigInteger sum = BigInteger.ZERO;
        for (int i = shared; i <= 24; i++) {
            sum = sum.add(choose(Integer.bitCount(first), i)
                    .multiply(choose(24 - Integer.bitCount(first), Integer.bitCount(second) - i)));
        }
        boolean beyond = sum.multiply(BigInteger.valueOf(1000)).compareTo(choose(24, Integer.bitCount(second))) < 0;
        return what == 0 ? shared : beyond ? 1 : 0;
    }

    boolean time(int stitch, int seconds) {
        boolean can = in(stitch, 0, 5) && in(seconds, 1, 9999);
        if (can) {
            s.times.put(stitch, seconds);
        }
        return can;
    }

    int even(int dealer, int g, int what) {
        if (!in(dealer, 0, 2) || !in(g, 0, 99) || !in(what, 0, 7)) {
            return -1;
        }
        int[] rates = new int[6];
        int[][] pays = new int[6][10000];
        for (int stitch = 0; stitch < 6; stitch++) {
            Map<String, Integer> asked = new HashMap<>(Map.of("stitch", stitch, "colour", 0, "ground", 0, "size", 0,
                    "skill", 100, "spots", 0, "week", s.day / 7, "hay", 0));
            rates[stitch] = term(known(dealer, s.day / 7, s.day), "rate", asked);
            for (int rate = 0; rate < 10000; rate++) {
                pays[stitch][rate] = rate * 3600 / s.times.getOrDefault(stitch, 360);
            }
        }
        int[] best = null;
        for (int w = 1; w <= 2000; w++) {
            int[] now = new int[8];
            boolean can = true;
            for (int stitch = 0; stitch < 6 && can; stitch++) {
                int nearest = nearest(pays[stitch], rates[stitch], w, w + g);
                can = nearest >= 0;
                now[1] += Math.abs(nearest - rates[stitch]);
                now[2 + stitch] = nearest;
            }
            now[0] = w;
            best = can && (best == null || now[1] < best[1]) ? now : best;
        }
        return best == null ? -1 : best[what];
    }

    private static int nearest(int[] pays, int rate, int least, int most) {
        int step = pays[rate] < least ? 1 : -1;
        for (int r = rate; r >= 0 && r < pays.length; r += step) {
            if (pays[r] >= least && pays[r] <= most) {
                return r;
            }
            if (step > 0 ? pays[r] > most : pays[r] < least) {
                return -1;
            }
        }
        return -1;
    }

    int count(int what) {
        return switch (what) {
            case 0 -> s.patterns.size();
            case 1 -> s.lists.size();
            case 2 -> s.hands.size();
            case 3 -> s.pieces.size();
            case 4 -> s.day;
            case 5 -> s.day / 7;
            case 6 -> (int) s.pieces.stream().filter(j -> j.in == null).count();
            case 7 -> {
                int many = 0;
                for (int i = 0; i < s.pieces.size(); i++) {
                    many += differ(i) != 0 ? 1 : 0;
                }
                yield many;
            }
            case 8 -> sum(s.hands.stream().map(w -> w.debt).toList());
            case 9 -> sum(s.pieces.stream().map(j -> j.net).toList());
            default -> -1;
        };
    }

    boolean image(int k) {
        if (!in(k, 0, 2)) {
            return false;
        }
        images.put(k, s.copy());
        return true;
    }

    boolean again(int k) {
        if (!images.containsKey(k)) {
            return false;
        }
        s = images.get(k).copy();
        return true;
    }
}
