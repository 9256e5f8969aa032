import java.util.Arrays;

/** Stitching at home, as the document tells it: patterns, lists of terms, hands, pieces and their pay. */
public final class NeedleHomes {
    public static final int NONE = -1;

    /** What a call answers where NONE could be mistaken for something that is there. */
    private static final int NOT_SUCH = -2;
    private static final int NOT_WRONGED = -1000000000;

    private static final int STITCH_KINDS = 6;
    private static final int COLOURS = 4;
    private static final int TAPE_MOST = 400;
    private static final int FED_AT_ONCE = 20;
    private static final int PATTERNS_MOST = 8;
    private static final int STITCHES_MOST = 1000000;
    private static final int GROUND_MOST = 3;
    private static final int MARK_BITS = 24;
    private static final int MARKS_MOST = (1 << MARK_BITS) - 1;

    private static final int DAY_MOST = 999;
    private static final int DAYS_OF_WEEK = 7;
    private static final int WEEK_MOST = DAY_MOST / DAYS_OF_WEEK;
    private static final int DEALERS = 3;
    private static final int LISTS_MOST = 10;
    private static final int LINES_MOST = 16;
    private static final int TESTS_MOST = 4;
    private static final int NUMBER_MOST = 9999;

    private static final int RATE = 0;
    private static final int THREAD = 1;
    private static final int FINE = 2;
    private static final int LATE = 3;
    private static final int DAYS = 4;
    private static final int PART = 5;

    /** What a TEST can ask for, and so the places of a row that tells a case. */
    private static final int STITCH = 0;
    private static final int COLOUR = 1;
    private static final int GROUND = 2;
    private static final int SIZE = 3;
    private static final int SKILL = 4;
    private static final int SPOTS = 5;
    private static final int WEEK = 6;
    private static final int HAY = 7;
    private static final int ASKED_KINDS = 8;
    private static final int NO_STITCH = 9;

    private static final int HANDS_MOST = 12;
    private static final int SKILL_MOST = 200;
    private static final int HOURS_MOST = 12;
    private static final int CARRIERS = 3;
    private static final int ADVANCE_MOST = 100000;
    private static final int PIECES_MOST = 60;
    private static final int SPOTS_MOST = 99;
    private static final int BOOKS = 2;
    private static final int WRITTEN_KINDS = 3;
    private static final int LOOKED_MOST = 999;
    private static final int PARTED_MOST = 40;
    private static final int PARTED_DAYS_MOST = 60;
    private static final int GAP_MOST = 99;
    private static final int IMAGES = 3;

    private final World world = new World();
    private final World[] images = new World[IMAGES];
    private final PatternReader patternReader = new PatternReader();
    private final ListReader listReader = new ListReader();
    private final Bill reckoning = new Bill();
    private final Parting parting = new Parting();
    private final EvenPay evenPay = new EvenPay();
    private final int[] asked = new int[ASKED_KINDS];

    public NeedleHomes() {
    }

    public int feed(int a, int b, int c, int d, int e) {
        if (world.tapeLength + FED_AT_ONCE > TAPE_MOST) {
            return NONE;
        }
        world.addBytes(a);
        world.addBytes(b);
        world.addBytes(c);
        world.addBytes(d);
        world.addBytes(e);
        return world.tapeLength;
    }

    public int end(int n) {
        if (!within(n, 0, world.tapeLength)) {
            return NONE;
        }
        world.tapeLength = n;
        return n;
    }

    public int pattern(int ground, int marks) {
        int length = world.takeTape();
        if (world.patternCount >= PATTERNS_MOST || !within(ground, 0, GROUND_MOST) || !within(marks, 0, MARKS_MOST)) {
            return NOT_SUCH;
        }
        patternReader.read(world.tape, length);
        world.keepFault(patternReader.reader);
        if (world.fault != 0) {
            return NONE;
        }
        return world.addPattern(new Pattern(ground, marks, patternReader));
    }

    public int list(int dealer, int week) {
        int length = world.takeTape();
        if (world.listCount >= LISTS_MOST || !isDealer(dealer) || !within(week, 0, WEEK_MOST)) {
            return NOT_SUCH;
        }
        listReader.read(world.tape, length);
        world.keepFault(listReader.reader);
        if (world.fault != 0) {
            return NONE;
        }
        return world.addList(new TermList(dealer, week, world.day, listReader));
    }

    public int fault(int what) {
        switch (what) {
            case 0:
                return world.fault;
            case 1:
                return world.faultPlace;
            default:
                return NONE;
        }
    }

    public int stitches(int pattern, int stitch, int colour) {
        Pattern told = world.patternAt(pattern);
        if (told == null || !isStitch(stitch) || !isColour(colour)) {
            return NONE;
        }
        return told.countOf(stitch, colour);
    }

    public int about(int pattern, int what) {
        Pattern told = world.patternAt(pattern);
        if (told == null) {
            return NOT_SUCH;
        }
        switch (what) {
            case 0:
                return told.ground;
            case 1:
                return told.marks;
            case 2:
                return told.stitches;
            case 3:
                return told.kindsOfStitches();
            case 4:
                return told.coloursUsed();
            default:
                return NOT_SUCH;
        }
    }

    public boolean day(int day) {
        if (!within(day, world.day, DAY_MOST)) {
            return false;
        }
        world.day = day;
        return true;
    }

    public int lists(int dealer, int week, int k) {
        if (!isDealer(dealer) || !within(week, 0, WEEK_MOST) || !isPastDay(k)) {
            return NOT_SUCH;
        }
        return world.listKnown(dealer, week, k);
    }

    public int hand(int skill, int hours, int carrier) {
        if (world.handCount >= HANDS_MOST || !within(skill, 1, SKILL_MOST) || !within(hours, 1, HOURS_MOST)
                || !within(carrier, 0, CARRIERS - 1)) {
            return NONE;
        }
        return world.addHand(new Hand(skill, hours, carrier));
    }

    public boolean habit(int hand, int stitch, int habit) {
        Hand told = world.handAt(hand);
        if (told == null || !isStitch(stitch) || !within(habit, 0, 100)) {
            return false;
        }
        told.habits[stitch] = habit;
        return true;
    }

    public boolean hay(int hand, int week, boolean is) {
        Hand told = world.handAt(hand);
        if (told == null || !within(week, 0, WEEK_MOST)) {
            return false;
        }
        told.setHay(week, is);
        return true;
    }

    public int advance(int hand, int coins) {
        Hand told = world.handAt(hand);
        if (told == null || !within(coins, 1, ADVANCE_MOST)) {
            return NONE;
        }
        told.debt += coins;
        return told.debt;
    }

    public int tell(int hand, int what) {
        Hand told = world.handAt(hand);
        if (told == null) {
            return NOT_SUCH;
        }
        switch (what) {
            case 0:
                return told.skill;
            case 1:
                return told.hours;
            case 2:
                return told.carrier;
            case 3:
                return told.debt;
            case 4:
                return told.net;
            case 5:
                return world.piecesOutWith(hand);
            default:
                return NOT_SUCH;
        }
    }

    public int term(int topic, int dealer, int pattern, int hand, int stitch, int colour) {
        Pattern ofPattern = world.patternAt(pattern);
        Hand ofHand = world.handAt(hand);
        if (!within(topic, RATE, PART) || !isDealer(dealer) || ofPattern == null || ofHand == null) {
            return NONE;
        }
        int week = weekOf(world.day);
        askFor(asked, ofPattern, ofHand, week, 0);
        if (topic == RATE || topic == THREAD) {
            if (!isStitch(stitch) || !isColour(colour)) {
                return NONE;
            }
            asked[STITCH] = stitch;
            asked[COLOUR] = colour;
        }
        return termOf(world.listAt(world.listKnown(dealer, week, world.day)), topic, asked);
    }

    public int out(int dealer, int pattern, int hand) {
        if (world.pieceCount >= PIECES_MOST || !isDealer(dealer) || world.patternAt(pattern) == null
                || world.handAt(hand) == null) {
            return NONE;
        }
        return world.addPiece(new Piece(dealer, pattern, hand, world.day));
    }

    public int in(int piece, int spots, int back) {
        Piece told = world.pieceAt(piece);
        if (told == null || told.isIn() || !within(spots, 0, SPOTS_MOST)) {
            return NONE;
        }
        Hand worker = world.handAt(told.hand);
        reckoning.reckon(world, told, told.outDay);
        if (worker == null || !within(back, 0, reckoning.thread)) {
            return NONE;
        }
        told.bringIn(world.day, spots, back);
        // The spots are on the piece only now, and a line may ask for them: its terms are reckoned anew.
        reckoning.reckon(world, told, told.outDay);
        settle(told, worker);
        return told.net;
    }

    public int piece(int piece, int what) {
        Piece told = world.pieceAt(piece);
        if (told == null) {
            return NOT_SUCH;
        }
        switch (what) {
            case 0:
                return told.dealer;
            case 1:
                return told.pattern;
            case 2:
                return told.hand;
            case 3:
                return told.outDay;
            case 4:
                return told.inDay;
            case 5:
                return told.spots;
            case 6:
                return told.back;
            case 7:
                return told.paidOff;
            case 8:
                return told.net;
            default:
                return NOT_SUCH;
        }
    }

    public int bill(int piece, int k, int what) {
        Piece told = world.pieceAt(piece);
        if (told == null || !isPastDay(k)) {
            return NONE;
        }
        reckoning.reckon(world, told, k);
        switch (what) {
            case 0:
                return reckoning.thread;
            case 1:
                return reckoning.earned;
            case 2:
                return reckoning.due;
            case 3:
                return reckoning.fine;
            case 4:
                return reckoning.part;
            default:
                return NONE;
        }
    }

    public int wronged(int piece, int k) {
        Piece told = world.pieceAt(piece);
        if (told == null || !told.isIn() || !isPastDay(k)) {
            return NOT_WRONGED;
        }
        reckoning.reckon(world, told, k);
        int wouldBePaid = reckoning.paid();
        reckoning.reckon(world, told, told.outDay);
        return wouldBePaid - reckoning.paid();
    }

    public int carried(int carrier) {
        return within(carrier, 0, CARRIERS - 1) ? world.carried[carrier] : NONE;
    }

    public boolean write(int book, int piece, int what, int number) {
        Piece told = world.pieceAt(piece);
        if (told == null || !within(book, 0, BOOKS - 1) || !within(what, 0, WRITTEN_KINDS - 1)
                || !within(number, 0, NUMBER_MOST)) {
            return false;
        }
        told.written[book * WRITTEN_KINDS + what] = number;
        return true;
    }

    public int differ(int piece) {
        Piece told = world.pieceAt(piece);
        return told == null ? NONE : told.differences();
    }

    public int part(int pattern, int n, int days, int what) {
        if (!findParting(pattern, n, days)) {
            return NONE;
        }
        switch (what) {
            case 0:
                return parting.many;
            case 1:
                return parting.spread;
            case 2:
                return parting.set;
            default:
                return NONE;
        }
    }

    public int parted(int pattern, int n, int days, int hand) {
        if (world.handAt(hand) == null || !findParting(pattern, n, days)) {
            return NONE;
        }
        return parting.shareOf(hand);
    }

    public boolean look(int piece, int stitch, int many, int turned) {
        Piece told = world.pieceAt(piece);
        if (told == null || !isStitch(stitch) || !within(many, 1, LOOKED_MOST) || !within(turned, 0, many)) {
            return false;
        }
        told.looked[stitch] = many;
        told.turned[stitch] = turned;
        return true;
    }

    public int unlike(int piece, int hand) {
        Piece told = world.pieceAt(piece);
        Hand maybe = world.handAt(hand);
        return told == null || maybe == null ? NONE : told.unlikenessOf(maybe);
    }

    public int who(int piece, int what) {
        Piece told = world.pieceAt(piece);
        if (told == null || !told.isLookedAt() || !within(what, 0, 1)) {
            return NONE;
        }
        int likest = world.likestHand(told, NONE);
        if (what == 0) {
            return likest;
        }
        Hand first = world.handAt(likest);
        Hand next = world.handAt(world.likestHand(told, likest));
        return first == null || next == null ? NONE : told.unlikenessOf(next) - told.unlikenessOf(first);
    }

    public int stolen(int a, int b, int what) {
        Pattern first = world.patternAt(a);
        Pattern second = world.patternAt(b);
        if (first == null || second == null || a == b) {
            return NONE;
        }
        int shared = Integer.bitCount(first.marks & second.marks);
        switch (what) {
            case 0:
                return shared;
            case 1:
                return isBeyondChance(Integer.bitCount(first.marks), Integer.bitCount(second.marks), shared) ? 1 : 0;
            default:
                return NONE;
        }
    }

    public boolean time(int stitch, int seconds) {
        if (!isStitch(stitch) || !within(seconds, 1, NUMBER_MOST)) {
            return false;
        }
        world.times[stitch] = seconds;
        return true;
    }

    public int even(int dealer, int g, int what) {
        if (!isDealer(dealer) || !within(g, 0, GAP_MOST) || !within(what, 0, 1 + STITCH_KINDS)
                || !evenPay.find(world, dealer, g)) {
            return NONE;
        }
        switch (what) {
            case 0:
                return evenPay.pay;
            case 1:
                return evenPay.change;
            default:
                return evenPay.newRate(what - 2, evenPay.pay);
        }
    }

    public int count(int what) {
        switch (what) {
            case 0:
                return world.patternCount;
            case 1:
                return world.listCount;
            case 2:
                return world.handCount;
            case 3:
                return world.pieceCount;
            case 4:
                return world.day;
            case 5:
                return weekOf(world.day);
            case 6:
                return world.piecesOutWith(NONE);
            case 7:
                return world.piecesThatDiffer();
            case 8:
                return world.allDebts();
            case 9:
                return world.allNet();
            default:
                return NONE;
        }
    }

    public boolean image(int k) {
        if (!within(k, 0, IMAGES - 1)) {
            return false;
        }
        if (images[k] == null) {
            images[k] = new World();
        }
        images[k].copyFrom(world);
        return true;
    }

    public boolean again(int k) {
        if (!within(k, 0, IMAGES - 1) || images[k] == null) {
            return false;
        }
        world.copyFrom(images[k]);
        return true;
    }

    private static boolean within(int number, int least, int most) {
        return number >= least && number <= most;
    }

    private static boolean isStitch(int stitch) {
        return within(stitch, 0, STITCH_KINDS - 1);
    }

    private static boolean isColour(int colour) {
        return within(colour, 0, COLOURS - 1);
    }

    private static boolean isDealer(int dealer) {
        return within(dealer, 0, DEALERS - 1);
    }

    private boolean isPastDay(int day) {
        return within(day, 0, world.day);
    }

    private static int weekOf(int day) {
        return day / DAYS_OF_WEEK;
    }

    /** Tells the case of a PATTERN and a HAND in a WEEK, as it is for all TOPICS but rate and thread. */
    private static void askFor(int[] asked, Pattern pattern, Hand hand, int week, int spots) {
        if (asked.length < ASKED_KINDS) {
            return;
        }
        asked[STITCH] = NO_STITCH;
        asked[COLOUR] = NO_STITCH;
        asked[GROUND] = pattern.ground;
        asked[SIZE] = Math.min(pattern.stitches / 100, NUMBER_MOST);
        asked[SKILL] = hand.skill;
        asked[SPOTS] = spots;
        asked[WEEK] = week;
        asked[HAY] = hand.hasHay(week) ? 1 : 0;
    }

    private static int termOf(TermList list, int topic, int[] asked) {
        int line = list == null ? NONE : list.lineFor(topic, asked);
        return list == null || line == NONE ? termWithoutLine(topic) : list.numberOf(line);
    }

    private static int termWithoutLine(int topic) {
        switch (topic) {
            case RATE:
                return 10;
            case THREAD:
                return 5;
            case DAYS:
                return 7;
            default:
                return 0;
        }
    }

    /** Shares out what a PIECE that came IN has earned, as it is reckoned now. */
    private void settle(Piece piece, Hand worker) {
        int paid = reckoning.paid();
        piece.paidOff = Math.min(paid / 2, worker.debt);
        piece.net = paid - piece.paidOff;
        worker.debt -= piece.paidOff;
        worker.net += piece.net;
        world.addCarried(worker.carrier, reckoning.part);
    }

    private boolean findParting(int pattern, int n, int days) {
        Pattern told = world.patternAt(pattern);
        return told != null && within(n, 1, PARTED_MOST) && within(days, 1, PARTED_DAYS_MOST)
                && parting.find(world, told, n, days);
    }

    private static boolean isBeyondChance(int marksOfA, int marksOfB, int shared) {
        long asMany = 0;
        for (int s = shared; s <= marksOfB; s++) {
            asMany += choices(marksOfA, s) * choices(MARK_BITS - marksOfA, marksOfB - s);
        }
        return 1000 * asMany < choices(MARK_BITS, marksOfB);
    }

    private static long choices(int from, int many) {
        if (many < 0 || many > from) {
            return 0;
        }
        long ways = 1;
        for (int i = 1; i <= many; i++) {
            ways = ways * (from - many + i) / i;
        }
        return ways;
    }

    /** All that is told: what an image keeps. */
    private static final class World {
        final byte[] tape = new byte[TAPE_MOST];
        int tapeLength;
        int fault;
        int faultPlace = NONE;
        int day;
        final Pattern[] patterns = new Pattern[PATTERNS_MOST];
        int patternCount;
        final TermList[] termLists = new TermList[LISTS_MOST];
        int listCount;
        final Hand[] hands = new Hand[HANDS_MOST];
        int handCount;
        final Piece[] pieces = new Piece[PIECES_MOST];
        int pieceCount;
        final int[] times = new int[STITCH_KINDS];
        final int[] carried = new int[CARRIERS];

        World() {
            Arrays.fill(times, 360);
        }

        void copyFrom(World other) {
            System.arraycopy(other.tape, 0, tape, 0, TAPE_MOST);
            tapeLength = other.tapeLength;
            fault = other.fault;
            faultPlace = other.faultPlace;
            day = other.day;
            System.arraycopy(other.times, 0, times, 0, STITCH_KINDS);
            System.arraycopy(other.carried, 0, carried, 0, CARRIERS);
            copyTexts(other);
            copyHands(other);
            copyPieces(other);
        }

        /** PATTERNS and LISTS never change once they are told, so that images share them. */
        private void copyTexts(World other) {
            patternCount = other.patternCount;
            for (int i = 0; i < PATTERNS_MOST; i++) {
                patterns[i] = other.patterns[i];
            }
            listCount = other.listCount;
            for (int i = 0; i < LISTS_MOST; i++) {
                termLists[i] = other.termLists[i];
            }
        }

        private void copyHands(World other) {
            handCount = other.handCount;
            for (int i = 0; i < HANDS_MOST; i++) {
                Hand from = other.handAt(i);
                if (from != null) {
                    if (hands[i] == null) {
                        hands[i] = new Hand(from.skill, from.hours, from.carrier);
                    }
                    hands[i].copyFrom(from);
                }
            }
        }

        private void copyPieces(World other) {
            pieceCount = other.pieceCount;
            for (int i = 0; i < PIECES_MOST; i++) {
                Piece from = other.pieceAt(i);
                if (from != null) {
                    if (pieces[i] == null) {
                        pieces[i] = new Piece(from.dealer, from.pattern, from.hand, from.outDay);
                    }
                    pieces[i].copyFrom(from);
                }
            }
        }

        void addBytes(int number) {
            for (int shift = 24; shift >= 0; shift -= 8) {
                if (tapeLength >= 0 && tapeLength < TAPE_MOST) {
                    tape[tapeLength] = (byte) (number >> shift);
                    tapeLength++;
                }
            }
        }

        /** Empties the tape and forgets the FAULT; its bytes stay where they are till the next are fed. */
        int takeTape() {
            int length = tapeLength;
            tapeLength = 0;
            fault = 0;
            faultPlace = NONE;
            return length;
        }

        void keepFault(Reader reader) {
            fault = reader.fault;
            faultPlace = reader.faultPlace;
        }

        Pattern patternAt(int number) {
            return within(number, 0, patternCount - 1) && number < PATTERNS_MOST ? patterns[number] : null;
        }

        TermList listAt(int number) {
            return within(number, 0, listCount - 1) && number < LISTS_MOST ? termLists[number] : null;
        }

        Hand handAt(int number) {
            return within(number, 0, handCount - 1) && number < HANDS_MOST ? hands[number] : null;
        }

        Piece pieceAt(int number) {
            return within(number, 0, pieceCount - 1) && number < PIECES_MOST ? pieces[number] : null;
        }

        int addPattern(Pattern pattern) {
            int number = patternCount;
            if (!within(number, 0, PATTERNS_MOST - 1)) {
                return NOT_SUCH;
            }
            patterns[number] = pattern;
            patternCount++;
            return number;
        }

        int addList(TermList list) {
            int number = listCount;
            if (!within(number, 0, LISTS_MOST - 1)) {
                return NOT_SUCH;
            }
            termLists[number] = list;
            listCount++;
            return number;
        }

        int addHand(Hand hand) {
            int number = handCount;
            if (!within(number, 0, HANDS_MOST - 1)) {
                return NONE;
            }
            hands[number] = hand;
            handCount++;
            return number;
        }

        int addPiece(Piece piece) {
            int number = pieceCount;
            if (!within(number, 0, PIECES_MOST - 1)) {
                return NONE;
            }
            pieces[number] = piece;
            pieceCount++;
            return number;
        }

        /** The number of the LIST of a DEALER in a WEEK, AS KNOWN on a DAY; NONE without. */
        int listKnown(int dealer, int week, int known) {
            int best = NONE;
            int bestWeek = NONE;
            for (int i = 0; i < listCount; i++) {
                TermList list = listAt(i);
                if (list != null && list.dealer == dealer && list.toldDay <= known && list.fromWeek <= week
                        && list.fromWeek >= bestWeek) {
                    best = i;
                    bestWeek = list.fromWeek;
                }
            }
            return best;
        }

        void addCarried(int carrier, int coins) {
            if (within(carrier, 0, CARRIERS - 1)) {
                carried[carrier] += coins;
            }
        }

        /** How many PIECES are OUT and not IN, of one HAND or, with NONE, of all. */
        int piecesOutWith(int hand) {
            int many = 0;
            for (int i = 0; i < pieceCount; i++) {
                Piece piece = pieceAt(i);
                if (piece != null && !piece.isIn() && (hand == NONE || piece.hand == hand)) {
                    many++;
                }
            }
            return many;
        }

        int piecesThatDiffer() {
            int many = 0;
            for (int i = 0; i < pieceCount; i++) {
                Piece piece = pieceAt(i);
                if (piece != null && piece.differences() != 0) {
                    many++;
                }
            }
            return many;
        }

        int allDebts() {
            int sum = 0;
            for (int i = 0; i < handCount; i++) {
                Hand hand = handAt(i);
                sum += hand == null ? 0 : hand.debt;
            }
            return sum;
        }

        int allNet() {
            int sum = 0;
            for (int i = 0; i < handCount; i++) {
                Hand hand = handAt(i);
                sum += hand == null ? 0 : hand.net;
            }
            return sum;
        }

        /** The HAND with the least UNLIKENESS to a PIECE, one of them left out; NONE if there is no other. */
        int likestHand(Piece piece, int leftOut) {
            int likest = NONE;
            int least = 0;
            for (int i = 0; i < handCount; i++) {
                Hand hand = handAt(i);
                if (hand != null && i != leftOut) {
                    int unlikeness = piece.unlikenessOf(hand);
                    if (likest == NONE || unlikeness < least) {
                        likest = i;
                        least = unlikeness;
                    }
                }
            }
            return likest;
        }
    }

    /** A PATTERN as it was counted; it never changes. */
    private static final class Pattern {
        final int ground;
        final int marks;
        final int stitches;
        private final int[] counts = new int[STITCH_KINDS * COLOURS];

        Pattern(int ground, int marks, PatternReader counted) {
            this.ground = ground;
            this.marks = marks;
            int sum = 0;
            for (int stitch = 0; stitch < STITCH_KINDS; stitch++) {
                for (int colour = 0; colour < COLOURS; colour++) {
                    counts[stitch * COLOURS + colour] = counted.countAt(0, stitch, colour);
                    sum += counts[stitch * COLOURS + colour];
                }
            }
            stitches = sum;
        }

        int countOf(int stitch, int colour) {
            return isStitch(stitch) && isColour(colour) ? counts[stitch * COLOURS + colour] : 0;
        }

        int kindsOfStitches() {
            int kinds = 0;
            for (int stitch = 0; stitch < STITCH_KINDS; stitch++) {
                int sum = 0;
                for (int colour = 0; colour < COLOURS; colour++) {
                    sum += countOf(stitch, colour);
                }
                kinds += sum > 0 ? 1 : 0;
            }
            return kinds;
        }

        int coloursUsed() {
            int used = 0;
            for (int colour = 0; colour < COLOURS; colour++) {
                int sum = 0;
                for (int stitch = 0; stitch < STITCH_KINDS; stitch++) {
                    sum += countOf(stitch, colour);
                }
                used += sum > 0 ? 1 : 0;
            }
            return used;
        }
    }

    /** A LIST of a DEALER; it never changes. */
    private static final class TermList {
        static final int LESS = 0;
        static final int MORE = 1;
        static final int SAME = 2;
        /** A TEST is a row of four: whether it is turned round by not, what it asks, its sign, its NUMBER. */
        static final int TEST_ROW = 4;
        static final int LINE_ROW = TESTS_MOST * TEST_ROW;

        final int dealer;
        final int fromWeek;
        final int toldDay;
        private final int lineCount;
        private final int[] topics;
        private final int[] numbers;
        private final int[] testCounts;
        private final int[] tests;

        TermList(int dealer, int fromWeek, int toldDay, ListReader told) {
            this.dealer = dealer;
            this.fromWeek = fromWeek;
            this.toldDay = toldDay;
            lineCount = Math.max(0, Math.min(told.lineCount, LINES_MOST));
            topics = Arrays.copyOf(told.topics, lineCount);
            numbers = Arrays.copyOf(told.numbers, lineCount);
            testCounts = Arrays.copyOf(told.testCounts, lineCount);
            tests = Arrays.copyOf(told.tests, lineCount * LINE_ROW);
        }

        /** The first LINE of a TOPIC whose TESTS all hold; NONE without. */
        int lineFor(int topic, int[] asked) {
            for (int line = 0; line < lineCount; line++) {
                if (topics[line] == topic && allHold(line, asked)) {
                    return line;
                }
            }
            return NONE;
        }

        int numberOf(int line) {
            return within(line, 0, lineCount - 1) ? numbers[line] : NONE;
        }

        private boolean allHold(int line, int[] asked) {
            for (int test = 0; test < testCounts[line] && test < TESTS_MOST; test++) {
                if (!holds(line * LINE_ROW + test * TEST_ROW, asked)) {
                    return false;
                }
            }
            return true;
        }

        private boolean holds(int row, int[] asked) {
            if (row < 0 || row + TEST_ROW > tests.length) {
                return false;
            }
            int kind = tests[row + 1];
            if (kind < 0 || kind >= asked.length) {
                return false;
            }
            int sign = tests[row + 2];
            int number = tests[row + 3];
            boolean plainly = sign == LESS ? asked[kind] < number
                    : sign == MORE ? asked[kind] > number : asked[kind] == number;
            boolean isTurned = tests[row] == 1;
            return plainly != isTurned;
        }
    }

    /** A HAND that stitches. */
    private static final class Hand {
        private static final int HAY_WORDS = WEEK_MOST / 32 + 1;

        int skill;
        int hours;
        int carrier;
        int debt;
        int net;
        final int[] habits = new int[STITCH_KINDS];
        private final int[] hayBits = new int[HAY_WORDS];

        Hand(int skill, int hours, int carrier) {
            this.skill = skill;
            this.hours = hours;
            this.carrier = carrier;
            Arrays.fill(habits, 50);
        }

        void copyFrom(Hand other) {
            skill = other.skill;
            hours = other.hours;
            carrier = other.carrier;
            debt = other.debt;
            net = other.net;
            System.arraycopy(other.habits, 0, habits, 0, STITCH_KINDS);
            System.arraycopy(other.hayBits, 0, hayBits, 0, HAY_WORDS);
        }

        void setHay(int week, boolean is) {
            if (!within(week, 0, WEEK_MOST)) {
                return;
            }
            int bit = 1 << (week % 32);
            if (is) {
                hayBits[week / 32] |= bit;
            } else {
                hayBits[week / 32] &= ~bit;
            }
        }

        boolean hasHay(int week) {
            return within(week, 0, WEEK_MOST) && (hayBits[week / 32] >> (week % 32) & 1) == 1;
        }

        /** HOURS that the HAND has in so many DAYS from a DAY on. */
        int hoursIn(int firstDay, int days) {
            int sum = 0;
            for (int i = 0; i < days; i++) {
                sum += hasHay(weekOf(firstDay + i)) ? hours / 2 : hours;
            }
            return sum;
        }

        /** How many PIECES of so many STITCHES the HAND can do in its HOURS. */
        int canDo(int stitches, int hoursAtHand) {
            int stitchesAnHour = 10 * skill;
            if (stitchesAnHour < 1) {
                return 0;
            }
            int hoursForOne = Math.max(1, (stitches + stitchesAnHour - 1) / stitchesAnHour);
            return hoursAtHand / hoursForOne;
        }
    }

    /** A PIECE given OUT, with what is written and seen of it. */
    private static final class Piece {
        int dealer;
        int pattern;
        int hand;
        int outDay;
        int inDay = NONE;
        int spots;
        int back;
        int paidOff;
        int net;
        final int[] written = new int[BOOKS * WRITTEN_KINDS];
        final int[] looked = new int[STITCH_KINDS];
        final int[] turned = new int[STITCH_KINDS];

        Piece(int dealer, int pattern, int hand, int outDay) {
            this.dealer = dealer;
            this.pattern = pattern;
            this.hand = hand;
            this.outDay = outDay;
            Arrays.fill(written, NONE);
        }

        void copyFrom(Piece other) {
            dealer = other.dealer;
            pattern = other.pattern;
            hand = other.hand;
            outDay = other.outDay;
            inDay = other.inDay;
            spots = other.spots;
            back = other.back;
            paidOff = other.paidOff;
            net = other.net;
            System.arraycopy(other.written, 0, written, 0, BOOKS * WRITTEN_KINDS);
            System.arraycopy(other.looked, 0, looked, 0, STITCH_KINDS);
            System.arraycopy(other.turned, 0, turned, 0, STITCH_KINDS);
        }

        boolean isIn() {
            return inDay != NONE;
        }

        void bringIn(int day, int spotsOnIt, int metresBack) {
            inDay = day;
            spots = spotsOnIt;
            back = metresBack;
        }

        /** In what the BOOKS DIFFER, as bits. */
        int differences() {
            int bits = 0;
            for (int what = 0; what < WRITTEN_KINDS; what++) {
                int ofDealer = written[what];
                int ofCarrier = written[WRITTEN_KINDS + what];
                if (ofDealer != NONE && ofCarrier != NONE && ofDealer != ofCarrier) {
                    bits |= 1 << what;
                }
            }
            return bits;
        }

        boolean isLookedAt() {
            for (int stitch = 0; stitch < STITCH_KINDS; stitch++) {
                if (looked[stitch] > 0) {
                    return true;
                }
            }
            return false;
        }

        /** A STITCH that was not LOOKED AT has 0 of both, and adds nothing. */
        int unlikenessOf(Hand maybe) {
            int sum = 0;
            for (int stitch = 0; stitch < STITCH_KINDS; stitch++) {
                sum += Math.abs(100 * turned[stitch] - maybe.habits[stitch] * looked[stitch]);
            }
            return sum;
        }
    }

    /** The TOKENS of a text one by one, and the FAULT that was found in it. */
    private static final class Reader {
        static final int END = 0;
        static final int WORD = 1;
        static final int NUMBER = 2;
        static final int SIGN = 3;
        static final int NO_TOKEN = 4;
        private static final int DIGITS_MOST = 4;

        int kind;
        int number;
        int place;
        int fault;
        int faultPlace;
        private byte[] bytes;
        private int length;
        private int next;

        void start(byte[] tape, int tapeLength) {
            bytes = tape;
            length = tape == null ? 0 : Math.max(0, Math.min(tapeLength, tape.length));
            next = 0;
            fault = 0;
            faultPlace = NONE;
            step();
        }

        /** Goes to the next TOKEN. */
        void step() {
            while (next < length && (byteAt(next) == ' ' || byteAt(next) == '\n')) {
                next++;
            }
            place = next;
            number = 0;
            int first = byteAt(next);
            if (next >= length) {
                kind = END;
            } else if (isLetter(first)) {
                kind = WORD;
                while (next < length && isLetter(byteAt(next))) {
                    next++;
                }
            } else if (isDigit(first)) {
                stepOverDigits();
            } else {
                kind = isSignByte(first) ? SIGN : NO_TOKEN;
                next++;
            }
        }

        private void stepOverDigits() {
            while (next < length && isDigit(byteAt(next))) {
                if (next - place < DIGITS_MOST) {
                    number = 10 * number + byteAt(next) - '0';
                }
                next++;
            }
            kind = next - place <= DIGITS_MOST ? NUMBER : NO_TOKEN;
        }

        boolean isWord(String word) {
            if (kind != WORD || next - place != word.length()) {
                return false;
            }
            for (int i = 0; i < word.length(); i++) {
                if (byteAt(place + i) != word.charAt(i)) {
                    return false;
                }
            }
            return true;
        }

        /** The letter of a WORD of one letter; NONE for any other TOKEN. */
        int onlyLetter() {
            return kind == WORD && next - place == 1 ? byteAt(place) : NONE;
        }

        boolean isSign(char sign) {
            return kind == SIGN && byteAt(place) == sign;
        }

        /** FAULT 1 at this TOKEN; it goes before all others, and reading ends with it. */
        boolean failHere() {
            fault = 1;
            faultPlace = place;
            return false;
        }

        /** Another FAULT: the first one stays, and reading goes on in case there is FAULT 1. */
        void noteFault(int what, int where) {
            if (fault == 0) {
                fault = what;
                faultPlace = where;
            }
        }

        private int byteAt(int at) {
            return bytes != null && at >= 0 && at < bytes.length && at < length ? bytes[at] : NONE;
        }

        private static boolean isLetter(int sign) {
            return sign >= 'a' && sign <= 'z';
        }

        private static boolean isDigit(int sign) {
            return sign >= '0' && sign <= '9';
        }

        private static boolean isSignByte(int sign) {
            return sign == '[' || sign == ']' || sign == ':' || sign == ';' || sign == '<' || sign == '>' || sign == '=';
        }
    }

    /** Reads and counts the text of a PATTERN. */
    private static final class PatternReader {
        private static final int LEVELS = 7;
        /** The COLOUR at hand within a [ till a k comes: that which was at hand ahead of it, not known inside. */
        private static final int AS_AHEAD = COLOURS;
        private static final int SLOTS = COLOURS + 1;
        private static final int LEVEL_ROW = STITCH_KINDS * SLOTS;
        private static final int TOO_MANY = STITCHES_MOST + 1;

        final Reader reader = new Reader();
        private int depth;
        private final int[] counts = new int[LEVELS * LEVEL_ROW];
        private final int[] colourAtHand = new int[LEVELS];
        private final int[] repeats = new int[LEVELS];

        /** Without a FAULT level 0 has the counts, till the next text. */
        void read(byte[] tape, int length) {
            reader.start(tape, length);
            depth = 0;
            clearLevel(0);
            colourAtHand[0] = 0;
            boolean goesOn = true;
            for (int item = 0; item <= TAPE_MOST && goesOn; item++) {
                goesOn = (reader.kind != Reader.END || depth > 0) && readItem();
            }
            if (stitchesInAll() > STITCHES_MOST) {
                reader.noteFault(4, 0);
            }
        }

        /** False at FAULT 1. */
        private boolean readItem() {
            int letter = reader.onlyLetter();
            if (letter == 'k') {
                return readColour();
            }
            if (letter >= 'a' && letter <= 'f') {
                return readStitches(letter - 'a');
            }
            if (reader.kind == Reader.NUMBER) {
                return readOpening();
            }
            if (reader.isSign(']') && depth > 0) {
                close();
                reader.step();
                return true;
            }
            return reader.failHere();
        }

        private boolean readColour() {
            reader.step();
            if (reader.kind != Reader.NUMBER) {
                return reader.failHere();
            }
            if (!isColour(reader.number)) {
                reader.noteFault(2, reader.place);
            }
            if (isCounting()) {
                colourAtHand[depth] = reader.number;
            }
            reader.step();
            return true;
        }

        private boolean readStitches(int stitch) {
            reader.step();
            if (reader.kind != Reader.NUMBER) {
                return reader.failHere();
            }
            if (isCounting()) {
                addTo(depth, stitch, colourAtHand[depth], reader.number);
            }
            reader.step();
            return true;
        }

        private boolean readOpening() {
            int times = reader.number;
            if (times == 0) {
                reader.noteFault(2, reader.place);
            }
            reader.step();
            if (!reader.isSign('[')) {
                return reader.failHere();
            }
            if (depth + 1 >= LEVELS) {
                reader.noteFault(3, reader.place);
            }
            open(times);
            reader.step();
            return true;
        }

        /** A text with a FAULT is read on for FAULT 1 alone: its levels may be deeper than there are rows. */
        private boolean isCounting() {
            return reader.fault == 0 && within(depth, 0, LEVELS - 1);
        }

        private void open(int times) {
            depth++;
            if (isCounting()) {
                clearLevel(depth);
                colourAtHand[depth] = AS_AHEAD;
                repeats[depth] = times;
            }
        }

        private void close() {
            if (isCounting() && depth > 0) {
                for (int stitch = 0; stitch < STITCH_KINDS; stitch++) {
                    closeStitch(stitch);
                }
                if (colourAtHand[depth] != AS_AHEAD) {
                    colourAtHand[depth - 1] = colourAtHand[depth];
                }
            }
            depth--;
        }

        /** Only the first time has the COLOUR from ahead; each later one has that which the one before it left. */
        private void closeStitch(int stitch) {
            int outside = depth - 1;
            if (!within(outside, 0, LEVELS - 2)) {
                return;
            }
            int times = repeats[depth];
            for (int colour = 0; colour < COLOURS; colour++) {
                addTo(outside, stitch, colour, (long) countAt(depth, stitch, colour) * times);
            }
            long asAhead = countAt(depth, stitch, AS_AHEAD);
            int left = colourAtHand[depth] == AS_AHEAD ? colourAtHand[outside] : colourAtHand[depth];
            addTo(outside, stitch, colourAtHand[outside], asAhead);
            addTo(outside, stitch, left, asAhead * (times - 1));
        }

        /** More than a PATTERN may have stays just that, so that no number of times can go round. */
        private void addTo(int level, int stitch, int colour, long many) {
            int slot = slotOf(level, stitch, colour);
            if (slot != NONE) {
                counts[slot] = (int) Math.min(TOO_MANY, counts[slot] + many);
            }
        }

        int countAt(int level, int stitch, int colour) {
            int slot = slotOf(level, stitch, colour);
            return slot == NONE ? 0 : counts[slot];
        }

        private static int slotOf(int level, int stitch, int colour) {
            boolean isThere = level >= 0 && level < LEVELS && stitch >= 0 && stitch < STITCH_KINDS
                    && colour >= 0 && colour < SLOTS;
            return isThere ? level * LEVEL_ROW + stitch * SLOTS + colour : NONE;
        }

        private void clearLevel(int level) {
            for (int i = 0; i < LEVEL_ROW && within(level, 0, LEVELS - 1); i++) {
                counts[level * LEVEL_ROW + i] = 0;
            }
        }

        private int stitchesInAll() {
            int sum = 0;
            for (int stitch = 0; stitch < STITCH_KINDS; stitch++) {
                for (int colour = 0; colour < COLOURS; colour++) {
                    sum += countAt(0, stitch, colour);
                }
            }
            return sum;
        }
    }

    /** Reads the text of a LIST; what it has read is good till the next text. */
    private static final class ListReader {
        final Reader reader = new Reader();
        int lineCount;
        final int[] topics = new int[LINES_MOST];
        final int[] numbers = new int[LINES_MOST];
        final int[] testCounts = new int[LINES_MOST];
        final int[] tests = new int[LINES_MOST * TermList.LINE_ROW];

        void read(byte[] tape, int length) {
            reader.start(tape, length);
            lineCount = 0;
            for (int line = 0; line <= TAPE_MOST; line++) {
                if (reader.kind == Reader.END || !readLine(line)) {
                    return;
                }
                lineCount = line + 1;
            }
        }

        /** False at FAULT 1. */
        private boolean readLine(int line) {
            int topic = topicHere();
            if (topic == NONE) {
                return reader.failHere();
            }
            if (line >= LINES_MOST) {
                reader.noteFault(3, reader.place);
            }
            if (within(line, 0, LINES_MOST - 1)) {
                topics[line] = topic;
                testCounts[line] = 0;
            }
            reader.step();
            if (reader.isWord("if") && !readTests(line)) {
                return false;
            }
            return readNumber(line, topic);
        }

        /** From the word if on. */
        private boolean readTests(int line) {
            for (int test = 0; test <= TAPE_MOST; test++) {
                reader.step();
                if (test >= TESTS_MOST) {
                    reader.noteFault(3, reader.place);
                }
                if (!readTest(line, test)) {
                    return false;
                }
                if (!reader.isWord("and")) {
                    return true;
                }
            }
            return reader.failHere();
        }

        private boolean readTest(int line, int test) {
            boolean not = reader.isWord("not");
            if (not) {
                reader.step();
            }
            if (reader.isWord("hay")) {
                reader.step();
                keepTest(line, test, not, HAY, TermList.SAME, 1);
                return true;
            }
            int kind = askedHere();
            if (kind == NONE) {
                return reader.failHere();
            }
            reader.step();
            int sign = signHere();
            if (sign == NONE) {
                return reader.failHere();
            }
            reader.step();
            if (reader.kind != Reader.NUMBER) {
                return reader.failHere();
            }
            keepTest(line, test, not, kind, sign, reader.number);
            reader.step();
            return true;
        }

        private void keepTest(int line, int test, boolean not, int kind, int sign, int number) {
            if (!within(line, 0, LINES_MOST - 1) || !within(test, 0, TESTS_MOST - 1)) {
                return;
            }
            int row = line * TermList.LINE_ROW + test * TermList.TEST_ROW;
            tests[row] = not ? 1 : 0;
            tests[row + 1] = kind;
            tests[row + 2] = sign;
            tests[row + 3] = number;
            testCounts[line] = test + 1;
        }

        private boolean readNumber(int line, int topic) {
            if (!reader.isSign(':')) {
                return reader.failHere();
            }
            reader.step();
            if (reader.kind != Reader.NUMBER) {
                return reader.failHere();
            }
            if (topic == PART && reader.number > 100) {
                reader.noteFault(2, reader.place);
            }
            if (within(line, 0, LINES_MOST - 1)) {
                numbers[line] = reader.number;
            }
            reader.step();
            if (!reader.isSign(';')) {
                return reader.failHere();
            }
            reader.step();
            return true;
        }

        private int topicHere() {
            if (reader.isWord("rate")) {
                return RATE;
            }
            if (reader.isWord("thread")) {
                return THREAD;
            }
            if (reader.isWord("fine")) {
                return FINE;
            }
            if (reader.isWord("late")) {
                return LATE;
            }
            if (reader.isWord("days")) {
                return DAYS;
            }
            return reader.isWord("part") ? PART : NONE;
        }

        private int askedHere() {
            if (reader.isWord("stitch")) {
                return STITCH;
            }
            if (reader.isWord("colour")) {
                return COLOUR;
            }
            if (reader.isWord("ground")) {
                return GROUND;
            }
            if (reader.isWord("size")) {
                return SIZE;
            }
            if (reader.isWord("skill")) {
                return SKILL;
            }
            if (reader.isWord("spots")) {
                return SPOTS;
            }
            return reader.isWord("week") ? WEEK : NONE;
        }

        private int signHere() {
            if (reader.isSign('<')) {
                return TermList.LESS;
            }
            if (reader.isSign('>')) {
                return TermList.MORE;
            }
            return reader.isSign('=') ? TermList.SAME : NONE;
        }
    }

    /** The BILL of a PIECE by a DAY, as it was reckoned last. */
    private static final class Bill {
        int thread;
        int earned;
        int due;
        int fine;
        int part;
        private TermList list;
        private final int[] asked = new int[ASKED_KINDS];

        void reckon(World world, Piece piece, int known) {
            thread = 0;
            earned = 0;
            due = piece.outDay;
            fine = 0;
            part = 0;
            Pattern pattern = world.patternAt(piece.pattern);
            Hand hand = world.handAt(piece.hand);
            if (pattern == null || hand == null) {
                return;
            }
            int week = weekOf(piece.outDay);
            list = world.listAt(world.listKnown(piece.dealer, week, known));
            askFor(asked, pattern, hand, week, piece.spots);
            reckonStitches(pattern);
            askFor(asked, pattern, hand, week, piece.spots);
            due = piece.outDay + termOf(list, DAYS, asked);
            if (piece.isIn()) {
                reckonLosses(piece);
            }
        }

        private void reckonStitches(Pattern pattern) {
            for (int stitch = 0; stitch < STITCH_KINDS; stitch++) {
                for (int colour = 0; colour < COLOURS; colour++) {
                    long many = pattern.countOf(stitch, colour);
                    if (many > 0) {
                        asked[STITCH] = stitch;
                        asked[COLOUR] = colour;
                        thread += (int) (many * termOf(list, THREAD, asked) / 100);
                        earned += (int) (many * termOf(list, RATE, asked) / 100);
                    }
                }
            }
        }

        private void reckonLosses(Piece piece) {
            int daysLate = Math.max(0, piece.inDay - due);
            fine = piece.spots * termOf(list, FINE, asked) + daysLate * termOf(list, LATE, asked);
            fine = Math.min(fine, earned);
            part = (int) ((long) (earned - fine) * termOf(list, PART, asked) / 100);
        }

        int paid() {
            return earned - fine - part;
        }
    }

    /** Parts alike PIECES over HANDS, as it was found last. */
    private static final class Parting {
        int many;
        int spread;
        int set;
        private int handCount;
        private final int[] canDo = new int[HANDS_MOST];
        private final int[] skills = new int[HANDS_MOST];
        private final int[] shares = new int[HANDS_MOST];

        /** False if it can't be. */
        boolean find(World world, Pattern pattern, int n, int days) {
            handCount = Math.min(world.handCount, HANDS_MOST);
            for (int i = 0; i < handCount; i++) {
                Hand hand = world.handAt(i);
                shares[i] = 0;
                skills[i] = hand == null ? 0 : hand.skill;
                canDo[i] = hand == null ? 0 : hand.canDo(pattern.stitches, hand.hoursIn(world.day, days));
            }
            many = fewestFor(n);
            if (many == NONE) {
                return false;
            }
            chooseSet(n);
            shareOut(n);
            return true;
        }

        int shareOf(int hand) {
            return within(hand, 0, handCount - 1) && hand < HANDS_MOST ? shares[hand] : 0;
        }

        /** The HANDS that can do most come first, so that as few as can be do n together. */
        private int fewestFor(int n) {
            int taken = 0;
            int together = 0;
            for (int hands = 1; hands <= handCount; hands++) {
                int best = NONE;
                for (int i = 0; i < handCount; i++) {
                    if (!isInSet(taken, i) && (best == NONE || canDo[i] > canDo[best])) {
                        best = i;
                    }
                }
                if (best == NONE) {
                    return NONE;
                }
                taken |= 1 << best;
                together += canDo[best];
                if (together >= n) {
                    return hands;
                }
            }
            return NONE;
        }

        /** Sets come from the least on, so that of several with one spread the first stays. */
        private void chooseSet(int n) {
            set = 0;
            spread = 0;
            for (int maybe = 1; maybe < 1 << handCount; maybe++) {
                if (Integer.bitCount(maybe) == many && allows(maybe, n)) {
                    int itsSpread = spreadOf(maybe);
                    if (set == 0 || itsSpread < spread) {
                        set = maybe;
                        spread = itsSpread;
                    }
                }
            }
        }

        private boolean allows(int maybe, int n) {
            int together = 0;
            for (int i = 0; i < handCount; i++) {
                if (isInSet(maybe, i)) {
                    if (canDo[i] < 1) {
                        return false;
                    }
                    together += canDo[i];
                }
            }
            return together >= n;
        }

        private int spreadOf(int maybe) {
            int least = SKILL_MOST;
            int greatest = 0;
            for (int i = 0; i < handCount; i++) {
                if (isInSet(maybe, i)) {
                    least = Math.min(least, skills[i]);
                    greatest = Math.max(greatest, skills[i]);
                }
            }
            return greatest - least;
        }

        private void shareOut(int n) {
            for (int one = 0; one < n; one++) {
                int next = NONE;
                for (int i = 0; i < handCount; i++) {
                    if (isInSet(set, i) && shares[i] < canDo[i] && (next == NONE || shares[i] < shares[next])) {
                        next = i;
                    }
                }
                if (next != NONE) {
                    shares[next]++;
                }
            }
        }

        private static boolean isInSet(int bits, int i) {
            return (bits >> i & 1) == 1;
        }
    }

    /** The pay that makes each STITCH pay an hour alike, as it was found last. */
    private static final class EvenPay {
        private static final int PAY_MOST = 2000;
        private static final int SECONDS_OF_HOUR = 3600;
        private static final int PLAIN_SKILL = 100;

        int pay;
        int change;
        private int gap;
        private final int[] rates = new int[STITCH_KINDS];
        private final int[] times = new int[STITCH_KINDS];
        private final int[] asked = new int[ASKED_KINDS];

        /** False if no pay is possible. */
        boolean find(World world, int dealer, int g) {
            gap = g;
            takeRates(world, dealer);
            pay = NONE;
            change = 0;
            int highest = highestPay();
            boolean goesOn = true;
            for (int w = 1; w <= PAY_MOST && goesOn; w++) {
                int changed = changeFor(w);
                if (changed != NONE && (pay == NONE || changed < change)) {
                    pay = w;
                    change = changed;
                }
                // Above all that is paid now each rate only goes up with w: the first w there is the best there.
                goesOn = changed == NONE || w <= highest;
            }
            return pay != NONE;
        }

        private int highestPay() {
            int highest = 0;
            for (int stitch = 0; stitch < STITCH_KINDS; stitch++) {
                if (times[stitch] > 0) {
                    highest = Math.max(highest, rates[stitch] * SECONDS_OF_HOUR / times[stitch]);
                }
            }
            return highest;
        }

        private void takeRates(World world, int dealer) {
            int week = weekOf(world.day);
            TermList list = world.listAt(world.listKnown(dealer, week, world.day));
            Arrays.fill(asked, 0);
            asked[SKILL] = PLAIN_SKILL;
            asked[WEEK] = week;
            for (int stitch = 0; stitch < STITCH_KINDS; stitch++) {
                asked[STITCH] = stitch;
                rates[stitch] = termOf(list, RATE, asked);
                times[stitch] = world.times[stitch];
            }
        }

        /** How much is changed together for a pay; NONE if a STITCH has no rate for it. */
        private int changeFor(int w) {
            int sum = 0;
            for (int stitch = 0; stitch < STITCH_KINDS; stitch++) {
                int rate = nearestRate(w, times[stitch], rates[stitch]);
                if (rate == NONE) {
                    return NONE;
                }
                sum += Math.abs(rate - rates[stitch]);
            }
            return sum;
        }

        int newRate(int stitch, int w) {
            return isStitch(stitch) ? nearestRate(w, times[stitch], rates[stitch]) : NONE;
        }

        /** Rates that pay w .. w + gap stand in one row without holes, so the nearest is an end of it or the RATE. */
        private int nearestRate(int w, int time, int rate) {
            int least = leastRateFor(w, time);
            int most = Math.min(NUMBER_MOST, leastRateFor(w + gap + 1, time) - 1);
            return least > most ? NONE : Math.max(least, Math.min(most, rate));
        }

        private static int leastRateFor(int w, int time) {
            return (w * time + SECONDS_OF_HOUR - 1) / SECONDS_OF_HOUR;
        }
    }
}
