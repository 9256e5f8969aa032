/** Promises 4, 6, 7 and 8 and the first paragraph of terms, sentence by sentence: texts of patterns. */
public final class PatternEdgesTest {
    private static final int MARKS_MOST = (1 << 24) - 1;

    public static void main(String[] args) {
        wordsAreRowsOfLetters();
        eachByteBehindAnItem();
        eachByteAtTheFront();
        numbersHaveOneToFourDigits();
        faultOneIsAtTheFirstByteOfATokenOrAtTheEnd();
        itemsAreSixStitchesAColourAndTimes();
        theColourAtHandGoesOn();
        aColourAboveThreeIsFaultTwo();
        noTimesAreFaultTwo();
        sixWithinOneAnotherAreTaken();
        theFirstFaultByPlaceIsTold();
        faultOneGoesBeforeOthers();
        aMillionStitchesAreTaken();
        manyStitchesNeverGoRound();
        eachTextBeginsAnew();
        theTapeIsTaken();
        patternsAreNumberedFromNull();
        aFaultIsNone();
        aNinthIsRefused();
        anotherGroundIsRefused();
        otherMarksAreRefused();
        noTextIsReadWhenRefused();
        faultIsOfTheLatest();
        faultHasTwoWhats();
        countsAreOfStitchAndColour();
        stitchesOfNoneAreNone();
        aboutTellsFive();
        aboutOfNoneIsRefused();
        Due.end();
    }

    private static int textOf(NeedleHomes x, String text) {
        return Due.pattern(x, text, 0, 0);
    }

    /** A text without a FAULT, and how many of one STITCH and COLOUR it has. */
    private static void has(String text, int stitch, int colour, int many) {
        NeedleHomes x = new NeedleHomes();
        Due.goodPattern(x, text, 0, 0, 0);
        Due.is(text + " has of " + stitch + " in " + colour, x.stitches(0, stitch, colour), many);
    }

    private static void wordsAreRowsOfLetters() {
        Due.terms(1, "TOKENS of a text, as long as they go, blanks (10, 32) between");
        Due.badPattern("ab1", 1, 0);
        Due.badPattern("aa1", 1, 0);
        Due.badPattern("ka1", 1, 0);
        Due.badPattern("a1bc2", 1, 2);
        Due.badPattern("a b1", 1, 2);
        Due.badPattern("a1 2", 1, 4);
        has("a1\n \nb2", 1, 0, 2);
        has("a 1 b2", 0, 0, 1);
        has("1[a2]3[a4]", 0, 0, 14);
        has("1 \n [ a 2 ]\n", 0, 0, 2);
    }

    /** Behind a1 a digit makes the number longer, a blank ends it, and a letter begins a word. */
    private static void eachByteBehindAnItem() {
        Due.terms(1, "WORDS, rows of letters a .. z; NUMBERS, 1 to 4 digits; signs [ ] : ; < > = one byte each");
        for (int b = 0; b < 256; b++) {
            String text = "a1" + (char) b;
            if (b >= '0' && b <= '9') {
                has(text, 0, 0, 10 + b - '0');
            } else if (b == 10 || b == 32) {
                has(text, 0, 0, 1);
            } else {
                boolean isItem = b >= 'a' && b <= 'f' || b == 'k';
                Due.badPattern(text, 1, isItem ? 3 : 2);
            }
        }
    }

    private static void eachByteAtTheFront() {
        Due.terms(1, "WORDS, rows of letters a .. z; NUMBERS, 1 to 4 digits");
        for (int b = 0; b < 256; b++) {
            String text = (char) b + "1";
            boolean goesOn = b >= '0' && b <= '9' || b == 10 || b == 32;
            if (b >= 'a' && b <= 'f') {
                has(text, b - 'a', 0, 1);
            } else if (b == 'k') {
                has(text, 0, 0, 0);
            } else {
                Due.badPattern(text, 1, goesOn ? 2 : 0);
            }
        }
    }

    private static void numbersHaveOneToFourDigits() {
        Due.terms(1, "NUMBERS, 1 to 4 digits");
        has("a0", 0, 0, 0);
        has("a1", 0, 0, 1);
        has("a12", 0, 0, 12);
        has("a123", 0, 0, 123);
        has("a1234", 0, 0, 1234);
        has("a9999", 0, 0, 9999);
        has("a0009", 0, 0, 9);
        Due.badPattern("a", 1, 1);
        Due.badPattern("a12345", 1, 1);
        Due.badPattern("a00009", 1, 1);
        Due.badPattern("a1k00003", 1, 3);
        Due.badPattern("12345[]", 1, 0);
        Due.badPattern("1".repeat(400), 1, 0);
        has("1234[a1]", 0, 0, 1234);
    }

    private static void faultOneIsAtTheFirstByteOfATokenOrAtTheEnd() {
        Due.terms(1, "(a token's first byte; the end's; a longer row of digits is no token)");
        Due.badPattern("a1 xyz2", 1, 3);
        Due.badPattern("a1 23 xyz", 1, 6);
        Due.badPattern("a1 2[ 98765", 1, 6);
        Due.badPattern("a", 1, 1);
        Due.badPattern("a1 k \n", 1, 6);
        Due.badPattern("3[a1 ", 1, 5);
        Due.badPattern("!", 1, 0);
        Due.badPattern("\n\n!", 1, 2);
        Due.badPattern("a1 !x1 !", 1, 3);
        Due.badPattern("a1 ".repeat(133) + "b", 1, 400);
        Due.badPattern("a1 ".repeat(133) + "!", 1, 399);
    }

    private static void itemsAreSixStitchesAColourAndTimes() {
        Due.terms(1, "A PATTERN is a text: {ITEM}");
        has("", 0, 0, 0);
        has(" ", 0, 0, 0);
        has(" \n".repeat(200), 0, 0, 0);
        Due.terms(1, "ITEM: ('a' | 'b' | 'c' | 'd' | 'e' | 'f') NUMBER: so many STITCHES of KIND 0 .. 5");
        for (int kind = 0; kind < 6; kind++) {
            has((char) ('a' + kind) + "7", kind, 0, 7);
        }
        Due.badPattern("g7", 1, 0);
        Due.badPattern("j7", 1, 0);
        Due.badPattern("l7", 1, 0);
        Due.badPattern("[]", 1, 0);
        Due.badPattern("1]", 1, 1);
        Due.badPattern("1[]]", 1, 3);
        Due.badPattern("1[", 1, 2);
        has("1[]", 0, 0, 0);
        has("1[]".repeat(133), 0, 0, 0);
    }

    private static void theColourAtHandGoesOn() {
        Due.terms(1, "in the COLOUR at hand (0 at first)");
        has("a4", 0, 0, 4);
        Due.terms(1, "'k' NUMBER: the COLOUR at hand from now on");
        has("a4k2a5", 0, 0, 4);
        has("a4k2a5", 0, 2, 5);
        has("k1k2a5", 0, 1, 0);
        Due.terms(1, "(the COLOUR at hand goes on from each to the next, and behind it)");
        has("2[a1k3]", 0, 0, 1);
        has("2[a1k3]", 0, 3, 1);
        has("1[a1k3]", 0, 3, 0);
        has("1[k3]a9", 0, 3, 9);
        has("k2 1[1[a9]]", 0, 2, 9);
        has("3[a1k1a1k2]a1", 0, 2, 3);
        has("9999[k1]a9", 0, 1, 9);
        has("k2 3[k0 a5]", 0, 0, 15);
        has("k2 3[a1 k0 a5]", 0, 0, 17);
        has("k2 3[a1 k0 a5]", 0, 2, 1);
        has("3[k1 2[a1 k0] a1]a1", 0, 0, 7);
    }

    private static void aColourAboveThreeIsFaultTwo() {
        Due.terms(1, "2 a NUMBER behind k that is above 3");
        for (int colour = 0; colour <= 3; colour++) {
            has("k" + colour + "a1", 0, colour, 1);
        }
        has("k0003a1", 0, 3, 1);
        Due.badPattern("k4", 2, 1);
        Due.badPattern("k 4", 2, 2);
        Due.badPattern("k0004", 2, 1);
        Due.badPattern("k9999", 2, 1);
        Due.badPattern("a1 1[k 10]", 2, 7);
    }

    private static void noTimesAreFaultTwo() {
        Due.terms(1, "or one ahead of [ that is 0 (at the NUMBER)");
        has("1[a1]", 0, 0, 1);
        has("9999[a1]", 0, 0, 9999);
        Due.badPattern("0[a1]", 2, 0);
        Due.badPattern("a0 0[]", 2, 3);
        Due.badPattern("a0 0 []", 2, 3);
        Due.badPattern("0000[]", 2, 0);
    }

    private static void sixWithinOneAnotherAreTaken() {
        Due.terms(1, "3 a [ within six others (at the [)");
        has("2[2[2[2[2[2[a1]]]]]]", 0, 0, 64);
        has("1[1[1[1[1[1[a1]1[a2]]]]1[1[1[a4]]]]]", 0, 0, 7);
        Due.badPattern("2[2[2[2[2[2[2[a1]]]]]]]", 3, 13);
        Due.badPattern("2[2[2[2[2[2[2  [a1]]]]]]]", 3, 15);
        Due.badPattern("1[1[1[1[1[1[]1[]1[1[]]]]]]]", 3, 19);
        Due.badPattern("1[1[1[1[1[1[]]]]]]1[1[1[1[1[1[1[]]]]]]]", 3, 31);
    }

    private static void theFirstFaultByPlaceIsTold() {
        Due.terms(1, "Other FAULTS, if there is no FAULT 1, the first by place");
        Due.badPattern("k4 0[]", 2, 1);
        Due.badPattern("0[] k4", 2, 0);
        Due.badPattern("k4k5", 2, 1);
        Due.badPattern("1[1[1[1[1[1[1[k4]]]]]]]", 3, 13);
        Due.badPattern("1[1[1[1[1[1[k4 1[]]]]]]]", 2, 13);
        Due.badPattern("1[1[1[1[1[1[0[]]]]]]]", 2, 12);
        Due.badPattern("0[1[1[1[1[1[1[]]]]]]]", 2, 0);
        Due.badPattern("1[1[1[1[1[1[1[1[]]]]]]]]", 3, 13);
    }

    private static void faultOneGoesBeforeOthers() {
        Due.terms(1, "if there is no FAULT 1");
        Due.badPattern("k4 !", 1, 3);
        Due.badPattern("0[", 1, 2);
        Due.badPattern("0", 1, 1);
        Due.badPattern("1[1[1[1[1[1[1[", 1, 14);
        Due.badPattern("1[1[1[1[1[1[1[]]]]]]]]", 1, 21);
        Due.badPattern("1000[a9999] g", 1, 12);
    }

    private static void aMillionStitchesAreTaken() {
        Due.terms(1, "if there is none of these: 4 at place 0: more than 1000000 STITCHES in all.");
        has("1000[a1000]", 0, 0, 1000000);
        has("100[a9999]a100", 0, 0, 1000000);
        has("1000[a500k1f500]", 5, 1, 500000);
        has("9999[9999[9999[9999[9999[9999[a0]]]]]]", 0, 0, 0);
        Due.badPattern("1000[a1000]a1", 4, 0);
        Due.badPattern("1000[a1000]f1", 4, 0);
        Due.badPattern("1000[a1000]k3f1", 4, 0);
        Due.badPattern("  \n1000[a1000]a1", 4, 0);
        Due.badPattern("1000[a500k1f500]k2c1", 4, 0);
        Due.badPattern("1[1000[a1000]1[a1]]", 4, 0);
        Due.badPattern("k4 1000[a1001]", 2, 1);
        Due.badPattern("1000[a1001]k4", 2, 12);
    }

    private static void manyStitchesNeverGoRound() {
        Due.terms(1, "4 at place 0: more than 1000000 STITCHES in all.");
        Due.badPattern("2048[1024[1024[a1]]]", 4, 0);
        Due.badPattern("4096[1024[1024[a1]]]", 4, 0);
        Due.badPattern("4096[1024[1024[a1]]]a5", 4, 0);
        Due.badPattern("4096[4096[4096[4096[4096[8[a1]]]]]]", 4, 0);
        Due.badPattern("4096[4096[4096[4096[4096[16[a1]]]]]]", 4, 0);
        Due.badPattern("4096[4096[4096[4096[4096[16[a1k1]]]]]]", 4, 0);
        Due.badPattern("k1 16[4096[4096[4096[4096[4096[k1a1]]]]]]b1", 4, 0);
        Due.badPattern("9999[9999[9999[9999[9999[9999[a9999b9999c9999k1d9999e9999f9999k2]]]]]]", 4, 0);
    }

    /** Nothing of a text before goes on into the next one: no [ that is open, no COLOUR, no STITCHES. */
    private static void eachTextBeginsAnew() {
        Due.terms(1, "A PATTERN is a text: {ITEM}");
        String[] before = {"k3 a9 5[b9", "k3 1[1[1[1[1[1[1[", "k4 a9", "0[", "k2 1000[a1001]", "k1 a9 b9", "5[k2 a9"};
        for (String text : before) {
            NeedleHomes x = new NeedleHomes();
            textOf(x, text);
            int number = x.count(0);
            Due.goodPattern(x, "a1 2[b2]", 0, 0, number);
            Due.is("a behind " + text, x.stitches(number, 0, 0), 1);
            Due.is("b behind " + text, x.stitches(number, 1, 0), 4);
            Due.is("all behind " + text, x.about(number, 2), 5);
            Due.badPatternIn(x, "a1]", 1, 2);
        }
    }

    private static void theTapeIsTaken() {
        Due.promise(4, "The tape is taken (and is empty then)");
        String[] texts = {"a1", "", "a", "k4", "1000[a1001]"};
        for (String text : texts) {
            NeedleHomes x = new NeedleHomes();
            textOf(x, text);
            Due.is("one byte behind " + text, x.end(1), -1);
            Due.is("none behind " + text, x.end(0), 0);
            int before = x.count(0);
            Due.is("the empty tape behind " + text, x.pattern(0, 0), before);
            Due.is("its stitches", x.about(before, 2), 0);
        }
        Due.promise(4, "-2: there are 8, another GROUND, MARKS");
        int[][] others = {{4, 0}, {-1, 0}, {0, 1 << 24}, {0, -1}};
        for (int[] other : others) {
            NeedleHomes x = new NeedleHomes();
            Due.is("pattern", Due.pattern(x, "a1", other[0], other[1]), -2);
            Due.is("one byte behind it", x.end(1), -1);
        }
    }

    private static void patternsAreNumberedFromNull() {
        Due.promise(4, "as a PATTERN: its number");
        Due.terms(1, "PATTERNS, at most 8, from 0 on");
        NeedleHomes x = new NeedleHomes();
        for (int i = 0; i < 8; i++) {
            Due.goodPattern(x, "a" + (i + 1), i % 4, i, i);
            if (i < 7) {
                Due.badPatternIn(x, "a", 1, 1);
            }
        }
        for (int i = 0; i < 8; i++) {
            Due.is("stitches of " + i, x.about(i, 2), i + 1);
            Due.is("ground of " + i, x.about(i, 0), i % 4);
            Due.is("marks of " + i, x.about(i, 1), i);
        }
    }

    private static void aFaultIsNone() {
        Due.promise(4, "NONE: a FAULT");
        String[] texts = {"!", "k4", "1[1[1[1[1[1[1[]]]]]]]", "1000[a1001]"};
        for (int i = 0; i < texts.length; i++) {
            NeedleHomes x = new NeedleHomes();
            Due.is("pattern " + texts[i], textOf(x, texts[i]), -1);
            Due.is("fault of " + texts[i], x.fault(0), i + 1);
            Due.is("count(0)", x.count(0), 0);
            Due.is("about(0, 0)", x.about(0, 0), -2);
        }
        Full.refuses("a faulty pattern", -1, x -> {
            x.end(0);
            int answer = Due.pattern(x, Full.FAULTY, 0, 0);
            Due.feed(x, 0, Full.TAPE);
            return answer;
        });
    }

    private static NeedleHomes eight() {
        NeedleHomes x = new NeedleHomes();
        for (int i = 0; i < 8; i++) {
            Due.is("pattern " + i, x.pattern(3, MARKS_MOST), i);
        }
        return x;
    }

    private static void aNinthIsRefused() {
        Due.promise(4, "-2: there are 8");
        String[] texts = {"", "a5", "a", "k4"};
        for (String text : texts) {
            NeedleHomes x = eight();
            Due.is("a ninth", textOf(x, text), -2);
            Due.is("count(0)", x.count(0), 8);
            Due.is("about(8, 0)", x.about(8, 0), -2);
            Due.is("stitches(8, 0, 0)", x.stitches(8, 0, 0), -1);
            Due.is("the eighth stays", x.about(7, 2), 0);
            Due.is("the first stays", x.about(0, 2), 0);
            Due.is("the tape is taken", x.end(1), -1);
        }
    }

    private static void anotherGroundIsRefused() {
        Due.promise(4, "another GROUND");
        Due.terms(1, "have a GROUND, 0 .. 3");
        for (int ground = 0; ground <= 3; ground++) {
            NeedleHomes x = new NeedleHomes();
            Due.is("ground " + ground, x.pattern(ground, 0), 0);
            Due.is("it is told", x.about(0, 0), ground);
        }
        int[] others = {-1, 4, 5, 256, Integer.MIN_VALUE, Integer.MAX_VALUE};
        for (int ground : others) {
            NeedleHomes x = new NeedleHomes();
            Due.is("ground " + ground, Due.pattern(x, "a1", ground, 0), -2);
            Due.is("count(0)", x.count(0), 0);
        }
    }

    private static void otherMarksAreRefused() {
        Due.promise(4, "another GROUND, MARKS");
        Due.terms(1, "and MARKS (bits 0 .. 23)");
        int[] taken = {0, 1, 1 << 23, MARKS_MOST - 1, MARKS_MOST};
        for (int marks : taken) {
            NeedleHomes x = new NeedleHomes();
            Due.is("marks " + marks, x.pattern(0, marks), 0);
            Due.is("they are told", x.about(0, 1), marks);
        }
        int[] others = {-1, 1 << 24, MARKS_MOST + 2, 1 << 30, Integer.MIN_VALUE, Integer.MIN_VALUE + 1, Integer.MAX_VALUE};
        for (int marks : others) {
            NeedleHomes x = new NeedleHomes();
            Due.is("marks " + marks, Due.pattern(x, "a1", 0, marks), -2);
            Due.is("count(0)", x.count(0), 0);
        }
    }

    private static void noTextIsReadWhenRefused() {
        Due.promise(4, "(no text is read then, FAULT 0)");
        int[][] others = {{4, 0}, {-1, 0}, {0, 1 << 24}, {0, -1}};
        for (int[] other : others) {
            NeedleHomes x = new NeedleHomes();
            Due.badPatternIn(x, "!", 1, 0);
            Due.is("a faulty text", Due.pattern(x, " !", other[0], other[1]), -2);
            Due.is("fault(0)", x.fault(0), 0);
            Due.is("fault(1)", x.fault(1), -1);
        }
        for (int[] other : others) {
            Full.refuses("pattern(" + other[0] + ", " + other[1] + ")", -2, x -> {
                int answer = x.pattern(other[0], other[1]);
                Due.pattern(x, Full.FAULTY, 0, 0);
                Due.feed(x, 0, Full.TAPE);
                return answer;
            });
        }
        NeedleHomes x = eight();
        Due.badListIn(x, "!", 1, 0);
        Due.is("a ninth", textOf(x, "!"), -2);
        Due.is("fault(0)", x.fault(0), 0);
        Due.is("fault(1)", x.fault(1), -1);
    }

    private static void faultIsOfTheLatest() {
        Due.promise(6, "Of the latest pattern() or list(), what 0: the FAULT, 0 without, 1: its place, NONE without");
        NeedleHomes x = new NeedleHomes();
        Due.is("fault(0) at first", x.fault(0), 0);
        Due.is("fault(1) at first", x.fault(1), -1);
        Due.badPatternIn(x, "a1 !", 1, 3);
        Due.is("fault(0) asked anew", x.fault(0), 1);
        Due.is("fault(1) asked anew", x.fault(1), 3);
        Due.badListIn(x, "rate:1; part:101;", 2, 13);
        Due.badPatternIn(x, "k4", 2, 1);
        Due.goodList(x, "rate:1;", 0, 0, 0);
        Due.badListIn(x, "!", 1, 0);
        Due.goodPattern(x, "a1", 0, 0, 0);
        Due.badPatternIn(x, "1000[a1001]", 4, 0);
        x.feed(1, 2, 3, 4, 5);
        x.end(0);
        x.hand(1, 1, 1);
        Due.is("fault(0) behind other calls", x.fault(0), 4);
        Due.is("fault(1) behind other calls", x.fault(1), 0);
        Due.is("list(3, 0)", x.list(3, 0), -2);
        Due.is("fault(0) of list(3, 0)", x.fault(0), 0);
        Due.is("fault(1) of list(3, 0)", x.fault(1), -1);
    }

    private static void faultHasTwoWhats() {
        Due.promise(6, "NONE for another what.");
        NeedleHomes x = new NeedleHomes();
        Due.badPatternIn(x, "a1 !", 1, 3);
        int[] others = {-1, 2, 3, Integer.MIN_VALUE, Integer.MAX_VALUE};
        for (int what : others) {
            Due.is("fault(" + what + ")", x.fault(what), -1);
            Full.refuses("fault(" + what + ")", -1, y -> y.fault(what));
        }
    }

    private static void countsAreOfStitchAndColour() {
        Due.promise(7, "COUNT");
        Due.terms(1, "COUNT of a STITCH and COLOUR: how many there are.");
        Due.terms(1, "STITCHES are 0 .. 5, COLOURS 0 .. 3");
        NeedleHomes x = new NeedleHomes();
        StringBuilder text = new StringBuilder();
        for (int colour = 0; colour < 4; colour++) {
            text.append('k').append(colour);
            for (int stitch = 0; stitch < 6; stitch++) {
                text.append((char) ('a' + stitch)).append(10 * stitch + colour);
            }
        }
        Due.goodPattern(x, text.toString(), 0, 0, 0);
        Due.goodPattern(x, "a1", 0, 0, 1);
        for (int stitch = 0; stitch < 6; stitch++) {
            for (int colour = 0; colour < 4; colour++) {
                Due.is(stitch + " in " + colour, x.stitches(0, stitch, colour), 10 * stitch + colour);
                Due.is(stitch + " in " + colour + " of another", x.stitches(1, stitch, colour), stitch + colour == 0 ? 1 : 0);
            }
        }
    }

    private static void stitchesOfNoneAreNone() {
        Due.promise(7, "NONE: there is none such (of any).");
        int[][] others = {{-1, 0, 0}, {3, 0, 0}, {8, 0, 0}, {0, -1, 0}, {0, 6, 0}, {0, 0, -1}, {0, 0, 4}, {1, -1, 4},
            {Integer.MIN_VALUE, 0, 0}, {Integer.MAX_VALUE, 0, 0}, {0, Integer.MIN_VALUE, 0}, {0, Integer.MAX_VALUE, 0},
            {0, 0, Integer.MIN_VALUE}, {0, 0, Integer.MAX_VALUE}};
        for (int[] o : others) {
            Full.refuses("stitches(" + o[0] + ", " + o[1] + ", " + o[2] + ")", -1, x -> x.stitches(o[0], o[1], o[2]));
        }
        Full.refuses("stitches(2, 5, 3)", 0, x -> x.stitches(2, 5, 3));
        NeedleHomes x = eight();
        Due.is("stitches(7, 5, 3)", x.stitches(7, 5, 3), 0);
        Due.is("stitches(8, 5, 3)", x.stitches(8, 5, 3), -1);
    }

    private static void aboutTellsFive() {
        Due.promise(8, "what 0: GROUND, 1: MARKS, 2: STITCHES in all, 3: how many kinds of STITCHES, 4: how many COLOURS it has");
        String[] texts = {"", "a0", "k1b0k3", "a1", "k3f1", "a1k1a1k2a1k3a1", "a1b1c1d1e1f1", "a1k1b1k2c1k3d1e1f1",
            "1000[a1000]", "k2c5k1c5"};
        int[][] wanted = {{0, 0, 0}, {0, 0, 0}, {0, 0, 0}, {1, 1, 1}, {1, 1, 1}, {4, 1, 4}, {6, 6, 1}, {6, 6, 4},
            {1000000, 1, 1}, {10, 1, 2}};
        for (int i = 0; i < texts.length; i++) {
            NeedleHomes x = new NeedleHomes();
            Due.goodPattern(x, texts[i], 2, 77 + i, 0);
            Due.is("ground", x.about(0, 0), 2);
            Due.is("marks", x.about(0, 1), 77 + i);
            for (int what = 2; what <= 4; what++) {
                Due.is("about(0, " + what + ") of " + texts[i], x.about(0, what), wanted[i][what - 2]);
            }
        }
    }

    private static void aboutOfNoneIsRefused() {
        Due.promise(8, "-2 if there is none such, or for another what.");
        int[][] others = {{-1, 0}, {3, 0}, {8, 0}, {Integer.MIN_VALUE, 0}, {Integer.MAX_VALUE, 0}, {0, -1}, {0, 5},
            {0, Integer.MIN_VALUE}, {0, Integer.MAX_VALUE}, {3, 5}};
        for (int[] o : others) {
            Full.refuses("about(" + o[0] + ", " + o[1] + ")", -2, x -> x.about(o[0], o[1]));
        }
        NeedleHomes x = eight();
        Due.is("about(7, 1)", x.about(7, 1), MARKS_MOST);
        Due.is("about(8, 1)", x.about(8, 1), -2);
    }
}
