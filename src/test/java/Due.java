/** Counts and prints the calls whose answer is not the one that is due. */
final class Due {
    private static int calls = 0;
    private static int wrong = 0;
    private static String by = "";

    private Due() {
    }

    /** What is due from here on is so by these words of a promise; they must stand in the document. */
    static void promise(int number, String words) {
        begin("promise " + number, Document.promise(number), words);
    }

    /** As promise(), for one of the four paragraphs of terms with the text blocks under it. */
    static void terms(int number, String words) {
        begin("terms " + number, Document.terms(number), words);
    }

    /** As promise(), for words outside of promises and terms. */
    static void words(String words) {
        begin("document", Document.whole(), words);
    }

    private static void begin(String where, String text, String words) {
        by = where + " [" + words + "]: ";
        yes("these words stand there", text.contains(words));
    }

    static void is(String call, long got, long want) {
        calls++;
        if (got != want) {
            wrong++;
            System.out.println(by + call + " answered " + got + ", due is " + want);
        }
    }

    /** Two texts of many lines; the first line that is not the same is told. */
    static void same(String call, String got, String want) {
        calls++;
        if (!got.equals(want)) {
            wrong++;
            String[] gotLines = got.split("\n");
            String[] wantLines = want.split("\n");
            int at = 0;
            while (at < gotLines.length - 1 && at < wantLines.length - 1 && gotLines[at].equals(wantLines[at])) {
                at++;
            }
            System.out.println(by + call + " shows " + gotLines[at] + ", due is " + wantLines[at]);
        }
    }

    static void yes(String call, boolean got) {
        is(call, got ? 1 : 0, 1);
    }

    static void no(String call, boolean got) {
        is(call, got ? 1 : 0, 0);
    }

    /** Feeds a text, each sign as one byte, behind what the tape has, and ends it there. */
    static void feed(NeedleHomes x, int had, String text) {
        for (int from = 0; from < text.length(); from += 20) {
            x.feed(four(text, from), four(text, from + 4), four(text, from + 8), four(text, from + 12),
                    four(text, from + 16));
        }
        is("end of " + text, x.end(had + text.length()), had + text.length());
    }

    static int four(String text, int from) {
        int number = 0;
        for (int i = from; i < from + 4; i++) {
            number = number << 8 | (i < text.length() ? text.charAt(i) : 0);
        }
        return number;
    }

    static int pattern(NeedleHomes x, String text, int ground, int marks) {
        feed(x, 0, text);
        return x.pattern(ground, marks);
    }

    static int list(NeedleHomes x, String text, int dealer, int week) {
        feed(x, 0, text);
        return x.list(dealer, week);
    }

    /** A text that has no FAULT, told for its use. */
    static void goodPattern(NeedleHomes x, String text, int ground, int marks, int number) {
        is("pattern " + text, pattern(x, text, ground, marks), number);
        is("fault of " + text, x.fault(0), 0);
        is("place of " + text, x.fault(1), NeedleHomes.NONE);
    }

    static void goodList(NeedleHomes x, String text, int dealer, int week, int number) {
        is("list " + text, list(x, text, dealer, week), number);
        is("fault of " + text, x.fault(0), 0);
        is("place of " + text, x.fault(1), NeedleHomes.NONE);
    }

    static void badPattern(String text, int fault, int place) {
        NeedleHomes x = new NeedleHomes();
        badPatternIn(x, text, fault, place);
        is("patterns with " + text, x.count(0), 0);
        is("tape behind " + text, x.end(1), NeedleHomes.NONE);
    }

    static void badPatternIn(NeedleHomes x, String text, int fault, int place) {
        is("pattern " + text, pattern(x, text, 0, 0), NeedleHomes.NONE);
        is("fault of " + text, x.fault(0), fault);
        is("place of " + text, x.fault(1), place);
    }

    static void badList(String text, int fault, int place) {
        NeedleHomes x = new NeedleHomes();
        badListIn(x, text, fault, place);
        is("lists with " + text, x.count(1), 0);
        is("tape behind " + text, x.end(1), NeedleHomes.NONE);
    }

    static void badListIn(NeedleHomes x, String text, int fault, int place) {
        is("list " + text, list(x, text, 0, 0), NeedleHomes.NONE);
        is("fault of " + text, x.fault(0), fault);
        is("place of " + text, x.fault(1), place);
    }

    /** The last line of each test: exit code 1 if an answer was wrong. */
    static void end() {
        System.out.println(calls + " answers, " + wrong + " not as due");
        if (wrong != 0 || calls == 0) {
            System.exit(1);
        }
    }
}
