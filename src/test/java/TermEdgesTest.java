/** Promise 16 and what the second paragraph of terms says of it, sentence by sentence. */
public final class TermEdgesTest {
    private static final int RATE = 0;
    private static final int THREAD = 1;
    private static final int FINE = 2;
    private static final int LATE = 3;
    private static final int DAYS = 4;
    private static final int PART = 5;
    private static final int[] WITHOUT = {10, 5, 0, 0, 7, 0};

    public static void main(String[] args) {
        withoutAListTermsArePlain();
        withoutALineTermsArePlain();
        theFirstLineThatHolds();
        allTestsMustHold();
        theLastTestOfTheLastLineCounts();
        stitchAndColourAreThoseAskedFor();
        stitchAndColourAreNineOfTheOthers();
        groundIsOfThePattern();
        sizeIsCut();
        sizeIsAtMost();
        skillIsOfTheHand();
        spotsAreNone();
        weekIsThatOfNow();
        hayIsOfTheHandInThatWeek();
        asKnownNow();
        stitchAndColourCountForNothing();
        ofNoneIsNone();
        Due.end();
    }

    private static NeedleHomes one(String pattern, int ground, int skill) {
        NeedleHomes x = new NeedleHomes();
        Due.goodPattern(x, pattern, ground, 0, 0);
        x.hand(skill, 1, 0);
        return x;
    }

    private static void term(NeedleHomes x, int topic, int want) {
        Due.is("term of topic " + topic, x.term(topic, 0, 0, 0, 0, 0), want);
    }

    /** Whether a TEST holds, seen by a LIST that is told of it anew. */
    private static void holds(NeedleHomes x, String test, boolean want) {
        x.image(2);
        Due.list(x, "fine if " + test + ":1;", 0, 0);
        Due.is(test + " holds", x.term(FINE, 0, 0, 0, 0, 0), want ? 1 : 0);
        Due.list(x, "fine if not " + test + ":1;", 0, 0);
        Due.is("not " + test + " holds", x.term(FINE, 0, 0, 0, 0, 0), want ? 0 : 1);
        x.again(2);
    }

    /** All signs about a number: it is this one, and neither below nor above. */
    private static void isNumber(NeedleHomes x, String what, int number) {
        holds(x, what + "=" + number, true);
        holds(x, what + "<" + number, false);
        holds(x, what + ">" + number, false);
        if (number < 9999) {
            holds(x, what + "<" + (number + 1), true);
            holds(x, what + "=" + (number + 1), false);
        }
        if (number > 0) {
            holds(x, what + ">" + (number - 1), true);
            holds(x, what + "=" + (number - 1), false);
        }
    }

    private static void withoutAListTermsArePlain() {
        Due.terms(2, "without one (or without a LIST) 10 of rate, 5 of thread, 0 of fine, late, part, 7 of days");
        NeedleHomes x = one("a1", 0, 1);
        Due.goodList(x, "rate:1;thread:1;fine:1;late:1;days:1;part:1;", 1, 0, 0);
        Due.goodList(x, "rate:1;thread:1;fine:1;late:1;days:1;part:1;", 0, 1, 1);
        for (int topic = RATE; topic <= PART; topic++) {
            term(x, topic, WITHOUT[topic]);
            Due.is("of dealer 1", x.term(topic, 1, 0, 0, 0, 0), 1);
            Due.is("of dealer 2", x.term(topic, 2, 0, 0, 0, 0), WITHOUT[topic]);
        }
    }

    private static void withoutALineTermsArePlain() {
        Due.terms(2, "without one (or without a LIST) 10 of rate, 5 of thread, 0 of fine, late, part, 7 of days");
        String[] topics = {"rate", "thread", "fine", "late", "days", "part"};
        String none = "rate if size>9998:1;thread if size>9998:1;fine if size>9998:1;late if size>9998:1;"
                + "days if size>9998:1;part if size>9998:1;";
        NeedleHomes x = one("a1", 0, 1);
        Due.goodList(x, "", 0, 0, 0);
        NeedleHomes y = one("a1", 0, 1);
        Due.goodList(y, none, 0, 0, 0);
        for (int topic = RATE; topic <= PART; topic++) {
            term(x, topic, WITHOUT[topic]);
            term(y, topic, WITHOUT[topic]);
            NeedleHomes z = one("a1", 0, 1);
            Due.goodList(z, topics[topic] + ":77;", 0, 0, 0);
            for (int other = RATE; other <= PART; other++) {
                term(z, other, other == topic ? 77 : WITHOUT[other]);
            }
        }
    }

    private static void theFirstLineThatHolds() {
        Due.terms(2, "TERM of a TOPIC: the NUMBER of the first LINE of it whose TESTS all hold");
        NeedleHomes x = one("a1", 0, 1);
        Due.goodList(x, "fine if hay:1;fine:2;fine if not hay:3;fine:4;", 0, 0, 0);
        term(x, FINE, 2);
        Due.goodList(x, "late:1;".repeat(15) + "fine:9999;", 0, 0, 1);
        term(x, FINE, 9999);
        Due.goodList(x, "fine:0;fine:5;days:0;rate:0;thread:0;", 0, 0, 2);
        term(x, FINE, 0);
        term(x, DAYS, 0);
        term(x, RATE, 0);
        term(x, THREAD, 0);
        Due.goodList(x, "part:100;late:9999;", 0, 0, 3);
        term(x, PART, 100);
        term(x, LATE, 9999);
    }

    private static void allTestsMustHold() {
        Due.terms(2, "whose TESTS all hold");
        String[] yes = {"ground=0", "spots=0", "week=0", "not hay"};
        for (int bad = -1; bad < 4; bad++) {
            StringBuilder text = new StringBuilder("late:1;late:1;late:1;fine if ");
            for (int i = 0; i < 4; i++) {
                text.append(i == 0 ? "" : " and ").append(i == bad ? "skill>1" : yes[i]);
            }
            NeedleHomes x = one("a1", 0, 1);
            Due.goodList(x, text.append(":3;").toString(), 0, 0, 0);
            term(x, FINE, bad < 0 ? 3 : 0);
        }
    }

    private static void theLastTestOfTheLastLineCounts() {
        Due.terms(2, "the first LINE of it whose TESTS all hold");
        String[] yes = {"ground=0", "spots=0", "week=0", "not hay"};
        for (int line = 0; line < 16; line++) {
            for (int bad = -1; bad < 8; bad++) {
                StringBuilder text = new StringBuilder("late:1;".repeat(line)).append("fine if ");
                for (int i = 0; i < 4; i++) {
                    text.append(i == 0 ? "" : " and ").append(i == bad ? "skill>1" : i == bad - 4 ? "hay" : yes[i]);
                }
                NeedleHomes x = one("a1", 0, 1);
                Due.goodList(x, text.append(":3;").toString(), 0, 0, 0);
                term(x, FINE, bad < 0 ? 3 : 0);
                term(x, LATE, line > 0 ? 1 : 0);
            }
        }
    }

    private static void stitchAndColourAreThoseAskedFor() {
        Due.terms(2, "stitch, colour: those that it is asked for, of rate and thread");
        for (int number = 0; number < 6; number++) {
            NeedleHomes x = one("", 0, 1);
            Due.goodList(x, "rate if stitch=" + number + ":1;thread if stitch=" + number + ":2;", 0, 0, 0);
            Due.goodList(x, "rate if colour=" + number + ":3;thread if colour=" + number + ":4;", 1, 0, 1);
            for (int stitch = 0; stitch < 6; stitch++) {
                for (int colour = 0; colour < 4; colour++) {
                    Due.is("rate", x.term(RATE, 0, 0, 0, stitch, colour), stitch == number ? 1 : 10);
                    Due.is("thread", x.term(THREAD, 0, 0, 0, stitch, colour), stitch == number ? 2 : 5);
                    Due.is("rate", x.term(RATE, 1, 0, 0, stitch, colour), colour == number ? 3 : 10);
                    Due.is("thread", x.term(THREAD, 1, 0, 0, stitch, colour), colour == number ? 4 : 5);
                }
            }
        }
    }

    private static void stitchAndColourAreNineOfTheOthers() {
        Due.terms(2, "9 of the others");
        String[] topics = {"fine", "late", "days", "part"};
        for (int topic = FINE; topic <= PART; topic++) {
            String name = topics[topic - FINE];
            NeedleHomes x = one("", 0, 1);
            Due.goodList(x, name + " if stitch=9 and colour=9:44;", 0, 0, 0);
            term(x, topic, 44);
            Due.goodList(x, name + " if stitch<9:44;" + name + " if colour<9:44;", 0, 0, 1);
            term(x, topic, WITHOUT[topic]);
            Due.goodList(x, name + " if stitch>9:44;" + name + " if colour>9:44;", 0, 0, 2);
            term(x, topic, WITHOUT[topic]);
            Due.goodList(x, name + " if stitch=0:44;" + name + " if colour=0:44;", 0, 0, 3);
            term(x, topic, WITHOUT[topic]);
        }
    }

    private static void groundIsOfThePattern() {
        Due.terms(2, "ground: of the PATTERN");
        for (int ground = 0; ground <= 3; ground++) {
            isNumber(one("a1", ground, 1), "ground", ground);
        }
    }

    private static void sizeIsCut() {
        Due.terms(2, "size: its STITCHES / 100, cut");
        isNumber(one("", 0, 1), "size", 0);
        isNumber(one("a99", 0, 1), "size", 0);
        isNumber(one("a100", 0, 1), "size", 1);
        isNumber(one("a99k1b99c1", 0, 1), "size", 1);
        isNumber(one("a199", 0, 1), "size", 1);
        isNumber(one("a200", 0, 1), "size", 2);
    }

    private static void sizeIsAtMost() {
        Due.terms(2, "9999 at most");
        isNumber(one("100[a9998]a99", 0, 1), "size", 9998);
        isNumber(one("100[a9999]", 0, 1), "size", 9999);
        isNumber(one("100[a9999]a99", 0, 1), "size", 9999);
        isNumber(one("1000[a1000]", 0, 1), "size", 9999);
    }

    private static void skillIsOfTheHand() {
        Due.terms(2, "skill: of the HAND");
        int[] skills = {1, 2, 100, 199, 200};
        for (int skill : skills) {
            isNumber(one("a1", 0, skill), "skill", skill);
        }
    }

    private static void spotsAreNone() {
        Due.promise(16, "without spots");
        NeedleHomes x = one("a100", 0, 1);
        x.out(0, 0, 0);
        x.in(0, 9, 0);
        isNumber(x, "spots", 0);
    }

    private static void weekIsThatOfNow() {
        Due.promise(16, "in the WEEK of now");
        int[][] days = {{0, 0}, {6, 0}, {7, 1}, {993, 141}, {994, 142}, {999, 142}};
        for (int[] row : days) {
            NeedleHomes x = one("a1", 0, 1);
            x.day(row[0]);
            isNumber(x, "week", row[1]);
        }
    }

    private static void hayIsOfTheHandInThatWeek() {
        Due.terms(2, "hay: the HAND has HAY in that WEEK.)");
        NeedleHomes x = one("a1", 0, 1);
        x.hand(1, 1, 1);
        x.hay(0, 1, true);
        x.hay(1, 0, true);
        x.hay(1, 2, true);
        x.day(6);
        holds(x, "hay", false);
        x.day(7);
        holds(x, "hay", true);
        x.day(13);
        holds(x, "hay", true);
        x.day(14);
        holds(x, "hay", false);
    }

    private static void asKnownNow() {
        Due.promise(16, "as known now");
        NeedleHomes x = one("a1", 0, 1);
        Due.goodList(x, "fine:1;", 0, 1, 0);
        term(x, FINE, 0);
        x.day(6);
        term(x, FINE, 0);
        x.day(7);
        term(x, FINE, 1);
        Due.goodList(x, "fine:2;", 0, 0, 1);
        term(x, FINE, 1);
        Due.goodList(x, "fine:3;", 0, 1, 2);
        term(x, FINE, 3);
        Due.goodList(x, "fine:4;", 0, 2, 3);
        term(x, FINE, 3);
        x.day(14);
        term(x, FINE, 4);
    }

    private static void stitchAndColourCountForNothing() {
        Due.promise(16, "STITCH and COLOUR (of rate and thread alone; else they count for nothing)");
        int[] numbers = {-1, 6, 9, Integer.MIN_VALUE, Integer.MAX_VALUE};
        for (int number : numbers) {
            NeedleHomes x = one("a1", 0, 1);
            for (int topic = FINE; topic <= PART; topic++) {
                Due.is("topic " + topic + " with stitch " + number, x.term(topic, 0, 0, 0, number, 0), WITHOUT[topic]);
                Due.is("topic " + topic + " with colour " + number, x.term(topic, 0, 0, 0, 0, number), WITHOUT[topic]);
                Due.is("topic " + topic + " with both", x.term(topic, 0, 0, 0, number, number), WITHOUT[topic]);
            }
            for (int topic = RATE; topic <= THREAD; topic++) {
                Due.is("topic " + topic + " with stitch " + number, x.term(topic, 0, 0, 0, number, 0), -1);
                Due.is("topic " + topic + " with colour " + number, x.term(topic, 0, 0, 0, 0, number), -1);
            }
        }
        NeedleHomes x = one("a1", 0, 1);
        Due.is("rate of stitch 5 in colour 3", x.term(RATE, 0, 0, 0, 5, 3), 10);
        Due.is("rate in colour 4", x.term(RATE, 0, 0, 0, 5, 4), -1);
        Due.is("thread of stitch 5 in colour 3", x.term(THREAD, 0, 0, 0, 5, 3), 5);
        Due.is("thread in colour 4", x.term(THREAD, 0, 0, 0, 5, 4), -1);
    }

    private static void ofNoneIsNone() {
        Due.promise(16, "NONE: there is none such (of any that counts).");
        int[] least = {0, 0, 0, 0, 0, 0};
        int[] behind = {6, 3, 3, 3, 6, 4};
        for (int at = 0; at < 6; at++) {
            int[] others = {least[at] - 1, behind[at], Integer.MIN_VALUE, Integer.MAX_VALUE};
            for (int other : others) {
                int[] o = {0, 0, 0, 0, 0, 0};
                o[at] = other;
                Full.refuses("term " + java.util.Arrays.toString(o), -1, x -> x.term(o[0], o[1], o[2], o[3], o[4], o[5]));
                int[] days = {4, 0, 0, 0, 0, 0};
                days[at] = other;
                Full.refuses("term " + java.util.Arrays.toString(days), at < 4 ? -1 : 2,
                        x -> x.term(days[0], days[1], days[2], days[3], days[4], days[5]));
            }
        }
        Full.refuses("term(5, 2, 2, 2, 5, 3)", 0, x -> x.term(5, 2, 2, 2, 5, 3));
        Full.refuses("term(1, 2, 2, 2, 5, 3)", 5, x -> x.term(1, 2, 2, 2, 5, 3));
    }
}
