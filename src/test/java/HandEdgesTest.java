/** Promises 11 to 15 and the first sentence of the third paragraph of terms, sentence by sentence. */
public final class HandEdgesTest {
    private static final int MIN = Integer.MIN_VALUE;
    private static final int MAX = Integer.MAX_VALUE;

    public static void main(String[] args) {
        handsAreNumberedFromNull();
        aThirteenthIsRefused();
        skillHasBounds();
        hoursHaveBounds();
        carriersHaveBounds();
        refusedHandsLeaveAll();
        habitsAreFiftyAtFirst();
        habitsHaveBounds();
        habitsAreToldAnew();
        habitsOfNoneAreRefused();
        hayIsToldByWeek();
        hayIsTakenBack();
        hayOfNoneIsRefused();
        debtIsNoneAtFirst();
        advancesHaveBounds();
        advancesAreAdded();
        advancesOfNoneAreRefused();
        tellTellsSix();
        tellOfNoneIsRefused();
        Due.end();
    }

    private static NeedleHomes twelve() {
        NeedleHomes x = new NeedleHomes();
        for (int i = 0; i < 12; i++) {
            Due.is("hand " + i, x.hand(i + 1, 12 - i, i % 3), i);
        }
        return x;
    }

    private static void handsAreNumberedFromNull() {
        Due.promise(11, "A HAND: its number");
        NeedleHomes x = twelve();
        for (int i = 0; i < 12; i++) {
            Due.is("skill of " + i, x.tell(i, 0), i + 1);
            Due.is("hours of " + i, x.tell(i, 1), 12 - i);
            Due.is("carrier of " + i, x.tell(i, 2), i % 3);
        }
        Due.is("count(2)", x.count(2), 12);
    }

    private static void aThirteenthIsRefused() {
        Due.promise(11, "NONE: there are 12");
        Due.terms(3, "HANDS, at most 12, from 0 on");
        NeedleHomes x = twelve();
        Due.is("a thirteenth", x.hand(200, 12, 2), -1);
        Due.is("count(2)", x.count(2), 12);
        Due.is("tell(12, 0)", x.tell(12, 0), -2);
        Due.is("the twelfth stays", x.tell(11, 0), 12);
        Due.is("the first stays", x.tell(0, 0), 1);
        Due.is("a fourteenth", x.hand(1, 1, 0), -1);
        NeedleHomes many = looked(11);
        for (int i = 0; i < 60; i++) {
            many.out(0, 0, 0);
        }
        Due.is("a twelfth with sixty pieces out", many.hand(1, 1, 0), 11);
        Due.is("a thirteenth", many.hand(1, 1, 0), -1);
    }

    private static void skillHasBounds() {
        Due.terms(3, "have a SKILL, 1 .. 200");
        int[] taken = {1, 2, 199, 200};
        for (int skill : taken) {
            NeedleHomes x = new NeedleHomes();
            Due.is("skill " + skill, x.hand(skill, 1, 0), 0);
            Due.is("it is told", x.tell(0, 0), skill);
        }
        int[] others = {0, -1, 201, 202, MIN, MAX};
        for (int skill : others) {
            NeedleHomes x = new NeedleHomes();
            Due.is("skill " + skill, x.hand(skill, 1, 0), -1);
            Due.is("count(2)", x.count(2), 0);
        }
    }

    private static void hoursHaveBounds() {
        Due.terms(3, "HOURS a day, 1 .. 12");
        for (int hours = 1; hours <= 12; hours++) {
            NeedleHomes x = new NeedleHomes();
            Due.is("hours " + hours, x.hand(1, hours, 0), 0);
            Due.is("they are told", x.tell(0, 1), hours);
        }
        int[] others = {0, -1, 13, 14, MIN, MAX};
        for (int hours : others) {
            NeedleHomes x = new NeedleHomes();
            Due.is("hours " + hours, x.hand(1, hours, 0), -1);
            Due.is("count(2)", x.count(2), 0);
        }
    }

    private static void carriersHaveBounds() {
        Due.terms(3, "a CARRIER, 0 .. 2");
        for (int carrier = 0; carrier <= 2; carrier++) {
            NeedleHomes x = new NeedleHomes();
            Due.is("carrier " + carrier, x.hand(1, 1, carrier), 0);
            Due.is("it is told", x.tell(0, 2), carrier);
        }
        int[] others = {-1, 3, 4, MIN, MAX};
        for (int carrier : others) {
            NeedleHomes x = new NeedleHomes();
            Due.is("carrier " + carrier, x.hand(1, 1, carrier), -1);
            Due.is("count(2)", x.count(2), 0);
        }
    }

    private static void refusedHandsLeaveAll() {
        Due.promise(11, "or other numbers.");
        int[][] others = {{0, 1, 0}, {201, 1, 0}, {1, 0, 0}, {1, 13, 0}, {1, 1, -1}, {1, 1, 3}};
        for (int[] o : others) {
            Full.refuses("hand(" + o[0] + ", " + o[1] + ", " + o[2] + ")", -1, x -> x.hand(o[0], o[1], o[2]));
        }
    }

    /** With each STITCH of a PIECE looked at once and not turned, the HABITS are UNLIKENESS together. */
    private static NeedleHomes looked(int hands) {
        NeedleHomes x = new NeedleHomes();
        x.pattern(0, 0);
        for (int i = 0; i < hands; i++) {
            x.hand(1, 1, 0);
        }
        x.out(0, 0, 0);
        for (int stitch = 0; stitch < 6; stitch++) {
            x.out(0, 0, 0);
            x.look(stitch, stitch, 1, 0);
        }
        return x;
    }

    private static void habitsAreFiftyAtFirst() {
        Due.terms(3, "HABITS, 0 .. 100 for each STITCH (50 at first)");
        NeedleHomes x = looked(12);
        for (int hand = 0; hand < 12; hand++) {
            for (int stitch = 0; stitch < 6; stitch++) {
                Due.is("habit of " + hand + " at " + stitch, x.unlike(stitch, hand), 50);
            }
        }
    }

    private static void habitsHaveBounds() {
        Due.promise(12, "HABIT of a HAND: true; false: there is none such (of any), or another number.");
        int[] taken = {0, 1, 99, 100};
        for (int habit : taken) {
            for (int stitch = 0; stitch < 6; stitch++) {
                NeedleHomes x = looked(2);
                Due.yes("habit " + habit + " at " + stitch, x.habit(1, stitch, habit));
                for (int other = 0; other < 6; other++) {
                    Due.is("habit at " + other, x.unlike(other, 1), other == stitch ? habit : 50);
                    Due.is("that of another hand", x.unlike(other, 0), 50);
                }
            }
        }
        int[] others = {-1, -2, 101, 102, MIN, MAX};
        for (int habit : others) {
            NeedleHomes x = looked(1);
            x.habit(0, 0, 33);
            Due.no("habit " + habit, x.habit(0, 0, habit));
            Due.is("it stays", x.unlike(0, 0), 33);
        }
    }

    private static void habitsAreToldAnew() {
        Due.promise(12, "HABIT of a HAND: true");
        NeedleHomes x = looked(1);
        x.habit(0, 5, 12);
        x.habit(0, 5, 13);
        Due.is("the later one", x.unlike(5, 0), 13);
    }

    private static void habitsOfNoneAreRefused() {
        Due.promise(12, "false: there is none such (of any), or another number.");
        int[][] others = {{-1, 0, 1}, {3, 0, 1}, {12, 0, 1}, {MIN, 0, 1}, {MAX, 0, 1}, {0, -1, 1}, {0, 6, 1}, {0, MIN, 1},
            {0, MAX, 1}, {0, 0, -1}, {0, 0, 101}, {0, 0, MIN}, {0, 0, MAX}};
        for (int[] o : others) {
            Full.refuses("habit(" + o[0] + ", " + o[1] + ", " + o[2] + ")", x -> x.habit(o[0], o[1], o[2]));
        }
        NeedleHomes x = twelve();
        Due.yes("habit of 11", x.habit(11, 5, 100));
        Due.no("habit of 12", x.habit(12, 5, 100));
    }

    private static void hayIsToldByWeek() {
        Due.promise(13, "A HAND has HAY in a WEEK (0 .. 142), or not: true");
        Due.terms(3, "HAY in told WEEKS");
        int[] weeks = {0, 1, 30, 31, 32, 33, 63, 64, 95, 96, 127, 128, 141, 142};
        for (int week : weeks) {
            NeedleHomes x = new NeedleHomes();
            x.pattern(0, 0);
            x.hand(1, 1, 0);
            x.hand(1, 1, 0);
            Due.list(x, "fine if hay:1;", 0, 0);
            Due.yes("hay in " + week, x.hay(1, week, true));
            for (int now = 0; now <= 142; now++) {
                x.day(7 * now + (now < 142 ? 6 : 5));
                Due.is("hay in " + week + ", now " + now, x.term(2, 0, 0, 1, 0, 0), now == week ? 1 : 0);
                if (now == week) {
                    Due.is("that of another", x.term(2, 0, 0, 0, 0, 0), 0);
                }
            }
        }
    }

    private static void hayIsTakenBack() {
        Due.promise(13, "or not: true");
        int[] weeks = {0, 31, 32, 142};
        for (int week : weeks) {
            NeedleHomes x = new NeedleHomes();
            x.pattern(0, 0);
            x.hand(1, 1, 0);
            Due.list(x, "fine if hay:1;", 0, 0);
            for (int told = 0; told <= 142; told++) {
                x.hay(0, told, true);
            }
            Due.yes("no hay in " + week, x.hay(0, week, false));
            Due.yes("no hay, told anew", x.hay(0, week, false));
            x.day(Math.max(0, 7 * week - 1));
            Due.is("the week ahead of " + week, x.term(2, 0, 0, 0, 0, 0), week == 0 ? 0 : 1);
            x.day(7 * week);
            Due.is("week " + week, x.term(2, 0, 0, 0, 0, 0), 0);
            Due.yes("hay again", x.hay(0, week, true));
            Due.yes("hay told anew", x.hay(0, week, true));
            Due.is("week " + week + " again", x.term(2, 0, 0, 0, 0, 0), 1);
            x.hay(0, week, false);
            if (week < 142) {
                x.day(7 * week + 7);
                Due.is("the week behind " + week, x.term(2, 0, 0, 0, 0, 0), 1);
            }
        }
    }

    private static void hayOfNoneIsRefused() {
        Due.promise(13, "false: there is none such (of either).");
        int[][] others = {{-1, 0}, {3, 0}, {12, 0}, {MIN, 0}, {MAX, 0}, {0, -1}, {0, 143}, {0, 144}, {0, MIN}, {0, MAX}};
        for (int[] o : others) {
            Full.refuses("hay(" + o[0] + ", " + o[1] + ", true)", x -> x.hay(o[0], o[1], true));
            Full.refuses("hay(" + o[0] + ", " + o[1] + ", false)", x -> x.hay(o[0], o[1], false));
        }
        NeedleHomes x = twelve();
        Due.yes("hay of 11", x.hay(11, 142, true));
        Due.no("hay of 12", x.hay(12, 142, true));
    }

    private static void debtIsNoneAtFirst() {
        Due.terms(3, "a DEBT (0 at first)");
        NeedleHomes x = twelve();
        for (int hand = 0; hand < 12; hand++) {
            Due.is("debt of " + hand, x.tell(hand, 3), 0);
        }
        Due.is("count(8)", x.count(8), 0);
    }

    private static void advancesHaveBounds() {
        Due.promise(14, "An ADVANCE, 1 .. 100000: the DEBT");
        int[] taken = {1, 2, 99999, 100000};
        for (int coins : taken) {
            NeedleHomes x = twelve();
            Due.is("advance " + coins, x.advance(11, coins), coins);
            Due.is("it is told", x.tell(11, 3), coins);
            Due.is("that of another", x.tell(10, 3), 0);
        }
        int[] others = {0, -1, 100001, 100002, MIN, MAX};
        for (int coins : others) {
            NeedleHomes x = twelve();
            x.advance(11, 5);
            Due.is("advance " + coins, x.advance(11, coins), -1);
            Due.is("it stays", x.tell(11, 3), 5);
        }
    }

    /** No more than 511 advances can come to an object; their sum is far from going round. */
    private static void advancesAreAdded() {
        Due.terms(3, "an ADVANCE is added to it.");
        NeedleHomes x = new NeedleHomes();
        x.hand(1, 1, 0);
        for (int i = 1; i <= 509; i++) {
            Due.is("advance " + i, x.advance(0, 100000), 100000 * i);
        }
        Due.is("tell(0, 3)", x.tell(0, 3), 50900000);
        Due.is("count(8)", x.count(8), 50900000);
    }

    private static void advancesOfNoneAreRefused() {
        Due.promise(14, "NONE: there is none such, or another number.");
        int[][] others = {{-1, 1}, {3, 1}, {12, 1}, {MIN, 1}, {MAX, 1}, {0, 0}, {0, -1}, {0, 100001}, {0, MIN}, {0, MAX}};
        for (int[] o : others) {
            Full.refuses("advance(" + o[0] + ", " + o[1] + ")", -1, x -> x.advance(o[0], o[1]));
        }
        NeedleHomes x = twelve();
        Due.is("advance of 12", x.advance(12, 1), -1);
        Due.is("count(8)", x.count(8), 0);
    }

    private static void tellTellsSix() {
        Due.promise(15, "what 0: SKILL, 1: HOURS, 2: CARRIER, 3: DEBT, 4: all NET that it had, 5: PIECES that are OUT and not IN");
        NeedleHomes x = new NeedleHomes();
        Due.goodPattern(x, "a1000", 0, 0, 0);
        x.hand(21, 3, 2);
        x.hand(22, 4, 1);
        x.advance(0, 60);
        for (int i = 0; i < 4; i++) {
            x.out(0, 0, 0);
        }
        x.out(0, 0, 1);
        int[][] wanted = {{21, 3, 2, 60, 0, 4}, {21, 3, 2, 10, 50, 3}, {21, 3, 2, 0, 140, 2}, {21, 3, 2, 0, 240, 1},
            {21, 3, 2, 0, 340, 0}};
        for (int in = 0; in <= 4; in++) {
            if (in > 0) {
                x.in(in - 1, 0, 0);
            }
            for (int what = 0; what < 6; what++) {
                Due.is("tell(0, " + what + ") with " + in + " in", x.tell(0, what), wanted[in][what]);
            }
            Due.is("tell(1, 4)", x.tell(1, 4), 0);
            Due.is("tell(1, 5)", x.tell(1, 5), 1);
        }
    }

    private static void tellOfNoneIsRefused() {
        Due.promise(15, "-2 if there is none such, or for another what.");
        int[][] others = {{-1, 0}, {3, 0}, {12, 0}, {MIN, 0}, {MAX, 0}, {0, -1}, {0, 6}, {0, MIN}, {0, MAX}, {3, 6}};
        for (int[] o : others) {
            Full.refuses("tell(" + o[0] + ", " + o[1] + ")", -2, x -> x.tell(o[0], o[1]));
        }
        NeedleHomes x = twelve();
        Due.is("tell(11, 0)", x.tell(11, 0), 12);
        Due.is("tell(12, 0)", x.tell(12, 0), -2);
    }
}
