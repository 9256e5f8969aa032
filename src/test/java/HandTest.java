/** Promises 11 to 15: hands, their habits, hay, advances and what is told of them. */
public final class HandTest {
    public static void main(String[] args) {
        takesHands();
        takesHabits();
        takesHay();
        takesAdvances();
        tells();
        Due.end();
    }

    private static void takesHands() {
        NeedleHomes x = new NeedleHomes();
        int[][] others = {{0, 1, 0}, {201, 1, 0}, {1, 0, 0}, {1, 13, 0}, {1, 1, -1}, {1, 1, 3},
            {Integer.MIN_VALUE, 1, 0}, {1, Integer.MAX_VALUE, 0}};
        for (int[] o : others) {
            Due.is("hand(" + o[0] + ", " + o[1] + ", " + o[2] + ")", x.hand(o[0], o[1], o[2]), -1);
        }
        Due.is("count(2)", x.count(2), 0);
        Due.is("hand(1, 1, 0)", x.hand(1, 1, 0), 0);
        Due.is("hand(200, 12, 2)", x.hand(200, 12, 2), 1);
        for (int i = 2; i < 12; i++) {
            Due.is("hand " + i, x.hand(i, i, 1), i);
        }
        Due.is("a thirteenth", x.hand(1, 1, 0), -1);
        Due.is("count(2)", x.count(2), 12);
        Due.is("tell(1, 0)", x.tell(1, 0), 200);
    }

    private static void takesHabits() {
        NeedleHomes x = new NeedleHomes();
        Due.goodPattern(x, "a1", 0, 0, 0);
        Due.no("habit of none", x.habit(0, 0, 50));
        x.hand(1, 1, 0);
        x.hand(1, 1, 0);
        x.out(0, 0, 0);
        for (int stitch = 0; stitch < 6; stitch++) {
            x.look(0, stitch, 1, 0);
        }
        Due.is("all habits 50", x.unlike(0, 0), 300);
        Due.yes("habit 0", x.habit(0, 0, 0));
        Due.yes("habit 100", x.habit(0, 5, 100));
        Due.yes("habit 7", x.habit(0, 3, 7));
        Due.is("other habits", x.unlike(0, 0), 50 + 50 + 7 + 50 + 100);
        int[][] others = {{-1, 0, 1}, {2, 0, 1}, {0, -1, 1}, {0, 6, 1}, {0, 0, -1}, {0, 0, 101}};
        for (int[] o : others) {
            Due.no("habit(" + o[0] + ", " + o[1] + ", " + o[2] + ")", x.habit(o[0], o[1], o[2]));
        }
        Due.is("still these", x.unlike(0, 0), 257);
        Due.is("those of another", x.unlike(0, 1), 300);
    }

    private static void takesHay() {
        NeedleHomes x = new NeedleHomes();
        Due.goodPattern(x, "a1", 0, 0, 0);
        Due.goodList(x, "rate if hay:1;", 0, 0, 0);
        Due.no("hay of none", x.hay(0, 0, true));
        x.hand(1, 1, 0);
        x.hand(1, 1, 0);
        Due.no("hay(-1)", x.hay(-1, 0, true));
        Due.no("hay(2)", x.hay(2, 0, true));
        Due.no("week -1", x.hay(0, -1, true));
        Due.no("week 143", x.hay(0, 143, true));
        int[] weeks = {0, 1, 31, 32, 63, 64, 95, 96, 127, 128, 141, 142};
        for (int week : weeks) {
            Due.yes("hay in " + week, x.hay(0, week, true));
        }
        Due.yes("no hay in 64", x.hay(0, 64, false));
        Due.yes("no hay in 65", x.hay(0, 65, false));
        for (int week = 0; week <= 142; week++) {
            x.day(7 * week);
            boolean is = week != 64 && java.util.Arrays.binarySearch(weeks, week) >= 0;
            Due.is("rate in " + week, x.term(0, 0, 0, 0, 0, 0), is ? 1 : 10);
            Due.is("that of another", x.term(0, 0, 0, 1, 0, 0), 10);
        }
    }

    private static void takesAdvances() {
        NeedleHomes x = new NeedleHomes();
        Due.is("advance of none", x.advance(0, 1), -1);
        x.hand(1, 1, 0);
        x.hand(1, 1, 0);
        Due.is("advance(0, 1)", x.advance(0, 1), 1);
        Due.is("advance(0, 100000)", x.advance(0, 100000), 100001);
        Due.is("advance(0, 0)", x.advance(0, 0), -1);
        Due.is("advance(0, -1)", x.advance(0, -1), -1);
        Due.is("advance(0, 100001)", x.advance(0, 100001), -1);
        Due.is("advance(2, 1)", x.advance(2, 1), -1);
        Due.is("advance(-1, 1)", x.advance(-1, 1), -1);
        Due.is("advance(1, 5)", x.advance(1, 5), 5);
        Due.is("tell(0, 3)", x.tell(0, 3), 100001);
        Due.is("count(8)", x.count(8), 100006);
    }

    private static void tells() {
        NeedleHomes x = new NeedleHomes();
        Due.goodPattern(x, "a1000", 0, 0, 0);
        x.hand(20, 3, 1);
        x.hand(30, 4, 2);
        x.advance(1, 17);
        x.out(0, 0, 1);
        x.out(0, 0, 1);
        x.out(0, 0, 1);
        Due.is("in(1, 0, 0)", x.in(1, 0, 0), 83);
        int[] first = {20, 3, 1, 0, 0, 0, -2};
        int[] second = {30, 4, 2, 0, 83, 2, -2};
        for (int what = 0; what < 7; what++) {
            Due.is("tell(0, " + what + ")", x.tell(0, what), first[what]);
            Due.is("tell(1, " + what + ")", x.tell(1, what), second[what]);
        }
        Due.is("tell(0, -1)", x.tell(0, -1), -2);
        Due.is("tell(2, 0)", x.tell(2, 0), -2);
        Due.is("tell(-1, 0)", x.tell(-1, 0), -2);
    }
}
