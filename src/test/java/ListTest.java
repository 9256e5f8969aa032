/** Promises 5, 6, 9 and 10: lists, their faults, days and what is known on a day. */
public final class ListTest {
    public static void main(String[] args) {
        takesGoodTexts();
        findsFaultOne();
        findsOtherFaults();
        refusesWithoutReading();
        goesThroughDays();
        knowsTheLatestWeek();
        refusesUnknownQuestions();
        Due.end();
    }

    private static void takesGoodTexts() {
        NeedleHomes x = new NeedleHomes();
        Due.goodList(x, "", 0, 0, 0);
        Due.goodList(x, "rate:0;thread:1;fine:22;late:333;days:4444;part:100;", 1, 142, 1);
        Due.goodList(x, "rate:101;", 2, 0, 2);
        Due.goodList(x, " rate\nif not hay and stitch<1 and not colour > 2 and ground = 3 : 9999 ;\n", 0, 0, 3);
        Due.goodList(x, "fine if size<1:1;late if skill>2:2;days if spots=3:3;part if week<4:4;", 0, 0, 4);
        Due.goodList(x, "rate:1;".repeat(16), 0, 0, 5);
        Due.is("count(1)", x.count(1), 6);
    }

    private static void findsFaultOne() {
        Due.badList("rate", 1, 4);
        Due.badList("rate ", 1, 5);
        Due.badList("rate:", 1, 5);
        Due.badList("rate:5", 1, 6);
        Due.badList("rate 5;", 1, 5);
        Due.badList("rate:;", 1, 5);
        Due.badList("rate:5;;", 1, 7);
        Due.badList("rate:5 6;", 1, 7);
        Due.badList("rate:12345;", 1, 5);
        Due.badList("if hay:5;", 1, 0);
        Due.badList("rates:5;", 1, 0);
        Due.badList("rat:5;", 1, 0);
        Due.badList("Rate:5;", 1, 0);
        Due.badList("hay:5;", 1, 0);
        Due.badList("5;", 1, 0);
        Due.badList("rate hay:5;", 1, 5);
        Due.badList("rate if", 1, 7);
        Due.badList("rate if :5;", 1, 8);
        Due.badList("rate if not", 1, 11);
        Due.badList("rate if not not hay:5;", 1, 12);
        Due.badList("rate if hay=1:5;", 1, 11);
        Due.badList("rate if hay hay:5;", 1, 12);
        Due.badList("rate if hay and:5;", 1, 15);
        Due.badList("rate if hay and and hay:5;", 1, 16);
        Due.badList("rate if hay if hay:5;", 1, 12);
        Due.badList("rate if and hay:5;", 1, 8);
        Due.badList("rate if stitch:5;", 1, 14);
        Due.badList("rate if stitch 5:5;", 1, 15);
        Due.badList("rate if stitch<:5;", 1, 15);
        Due.badList("rate if stitch<>5:5;", 1, 15);
        Due.badList("rate if stitch<five:5;", 1, 15);
        Due.badList("rate if stitch<12345:5;", 1, 15);
        Due.badList("rate if stitches<1:5;", 1, 8);
        Due.badList("rate if rate<1:5;", 1, 8);
        Due.badList("rate if 5:5;", 1, 8);
        Due.badList("rate if haystitch<1:5;", 1, 8);
        Due.badList("rate if stitch<1 stitch<1:5;", 1, 17);
        Due.badList("rate[:5;", 1, 4);
        Due.badList("rate:5]", 1, 6);
        Due.badList("rate:5;\tlate:5;", 1, 7);
        Due.badList("rate:5;late:5;" + (char) 0xF0, 1, 14);
    }

    private static void findsOtherFaults() {
        Due.badList("part:101;", 2, 5);
        Due.badList("part : 9999;", 2, 7);
        Due.badList("rate:1;part if hay:101;", 2, 19);
        Due.badList("rate:5;".repeat(17), 3, 112);
        Due.badList("rate:5;".repeat(16) + "  late if hay:5;", 3, 114);
        Due.badList("rate:5;".repeat(16) + "part:101;part:101;", 3, 112);
        Due.badList("rate:5;".repeat(15) + "part:101;part:101;", 2, 110);
        Due.badList("rate:5;".repeat(57), 3, 112);
        Due.badList("rate if hay and hay and hay and hay and hay and hay:5;", 3, 40);
        Due.badList("rate if hay and hay and hay and hay and not stitch<1:5;", 3, 40);
        Due.badList("part if hay and hay and hay and hay and hay:101;", 3, 40);
        Due.badList("part:101;rate if hay and hay and hay and hay and hay:1;", 2, 5);
        Due.badList("part:101;rate:5", 1, 15);
        Due.badList("rate:5;".repeat(17) + "rate", 1, 123);
        Due.badList("rate if hay and hay and hay and hay and hay and rate:5;", 1, 48);
    }

    private static void refusesWithoutReading() {
        NeedleHomes x = new NeedleHomes();
        int[][] others = {{-1, 0}, {3, 0}, {0, -1}, {0, 143}, {Integer.MAX_VALUE, 0}, {0, Integer.MIN_VALUE}};
        for (int[] other : others) {
            Due.is("list part:101;", Due.list(x, "part:101;", 0, 0), -1);
            Due.is("fault(0)", x.fault(0), 2);
            Due.is("list of " + other[0] + ", " + other[1], Due.list(x, "rate:1;", other[0], other[1]), -2);
            Due.is("fault(0)", x.fault(0), 0);
            Due.is("fault(1)", x.fault(1), -1);
            Due.is("the tape is taken", x.end(1), -1);
        }
        for (int i = 0; i < 10; i++) {
            Due.goodList(x, "rate:1;", i % 3, i, i);
        }
        Due.is("an eleventh", Due.list(x, "rate:1;", 0, 0), -2);
        Due.is("count(1)", x.count(1), 10);
    }

    private static void goesThroughDays() {
        NeedleHomes x = new NeedleHomes();
        Due.yes("day(0)", x.day(0));
        Due.no("day(-1)", x.day(-1));
        Due.yes("day(6)", x.day(6));
        Due.is("count(5)", x.count(5), 0);
        Due.yes("day(7)", x.day(7));
        Due.is("count(5)", x.count(5), 1);
        Due.no("day(6)", x.day(6));
        Due.is("count(4)", x.count(4), 7);
        Due.yes("day(7)", x.day(7));
        Due.no("day(1000)", x.day(1000));
        Due.no("day(max)", x.day(Integer.MAX_VALUE));
        Due.is("count(4)", x.count(4), 7);
        Due.yes("day(999)", x.day(999));
        Due.is("count(5)", x.count(5), 142);
    }

    private static void knowsTheLatestWeek() {
        NeedleHomes x = new NeedleHomes();
        Due.goodList(x, "rate:1;", 0, 5, 0);
        Due.goodList(x, "rate:2;", 1, 0, 1);
        x.day(3);
        Due.goodList(x, "rate:3;", 0, 2, 2);
        x.day(10);
        Due.goodList(x, "rate:4;", 0, 5, 3);
        Due.goodList(x, "rate:5;", 0, 2, 4);
        Due.goodList(x, "rate:6;", 0, 2, 5);
        x.day(12);
        int[][] wanted = {{0, 0, 12, -1}, {0, 1, 12, -1}, {0, 2, 12, 5}, {0, 4, 12, 5}, {0, 5, 12, 3}, {0, 142, 12, 3},
            {0, 2, 10, 5}, {0, 2, 9, 2}, {0, 2, 3, 2}, {0, 2, 2, -1}, {0, 5, 9, 0}, {0, 6, 0, 0}, {0, 4, 0, -1},
            {1, 0, 0, 1}, {1, 142, 12, 1}, {2, 142, 12, -1}};
        for (int[] row : wanted) {
            Due.is("lists(" + row[0] + ", " + row[1] + ", " + row[2] + ")", x.lists(row[0], row[1], row[2]), row[3]);
        }
    }

    private static void refusesUnknownQuestions() {
        NeedleHomes x = new NeedleHomes();
        x.day(4);
        int[][] others = {{-1, 0, 0}, {3, 0, 0}, {0, -1, 0}, {0, 143, 0}, {0, 0, -1}, {0, 0, 5}};
        for (int[] row : others) {
            Due.is("lists(" + row[0] + ", " + row[1] + ", " + row[2] + ")", x.lists(row[0], row[1], row[2]), -2);
        }
        Due.is("lists(2, 142, 4)", x.lists(2, 142, 4), -1);
    }
}
