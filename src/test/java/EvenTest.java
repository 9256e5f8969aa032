import java.util.Random;

/** Promises 31 and 32: times, and rates changed least so that each stitch pays alike. */
public final class EvenTest {
    public static void main(String[] args) {
        takesTimes();
        changesLeast();
        asksThePlainCase();
        findsNoPay();
        agreesWithTryingAll();
        followsTheDearestStitch();
        refusesWhatIsNotThere();
        Due.end();
    }

    /** Wanted are w, the change and new rates of the first stitches. */
    private static void even(NeedleHomes x, int dealer, int g, int... wanted) {
        for (int what = 0; what < wanted.length; what++) {
            Due.is("even(" + dealer + ", " + g + ", " + what + ")", x.even(dealer, g, what), wanted[what]);
        }
    }

    private static void takesTimes() {
        NeedleHomes x = new NeedleHomes();
        int[][] others = {{-1, 1}, {6, 1}, {0, 0}, {0, 10000}, {0, -360}};
        for (int[] o : others) {
            Due.no("time(" + o[0] + ", " + o[1] + ")", x.time(o[0], o[1]));
        }
        even(x, 0, 0, 100, 0, 10, 10, 10, 10, 10, 10, -1);
        Due.yes("time(5, 9999)", x.time(5, 9999));
        Due.yes("time(5, 1)", x.time(5, 1));
        even(x, 0, 99, -1, -1, -1);
        Due.yes("time(5, 720)", x.time(5, 720));
        even(x, 0, 0, 100, 10, 10, 10, 10, 10, 10, 20, -1);
    }

    private static void changesLeast() {
        NeedleHomes x = new NeedleHomes();
        x.time(0, 720);
        even(x, 0, 0, 100, 10, 20, 10);
        even(x, 0, 50, 50, 0, 10, 10);
        even(x, 0, 49, 51, 1, 11, 10);
        for (int stitch = 1; stitch < 6; stitch++) {
            x.time(stitch, 720);
        }
        even(x, 0, 0, 50, 0, 10, 10, 10, 10, 10, 10);
        even(x, 0, 9, 41, 0, 10, 10, 10, 10, 10, 10);
        even(x, 0, 99, 1, 0, 10, 10, 10, 10, 10, 10);
    }

    private static void asksThePlainCase() {
        NeedleHomes x = new NeedleHomes();
        Due.goodList(x, "rate if colour>0:1;rate if ground>0:1;rate if size>0:1;rate if not skill=100:1;"
                + "rate if spots>0:1;rate if hay:1;rate if week=0:30;rate:40;", 1, 0, 0);
        even(x, 0, 0, 100, 0);
        even(x, 1, 0, 300, 0, 30, 30, 30, 30, 30, 30);
        x.day(7);
        even(x, 1, 0, 400, 0, 40, 40, 40, 40, 40, 40);
        Due.goodList(x, "rate if stitch=2:90;rate:50;", 1, 1, 1);
        even(x, 1, 0, 500, 40, 50, 50, 50, 50, 50, 50);
        even(x, 1, 20, 500, 38, 50, 50, 52);
        Due.goodList(x, "rate:60;", 1, 2, 2);
        even(x, 1, 0, 500, 40);
        Due.goodList(x, "rate:9999;", 1, 1, 3);
        even(x, 1, 0, 2000, 6 * 9799, 200, 200);
        Due.goodList(x, "rate:0;", 1, 1, 4);
        even(x, 1, 0, 10, 6, 1, 1, 1);
        even(x, 1, 99, 1, 6, 1, 1, 1);
    }

    private static void findsNoPay() {
        NeedleHomes x = new NeedleHomes();
        x.time(0, 1);
        even(x, 0, 0, -1, -1, -1, -1);
        even(x, 0, 99, -1, -1, -1, -1);
        x.time(0, 7);
        x.time(1, 11);
        even(x, 0, 0, -1, -1, -1, -1);
        x.time(0, 2);
        x.time(1, 360);
        even(x, 0, 0, 1800, 9 + 5 * 170, 1, 180);
    }

    private static void agreesWithTryingAll() {
        Random random = new Random(7);
        for (int run = 0; run < 60; run++) {
            NeedleHomes x = new NeedleHomes();
            int[] times = new int[6];
            int[] rates = new int[6];
            StringBuilder list = new StringBuilder();
            int longest = run % 4 == 0 ? 40 : run % 4 == 1 ? 9999 : 600;
            int dearest = run % 3 == 0 ? 9999 : 60;
            for (int s = 0; s < 6; s++) {
                times[s] = 1 + random.nextInt(longest);
                rates[s] = random.nextInt(dearest + 1);
                x.time(s, times[s]);
                list.append("rate if stitch=").append(s).append(':').append(rates[s]).append(';');
            }
            Due.goodList(x, list.toString(), 2, 0, 0);
            int g = run % 5 == 0 ? 0 : random.nextInt(100);
            even(x, 2, g, tryAll(times, rates, g));
        }
    }

    /** One slow and dear stitch, wherever it stands, draws the pay of all others up to its own. */
    private static void followsTheDearestStitch() {
        for (int dear = 0; dear < 6; dear++) {
            NeedleHomes x = new NeedleHomes();
            int[] times = {36, 36, 36, 36, 36, 36};
            int[] rates = {1, 1, 1, 1, 1, 1};
            times[dear] = 9999;
            rates[dear] = 5000;
            for (int s = 0; s < 6; s++) {
                x.time(s, times[s]);
            }
            Due.goodList(x, "rate if stitch=" + dear + ":5000;rate:1;", 0, 0, 0);
            even(x, 0, 99, tryAll(times, rates, 99));
            even(x, 0, 99, 1700, 81);
        }
    }

    /** Each w with each rate, as the document says it. */
    private static int[] tryAll(int[] times, int[] rates, int g) {
        int[] best = {-1, -1, -1, -1, -1, -1, -1, -1};
        for (int w = 1; w <= 2000; w++) {
            int[] now = new int[8];
            now[0] = w;
            for (int s = 0; s < 6; s++) {
                int nearest = -1;
                for (int rate = 0; rate <= 9999; rate++) {
                    int pays = rate * 3600 / times[s];
                    if (pays >= w && pays <= w + g
                            && (nearest < 0 || Math.abs(rate - rates[s]) < Math.abs(nearest - rates[s]))) {
                        nearest = rate;
                    }
                }
                now[2 + s] = nearest;
                now[1] = nearest < 0 || now[1] < 0 ? -1 : now[1] + Math.abs(nearest - rates[s]);
            }
            if (now[1] >= 0 && (best[0] < 0 || now[1] < best[1])) {
                best = now;
            }
        }
        return best;
    }

    private static void refusesWhatIsNotThere() {
        NeedleHomes x = new NeedleHomes();
        int[][] others = {{-1, 0, 0}, {3, 0, 0}, {0, -1, 0}, {0, 100, 0}, {0, 0, -1}, {0, 0, 8}};
        for (int[] o : others) {
            Due.is("even(" + o[0] + ", " + o[1] + ", " + o[2] + ")", x.even(o[0], o[1], o[2]), -1);
        }
        Due.is("even(2, 99, 7)", x.even(2, 99, 7), 10);
    }
}
