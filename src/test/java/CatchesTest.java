import java.util.Arrays;
import java.util.Random;

/** Promises 44 to 46: catches, over, doubt. */
public final class CatchesTest {

    public static void main(String[] args) {
        caught();
        over();
        overByParties();
        doubt();
        byTryingAll();
        Check.end("CatchesTest");
    }

    private static void caught() {
        IceTreaty x = Check.land(1);
        x.ship(0, 1, 0);
        Check.days(x, 3);
        int[][] wrong = {{1, 0, 0, 1, 0}, {-1, 0, 0, 1, 0}, {0, -1, 0, 1, 0}, {0, 4, 0, 1, 0}, {0, 0, -1, 1, 0}, {0, 0, 4, 1, 0},
            {0, 0, 0, 0, 0}, {0, 0, 0, 1000001, 0}, {0, 0, 0, 1, -1}, {0, 0, 0, 1, 4}};
        for (int[] w : wrong) {
            Check.due("44 caught" + Arrays.toString(w), x.caught(w[0], w[1], w[2], w[3], w[4]), -1);
        }
        Check.due("45 none", x.over(), -1);
        Check.due("44 caught", x.caught(0, 0, 0, 1, 3), 0);
        Check.due("44 caught", x.caught(0, 3, 3, 1000000, 0), 1);
        for (int c = 2; c < 200; c++) {
            Check.due("44 caught", x.caught(0, 0, 0, 1, 0), c);
        }
        Check.due("44 200 are there", x.caught(0, 0, 0, 1, 0), -1);
        Check.due("62 catches", x.count(12), 200);
        Check.due("45 without a limit", x.over(), -1);
    }

    private static void over() {
        IceTreaty x = Check.land(1);
        Check.text(x, 0, 370, "k1.2=10;k1.1=0");
        x.ship(0, 1, 0);
        Check.days(x, 400);
        x.caught(0, 1, 2, 10, 0);
        Check.due("45 as much is not above", x.over(), -1);
        x.caught(0, 1, 3, 99, 0);
        x.caught(0, 2, 2, 99, 0);
        x.caught(0, 1, 2, 9, 360);
        Check.due("45 other kinds, seas, years", x.over(), -1);
        x.caught(0, 1, 2, 99, 371);
        Check.due("45 not in force any more", x.over(), -1);
        x.caught(0, 1, 2, 2, 370);
        Check.due("45 the second year is over", x.over(), 5);
        x.caught(0, 1, 2, 1, 365);
        Check.due("45 as much by then", x.over(), 5);
        x.caught(0, 1, 2, 1, 365);
        Check.due("45 by days for which they are", x.over(), 7);
        x.caught(0, 1, 2, 1, 0);
        Check.due("45 then by numbers", x.over(), 8);
        x.caught(0, 1, 1, 1, 0);
        Check.due("45 a limit of 0", x.over(), 8);
        x.caught(0, 1, 2, 1, 0);
        Check.due("45 the first", x.over(), 8);
    }

    private static void overByParties() {
        IceTreaty x = Check.land(2);
        Check.text(x, "z");
        Check.text(x, "k0.0=50");
        x.yes(1, 1);
        x.ship(0, 1, 0);
        x.ship(1, 1, 0);
        x.caught(0, 0, 0, 60, 0);
        Check.due("45 no limit for party 0", x.over(), -1);
        x.caught(1, 0, 0, 1, 0);
        Check.due("45 of all parties' catches together", x.over(), 1);
    }

    private static void doubt() {
        IceTreaty x = Check.land(1);
        x.ship(0, 1, 0);
        x.ship(0, 1, 0);
        x.sea(1, 9);
        Check.days(x, 20);
        x.caught(0, 0, 0, 1, 10);
        x.caught(1, 0, 1, 1, 10);
        x.caught(0, 0, 1, 1, 14);
        x.caught(0, 0, 0, 1, 13);
        Check.due("46 the first two", x.doubt(0), 2);
        Check.due("46 the first two", x.doubt(1), 3);
        x.caught(0, 0, 1, 1, 13);
        Check.due("46 3 days apart are fewer than 4", x.doubt(0), 0);
        Check.due("46 3 days apart are fewer than 4", x.doubt(1), 4);
        x.sea(1, 5);
        Check.due("46 by the days of the seas now", x.doubt(0), 2);
        x.sea(1, 1);
        x.sea(0, 2);
        Check.due("46 0 days apart are not fewer than 0", x.doubt(0), -1);
        x.sea(0, 3);
        Check.due("46 but fewer than 1", x.doubt(0), 3);
        Check.due("46 but fewer than 1", x.doubt(1), 4);
        Check.due("46 others", x.doubt(2), -1);
        Check.due("46 others", x.doubt(-1), -1);
    }

    private static void byTryingAll() {
        Random random = new Random(8);
        for (int run = 0; run < 200; run++) {
            IceTreaty x = Check.land(3);
            Check.text(x, "k0.0=" + random.nextInt(60) + ";k1.1=" + random.nextInt(60));
            Check.text(x, "k0.0=" + random.nextInt(60));
            x.yes(1, 1);
            int[] limits = new int[9];
            for (int p = 0; p < 3; p++) {
                limits[p * 3] = x.number(10, p, 0);
                limits[p * 3 + 1] = x.number(15, p, 0);
            }
            for (int s = 0; s < 3; s++) {
                x.ship(s, 1, 0);
            }
            x.sea(0, 1 + random.nextInt(20));
            x.sea(1, 1 + random.nextInt(20));
            Check.days(x, 20);
            int n = random.nextInt(12);
            int[][] c = new int[n][];
            for (int i = 0; i < n; i++) {
                c[i] = new int[] {random.nextInt(3), random.nextInt(2), random.nextInt(2), 1 + random.nextInt(30), random.nextInt(20)};
                x.caught(c[i][0], c[i][1], c[i][2], c[i][3], c[i][4]);
            }
            Check.due("45 by trying all, run " + run, x.over(), slowOver(c, limits));
        }
    }

    /** Goes through the catches day by day; only kind and sea that are both 0 or both 1 have limits. */
    private static int slowOver(int[][] catches, int[] limits) {
        int[] sums = new int[2];
        for (int day = 0; day < 20; day++) {
            for (int i = 0; i < catches.length; i++) {
                int kind = catches[i][1];
                if (catches[i][4] != day || kind != catches[i][2]) {
                    continue;
                }
                sums[kind] += catches[i][3];
                int limit = limits[catches[i][0] * 3 + kind];
                if (limit >= 0 && sums[kind] > limit) {
                    return i;
                }
            }
        }
        return -1;
    }
}
