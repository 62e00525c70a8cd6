import java.util.Random;

/** Promises 51 to 54: stops, when they are open, the plan. */
public final class SeasonTest {

    public static void main(String[] args) {
        stop();
        open();
        plan();
        ices();
        room();
        likeOnes();
        whatChanges();
        byTryingAll();
        Check.end("SeasonTest");
    }

    private static void stop() {
        IceTreaty x = Check.land(1);
        x.cell(63, 0, 0, 2, 10);
        x.station(0, 63, 0, 0);
        Check.days(x, 10);
        for (int k = 1; k < 10; k++) {
            x.station(0, k, 0, 0);
        }
        x.site(0, false);
        int[][] wrong = {{0, 0}, {-1, 0}, {10, 0}, {11, 0}, {1, -1}, {1, 10001}};
        for (int[] w : wrong) {
            Check.due("51 stop" + java.util.Arrays.toString(w), x.stop(w[0], w[1]), -1);
        }
        Check.due("51 stop", x.stop(9, 10000), 0);
        Check.due("51 it is there", x.stop(9, 0), -1);
        for (int k = 1; k < 8; k++) {
            Check.due("51 stop", x.stop(k, 0), k);
        }
        Check.due("51 8 are", x.stop(8, 0), -1);
        Check.due("62 stops", x.count(14), 8);
    }

    private static void open() {
        IceTreaty x = Check.land(1);
        x.station(0, 0, 0, 0);
        Check.due("52 no stop yet", x.open(0, 0, 0, 359), false);
        x.stop(0, 0);
        int[][] wrong = {{-1, 0, 0, 1}, {3, 0, 0, 1}, {0, 1, 0, 1}, {0, -1, 0, 1}, {0, 0, -1, 1}, {0, 0, 0, 360}, {0, 0, 2, 1}};
        for (int[] w : wrong) {
            Check.due("52 open" + java.util.Arrays.toString(w), x.open(w[0], w[1], w[2], w[3]), false);
        }
        Check.due("52 open", x.open(0, 0, 0, 359), true);
        Check.due("52 open", x.open(2, 0, 7, 7), true);
    }

    /** Stations 0 to n-1 in cells of row 0 are stops 0 to n-1; a ship of room 10. */
    private static IceTreaty season(int... cells) {
        IceTreaty x = Check.land(1);
        x.ship(0, 10, 0);
        for (int i = 0; i < cells.length; i++) {
            x.station(0, cells[i], 0, 0);
            x.stop(i, 1);
        }
        return x;
    }

    private static void plan() {
        IceTreaty x = season();
        Check.due("53 no stops", x.plan(0, 0, 0), -1);
        x = season(0, 7, 4);
        int[][] wrong = {{1, 0, 0}, {-1, 0, 0}, {0, -1, 0}, {0, 4, 0}, {0, 0, -1}, {0, 0, 360}};
        for (int[] w : wrong) {
            Check.due("53 plan" + java.util.Arrays.toString(w), x.plan(w[0], w[1], w[2]), -1);
            Check.due("54 planned" + java.util.Arrays.toString(w), x.planned(w[0], w[1], w[2], 0), -1);
        }
        Check.due("53 from home, then twice how far", x.plan(0, 0, 0), 10 + 8 + 6);
        planned(x, 0, 0, 0, 2, 1);
        Check.due("54 none such", x.planned(0, 0, 0, 3), -1);
        Check.due("54 none such", x.planned(0, 0, 0, -1), -1);
        Check.due("54 none such", x.planned(0, 0, 0, 8), -1);
        x.sea(3, 90);
        Check.due("53 by another sea", x.plan(0, 3, 0), 104);
        Check.due("53 on another day", x.plan(0, 0, 5), 29);
        Check.due("53 to the last day of the year", x.plan(0, 0, 335), 359);
        Check.due("53 a day behind it", x.plan(0, 0, 336), -1);
        Check.due("54 there is none", x.planned(0, 0, 336, 0), -1);
        IceTreaty y = season(9);
        Check.due("53 one stop", y.plan(0, 0, 3), 13);
        planned(y, 0, 3, 0);
        y.open(0, 0, 13, 13);
        Check.due("53 open on its one day", y.plan(0, 0, 3), 13);
        Check.due("53 it waits", y.plan(0, 0, 0), 13);
        Check.due("53 it is closed", y.plan(0, 0, 4), -1);
    }

    private static void planned(IceTreaty x, int sea, int from, int... order) {
        for (int i = 0; i < order.length; i++) {
            Check.due("54 stop " + i, x.planned(0, sea, from, i), order[i]);
        }
    }

    private static void ices() {
        IceTreaty x = season(0, 2);
        x.open(0, 0, 100, 120);
        Check.due("53 first the other one", x.plan(0, 0, 0), 100);
        planned(x, 0, 0, 1, 0);
        x.open(1, 1, 110, 359);
        Check.due("53 the greatest day in all ices", x.plan(0, 0, 0), 110);
        planned(x, 0, 0, 0, 1);
        x.open(2, 1, 0, 13);
        Check.due("53 orders that fail in no ice", x.plan(0, 0, 0), 114);
        planned(x, 0, 0, 1, 0);
        x.open(2, 0, 0, 13);
        Check.due("53 one fails in one of them", x.plan(0, 0, 0), -1);
    }

    private static void room() {
        IceTreaty x = season(0, 1);
        x.station(0, 2, 0, 0);
        x.ship(0, 11, 0);
        x.stop(2, 9);
        Check.due("53 needs above room", x.plan(0, 0, 0), -1);
        Check.due("54 needs above room", x.planned(0, 0, 0, 0), -1);
        Check.due("53 room for all", x.plan(1, 0, 0), 14);
        Check.due("53 needs above room, still", x.plan(0, 0, 0), -1);
        IceTreaty y = Check.land(1);
        y.ship(0, 10, 0);
        y.ship(0, 11, 0);
        y.station(0, 9, 0, 0);
        y.stop(0, 11);
        Check.due("53 the need of one alone above room", y.plan(0, 0, 0), -1);
        Check.due("53 as much as room", y.plan(1, 0, 0), 10);
    }

    private static void likeOnes() {
        IceTreaty x = season(9, 0, 18);
        Check.due("53 like ones", x.plan(0, 0, 0), 14);
        planned(x, 0, 0, 1, 0, 2);
        IceTreaty y = season(9, 9, 9, 9, 9, 9, 9, 9);
        Check.due("53 all in a cell", y.plan(0, 0, 0), 10);
        planned(y, 0, 0, 0, 1, 2, 3, 4, 5, 6, 7);
        y.open(0, 5, 50, 60);
        Check.due("53 one is shut", y.plan(0, 0, 0), 50);
        planned(y, 0, 0, 0, 1, 2, 3, 4, 5, 6, 7);
        y.open(1, 0, 50, 60);
        y.open(1, 2, 0, 49);
        y.open(0, 2, 0, 30);
        Check.due("53 one is shut", y.plan(0, 0, 0), 50);
        planned(y, 0, 0, 1, 2, 0, 3, 4, 5, 6, 7);
    }

    private static void whatChanges() {
        IceTreaty x = season(9, 11);
        Check.due("53 plan", x.plan(0, 0, 0), 14);
        x.cell(11, 0, 0, 2, 10);
        x.cell(12, 0, 2, -1, 0);
        Check.days(x, 10);
        Check.due("53 how far they are now, lost ones, too", x.plan(0, 0, 0), 16);
        x.sea(0, 20);
        Check.due("53 the sea's days", x.plan(0, 0, 0), 26);
        x.station(0, 15, 0, 0);
        x.stop(2, 0);
        Check.due("53 another stop", x.plan(0, 0, 0), 32);
        planned(x, 0, 0, 0, 1, 2);
        x.open(0, 2, 0, 20);
        Check.due("53 open till then", x.plan(0, 0, 0), 32);
        planned(x, 0, 0, 2, 1, 0);
    }

    private static void byTryingAll() {
        Random random = new Random(11);
        for (int run = 0; run < 400; run++) {
            int n = 1 + random.nextInt(run < 380 ? 6 : 8);
            int[] cells = new int[n];
            for (int i = 0; i < n; i++) {
                cells[i] = random.nextInt(64);
            }
            IceTreaty x = season(cells);
            int[][] opens = new int[3][n];
            int[][] closes = new int[3][n];
            int width = 5 + random.nextInt(150);
            for (int i = 0; i < 3; i++) {
                for (int k = 0; k < n; k++) {
                    closes[i][k] = 359;
                    if (random.nextInt(3) == 0) {
                        opens[i][k] = random.nextInt(80);
                        closes[i][k] = opens[i][k] + random.nextInt(width);
                        x.open(i, k, opens[i][k], closes[i][k]);
                    }
                }
            }
            int from = random.nextInt(random.nextInt(4) == 0 ? 360 : 40);
            Slow slow = new Slow(cells, opens, closes);
            slow.tryAll(new int[n], 0, from + 10);
            Check.due("53 by trying all, run " + run, x.plan(0, 0, from), slow.end);
            for (int i = 0; i < n; i++) {
                Check.due("54 by trying all, run " + run, x.planned(0, 0, from, i), slow.end < 0 ? -1 : slow.best[i]);
            }
        }
    }

    /** Tries each order to its end, from the least row on. */
    private static final class Slow {
        final int[] cells;
        final int[][] opens;
        final int[][] closes;
        int end = -1;
        int[] best;

        Slow(int[] cells, int[][] opens, int[][] closes) {
            this.cells = cells;
            this.opens = opens;
            this.closes = closes;
        }

        void tryAll(int[] order, int level, int start) {
            if (level == order.length) {
                int day = endOf(order, start);
                if (day >= 0 && (end < 0 || day < end)) {
                    end = day;
                    best = order.clone();
                }
                return;
            }
            for (int k = 0; k < order.length; k++) {
                boolean isNew = true;
                for (int i = 0; i < level; i++) {
                    isNew &= order[i] != k;
                }
                if (isNew) {
                    order[level] = k;
                    tryAll(order, level + 1, start);
                }
            }
        }

        int endOf(int[] order, int start) {
            int latest = -1;
            for (int i = 0; i < 3; i++) {
                int day = start;
                for (int j = 0; j < order.length; j++) {
                    int k = order[j];
                    if (j > 0) {
                        int a = cells[order[j - 1]];
                        int b = cells[k];
                        day += 2 * Math.max(Math.abs(a / 8 - b / 8), Math.abs(a % 8 - b % 8));
                    }
                    if (day > closes[i][k]) {
                        return -1;
                    }
                    day = Math.max(day, opens[i][k]);
                }
                latest = Math.max(latest, day);
            }
            return latest;
        }
    }
}
