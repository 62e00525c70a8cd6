import java.util.Random;

/** Promises 55 to 57: reports, what was known when, check. */
public final class ReportsTest {

    public static void main(String[] args) {
        report();
        known();
        knownOfLost();
        byTryingAll();
        check();
        Check.end("ReportsTest");
    }

    private static void report() {
        IceTreaty x = Check.land(1);
        x.station(0, 0, 0, 0);
        x.site(0, false);
        Check.days(x, 3);
        Check.due("55 no station", x.report(1, 0, 0, true), false);
        Check.due("55 no place", x.report(2, 0, 0, true), false);
        Check.due("55 no place", x.report(-1, 0, 0, true), false);
        Check.due("55 behind today", x.report(0, 4, 0, true), false);
        Check.due("55 no day", x.report(0, -1, 0, false), false);
        Check.due("55 number", x.report(0, 0, -1001, true), false);
        Check.due("55 number", x.report(0, 0, 1000001, true), false);
        Check.due("55 report", x.report(0, 0, -1000, true), true);
        Check.due("55 report", x.report(0, 3, 1000000, true), true);
        Check.due("55 not known", x.report(0, 3, 0, false), true);
        Check.due("62 reports", x.count(15), 3);
        for (int r = 3; r < 200; r++) {
            Check.due("55 report", x.report(0, 0, r, true), true);
        }
        Check.due("55 200 were told", x.report(0, 0, 0, true), false);
        Check.due("56 the last one", x.known(0, 0, 3), 199);
    }

    private static void known() {
        IceTreaty x = Check.land(1);
        x.station(0, 0, 0, 0);
        x.station(0, 0, 0, 0);
        x.site(0, false);
        Check.due("56 nothing", x.known(0, 0, 0), -1000001);
        Check.days(x, 5);
        x.report(0, 2, 20, true);
        x.report(0, 2, 21, true);
        x.report(0, 4, 0, false);
        x.report(1, 3, 99, true);
        x.day();
        x.report(0, 2, 0, false);
        x.report(0, 1, 10, true);
        x.day();
        x.report(0, 2, 22, true);
        x.report(0, 1, 11, true);
        int[][] due = {{2, 4, -1000001}, {2, 5, 21}, {3, 5, 21}, {4, 5, 21}, {1, 5, -1000001}, {2, 6, 10}, {3, 6, 21}, {1, 6, 10},
            {0, 6, -1000001}, {2, 7, 22}, {3, 7, 22}, {4, 7, 22}, {1, 7, 11}, {2, 3599, 22}, {3599, 3599, 22}};
        for (int[] d : due) {
            Check.due("56 known(0, " + d[0] + ", " + d[1] + ")", x.known(0, d[0], d[1]), d[2]);
        }
        int[][] wrong = {{2, 2, 7}, {3, 2, 7}, {-1, 2, 7}, {0, -1, 7}, {0, 3600, 7}, {0, 2, -1}, {0, 2, 3600}};
        for (int[] w : wrong) {
            Check.due("56 known" + java.util.Arrays.toString(w), x.known(w[0], w[1], w[2]), -1000001);
        }
        Check.due("56 another station", x.known(1, 3, 5), 99);
    }

    private static void knownOfLost() {
        IceTreaty x = Check.land(1);
        x.cell(0, 0, 0, 0, 10);
        x.station(0, 0, 0, 0);
        Check.days(x, 10);
        Check.due("55 of a lost station, too", x.report(0, 10, 5, true), true);
        Check.due("56 of a lost station, too", x.known(0, 10, 10), 5);
    }

    private static void byTryingAll() {
        Random random = new Random(6);
        for (int run = 0; run < 100; run++) {
            IceTreaty x = Check.land(1);
            x.station(0, 0, 0, 0);
            x.station(0, 0, 0, 0);
            int[][] told = new int[30][];
            for (int r = 0; r < told.length; r++) {
                Check.days(x, random.nextInt(2));
                int today = x.count(0);
                told[r] = new int[] {random.nextInt(2), random.nextInt(today + 1), r, random.nextInt(2), today};
                x.report(told[r][0], told[r][1], told[r][2], told[r][3] == 1);
            }
            for (int k = 0; k < 2; k++) {
                for (int d = 0; d < 20; d++) {
                    for (int t = 0; t < 20; t++) {
                        Check.due("56 by trying all", x.known(k, d, t), slowKnown(told, k, d, t));
                    }
                }
            }
        }
    }

    private static int slowKnown(int[][] told, int k, int d, int t) {
        int last = -1;
        for (int r = 0; r < told.length; r++) {
            if (told[r][0] == k && told[r][4] <= t && told[r][1] == d) {
                last = r;
            }
        }
        if (last >= 0 && told[last][3] == 1) {
            return told[last][2];
        }
        for (int day = d - 1; day >= 0; day--) {
            for (int r = told.length - 1; r >= 0; r--) {
                if (told[r][0] == k && told[r][4] <= t && told[r][1] == day && told[r][3] == 1) {
                    return told[r][2];
                }
            }
        }
        return -1000001;
    }

    private static void check() {
        IceTreaty x = Check.land(1);
        Check.due("57 nothing is right", Check.check(x), -1);
        Check.due("57 one that is not there", Check.check(x, 0, 5), 0);
        x.cell(0, 0, 0, 0, 10);
        x.station(0, 0, 0, 3);
        x.site(0, false);
        x.station(0, 9, 0, 70000);
        x.station(0, 9, 0, 0);
        x.hide(2, 50000);
        Check.due("57 right", Check.check(x, 0, 3, 2, 70000, 3, 0), -1);
        Check.due("57 empty then", x.count(16), 0);
        Check.due("57 another station", Check.check(x, 1, 3, 2, 70000, 3, 0), 0);
        Check.due("57 other drums", Check.check(x, 0, 4, 2, 70000, 3, 0), 1);
        Check.due("57 another station", Check.check(x, 0, 3, 3, 0, 3, 0), 2);
        Check.due("57 without the hidden ones", Check.check(x, 0, 3, 2, 20000, 3, 0), 3);
        Check.due("57 negative", Check.check(x, 0, 3, 2, 70000, 3, -1), 5);
        Check.due("57 some are lacking", Check.check(x, 0, 3, 2, 70000), 4);
        Check.due("57 all are lacking", Check.check(x), 0);
        Check.due("57 one too many", Check.check(x, 0, 3, 2, 70000, 3, 0, 0, 0), 6);
        Check.due("57 empty then", x.count(16), 0);
        x.feed(0, 3, 2, 70000, 3);
        Check.due("57 it has not so many", x.check(3), -2);
        x.feed(0, 0, 0, 0, 0);
        Check.due("57 five twos are in 40 bytes", x.check(6), -2);
        Check.due("57 five twos are in 40 bytes", x.check(5), 6);
        for (int feeds = 1; feeds <= 20; feeds++) {
            for (int i = 0; i < feeds; i++) {
                x.feed(1, 0, 0, 0, 0);
            }
            Check.due("57 one two more than " + 20 * feeds + " bytes hold", x.check(20 * feeds / 8 + 1), -2);
            Check.due("57 the tape stays", x.count(16), 20 * feeds);
            Check.due("57 as many as they hold", x.check(20 * feeds / 8), 0);
            Check.due("57 empty then", x.count(16), 0);
        }
        x.feed(0, 3, 2, 70000, 3);
        Check.due("57 below 0", x.check(-1), -2);
        Check.due("57 huge", x.check(Integer.MAX_VALUE), -2);
        Check.due("57 huge", x.check(Integer.MIN_VALUE), -2);
        Check.due("57 the tape stays", x.count(16), 20);
        Check.due("57 by the first numbers alone", x.check(2), 4);
        Check.days(x, 10);
        Check.due("57 lost ones do not count", Check.check(x, 2, 70000, 3, 0), -1);
    }
}
