/** Promises 26 to 30 and 59: ships, seas, voyages, sledges. */
public final class ShipsTest {

    public static void main(String[] args) {
        ship();
        cover();
        coverInTheNextYear();
        sea();
        voyageRefused();
        voyage();
        moreThanTold();
        waiting();
        turnsBack();
        stationGone();
        waste();
        sledgeRefused();
        sledge();
        sledgeWays();
        sledgeLost();
        leastDays();
        Check.end("ShipsTest");
    }

    private static void ship() {
        IceTreaty x = Check.land(2);
        int[][] wrong = {{2, 1, 0}, {-1, 1, 0}, {0, 0, 0}, {0, 10001, 0}, {0, 1, -1}, {0, 1, 101}};
        for (int[] w : wrong) {
            Check.due("26 ship" + java.util.Arrays.toString(w), x.ship(w[0], w[1], w[2]), -1);
        }
        for (int s = 0; s < 10; s++) {
            Check.due("26 ship", x.ship(s % 2, s == 0 ? 1 : 10000, s == 0 ? 0 : 100), s);
        }
        Check.due("26 10 are there", x.ship(0, 1, 0), -1);
        Check.due("62 ships", x.count(8), 10);
        int[] due = {0, 0, 0, -1, 0, -1};
        for (int what = 0; what < due.length; what++) {
            Check.due("59 at(0, " + what + ")", x.at(0, what), due[what]);
        }
        Check.due("59 others", x.at(0, -1), -1);
        Check.due("59 no ship", x.at(10, 0), -1);
        Check.due("59 no ship", x.at(-1, 0), -1);
    }

    private static void cover() {
        IceTreaty x = new IceTreaty();
        int[][] wrong = {{-1, 0, 0}, {4, 0, 0}, {0, -1, 0}, {0, 12, 0}, {0, 0, -1}, {0, 0, 101}};
        for (int[] w : wrong) {
            Check.due("27 cover" + java.util.Arrays.toString(w), x.cover(w[0], w[1], w[2]), false);
        }
        Check.due("27 cover", x.cover(0, 0, 0), true);
        Check.due("27 cover", x.cover(3, 11, 100), true);
        for (int month = 0; month < 12; month++) {
            IceTreaty y = openIn(month);
            Check.days(y, 30 * month + 19);
            y.voyage(0, 3, 0, 0);
            Check.days(y, 10);
            Check.due("27 on the last day of month " + month, y.at(0, 0), 3);
            IceTreaty z = openIn((month + 1) % 12);
            Check.days(z, 30 * month + 19);
            z.voyage(0, 3, 0, 0);
            Check.days(z, 10);
            Check.due("27 a day ahead of the month behind " + month, z.at(0, 0), 2);
            z.day();
            Check.due("27 on the first day of the month behind " + month, z.at(0, 0), 3);
        }
    }

    private static void coverInTheNextYear() {
        IceTreaty x = atSea(0, 0);
        x.cover(0, 0, 1);
        x.cover(0, 11, 1);
        x.cover(0, 1, 0);
        Check.days(x, 345);
        x.voyage(0, 0, 0, 0);
        Check.days(x, 10);
        Check.due("27 month 11", x.at(0, 0), 2);
        Check.days(x, 5);
        Check.due("27 month 0 of the next year", x.at(0, 0), 2);
        Check.days(x, 29);
        Check.due("27 the last day of it", x.at(0, 4), 35);
        x.day();
        Check.due("27 month 1 of it", x.at(0, 0), 3);
    }

    private static void moreThanTold() {
        IceTreaty x = Check.land(1);
        x.cell(0, 0, 2, -1, 0);
        x.station(0, 9, 0, 100000);
        x.ship(0, 10000, 0);
        x.voyage(0, 0, 0, 10000);
        Check.days(x, 10);
        Check.due("29 ships may bring more", x.look(0, 7), 110000);
        Check.due("61 brought", x.sum(0), 110000);
    }

    private static IceTreaty openIn(int month) {
        IceTreaty x = atSea(30, 0);
        for (int m = 0; m < 12; m++) {
            x.cover(3, m, m == month ? 30 : 31);
            x.cover(2, m, m == month ? 31 : 30);
        }
        return x;
    }

    /** A station beside the sea, a ship of room 100 at home. */
    private static IceTreaty atSea(int strength, int drums) {
        IceTreaty x = Check.land(2);
        x.cell(0, 0, 2, -1, 0);
        x.station(0, 9, 0, drums);
        x.ship(1, 100, strength);
        return x;
    }

    private static void sea() {
        IceTreaty x = atSea(0, 0);
        int[][] wrong = {{-1, 5}, {4, 5}, {0, 0}, {0, 91}};
        for (int[] w : wrong) {
            Check.due("28 sea" + java.util.Arrays.toString(w), x.sea(w[0], w[1]), false);
        }
        Check.due("28 sea", x.sea(3, 90), true);
        x.voyage(0, 3, 0, 0);
        Check.due("28 90 days", x.at(0, 3), 90);
        Check.due("28 sea", x.sea(3, 1), true);
        Check.due("28 as they were when it left", x.at(0, 3), 90);
        Check.days(x, 90);
        Check.due("28 as they were when it left", x.at(0, 3), 180);
    }

    private static void voyageRefused() {
        IceTreaty x = atSea(0, 0);
        x.station(0, 18, 0, 0);
        x.site(9, false);
        int[][] wrong = {{1, 0, 0, 0}, {-1, 0, 0, 0}, {0, -1, 0, 0}, {0, 4, 0, 0}, {0, 0, 1, 0}, {0, 0, 2, 0}, {0, 0, 3, 0},
            {0, 0, -1, 0}, {0, 0, 0, -1}, {0, 0, 0, 101}};
        for (int[] w : wrong) {
            Check.due("29 voyage" + java.util.Arrays.toString(w), x.voyage(w[0], w[1], w[2], w[3]), false);
        }
        Check.due("29 nothing was brought", x.sum(0), 0);
        Check.due("29 voyage", x.voyage(0, 0, 0, 100), true);
        Check.due("29 not at home", x.voyage(0, 0, 0, 1), false);
        Check.due("29 brought", x.sum(0), 100);
        IceTreaty y = Check.land(1);
        y.cell(9, 0, 0, 0, 10);
        y.cell(1, 0, 2, -1, 0);
        y.station(0, 9, 0, 0);
        y.ship(0, 1, 0);
        Check.days(y, 10);
        Check.due("29 lost", y.voyage(0, 0, 0, 0), false);
        nearSea();
    }

    private static void nearSea() {
        int[] near = {18, 19, 20, 26, 27, 28, 34, 35, 36};
        for (int c = 0; c < 64; c++) {
            boolean isNear = false;
            for (int n : near) {
                isNear |= n == c;
            }
            IceTreaty x = Check.land(1);
            x.station(0, 27, 0, 0);
            x.ship(0, 1, 0);
            x.cell(c, 0, 2, -1, 0);
            Check.due("29 sea in cell " + c, x.voyage(0, 0, 0, 0), isNear);
        }
        IceTreaty x = Check.land(1);
        x.station(0, 8, 0, 0);
        x.ship(0, 1, 0);
        x.cell(7, 0, 2, -1, 0);
        x.cell(23, 0, 2, -1, 0);
        Check.due("29 rows do not go on behind their ends", x.voyage(0, 0, 0, 0), false);
        x.cell(0, 0, 3, -1, 0);
        Check.due("29 crevasses are no sea", x.voyage(0, 0, 0, 0), false);
    }

    private static void at(IceTreaty x, String when, int... due) {
        for (int what = 0; what < due.length; what++) {
            Check.due("59 at(0, " + what + ") " + when, x.at(0, what), due[what]);
        }
    }

    private static void voyage() {
        IceTreaty x = atSea(30, 5);
        x.sea(2, 3);
        x.cover(2, 0, 30);
        x.voyage(0, 2, 0, 80);
        at(x, "gone", 1, 80, 0, 3, 0);
        Check.days(x, 2);
        at(x, "on its way", 1, 80, 0, 3, 0);
        x.day();
        at(x, "at the station", 3, 0, 0, 6, 0);
        Check.due("29 its drums are the station's", x.look(0, 7), 85);
        Check.days(x, 2);
        at(x, "on its way home", 3, 0, 0, 6, 0);
        x.day();
        at(x, "at home", 0, 0, 0, -1, 0);
        Check.due("29 it may go at once", x.voyage(0, 2, 0, 1), true);
        Check.due("61 brought", x.sum(0), 86);
        Check.due("61 home", x.sum(3), 0);
    }

    private static void waiting() {
        IceTreaty x = atSea(30, 0);
        x.cover(1, 0, 31);
        x.cover(1, 1, 100);
        x.cover(1, 2, 30);
        x.voyage(0, 1, 0, 7);
        Check.days(x, 10);
        at(x, "waiting", 2, 7, 0, -1, 1);
        Check.days(x, 49);
        at(x, "waiting", 2, 7, 0, -1, 50);
        x.day();
        at(x, "at the station", 3, 0, 0, 70, 50);
        Check.days(x, 10);
        at(x, "at home", 0, 0, 0, -1, 50);
        x.voyage(0, 0, 0, 0);
        at(x, "gone again", 1, 0, 0, 80, 0);
    }

    private static void turnsBack() {
        IceTreaty x = atSea(30, 0);
        for (int m = 0; m < 3; m++) {
            x.cover(1, m, 31);
        }
        x.voyage(0, 1, 0, 7);
        Check.days(x, 68);
        at(x, "waiting", 2, 7, 0, -1, 59);
        x.day();
        at(x, "turned back", 3, 7, 0, 79, 60);
        Check.days(x, 10);
        at(x, "at home", 0, 0, 0, -1, 60);
        Check.due("61 home", x.sum(3), 7);
        IceTreaty y = atSea(30, 0);
        for (int m = 0; m < 2; m++) {
            y.cover(1, m, 31);
        }
        y.sea(1, 1);
        y.voyage(0, 1, 0, 7);
        Check.days(y, 59);
        at(y, "waiting", 2, 7, 0, -1, 59);
        y.day();
        at(y, "open on what would be the 60th", 3, 0, 0, 61, 59);
    }

    private static void stationGone() {
        IceTreaty x = Check.land(1);
        x.cell(9, 0, 0, 0, 10);
        x.cell(1, 0, 2, -1, 0);
        x.station(0, 9, 0, 0);
        x.ship(0, 100, 0);
        x.sea(0, 11);
        x.voyage(0, 0, 0, 5);
        Check.days(x, 11);
        at(x, "the station is lost", 3, 5, 0, 22, 0);
        Check.due("36 nothing comes there", x.look(0, 7), 0);
        Check.days(x, 11);
        Check.due("61 home", x.sum(3), 5);
        IceTreaty y = Check.land(1);
        y.cell(9, 0, 0, 4, 10);
        y.cell(1, 0, 2, -1, 0);
        y.station(0, 9, 10, 100);
        y.ship(0, 100, 0);
        y.sea(0, 10);
        y.voyage(0, 0, 0, 5);
        Check.days(y, 10);
        at(y, "no sea is near any more", 3, 5, 0, 20, 0);
        Check.due("36 no waste goes aboard", y.look(0, 10), 10);
        IceTreaty z = Check.land(1);
        z.cell(9, 0, 0, 0, 10);
        z.cell(1, 0, 2, -1, 0);
        z.station(0, 9, 0, 0);
        z.ship(0, 100, 0);
        z.cover(0, 0, 1);
        z.voyage(0, 0, 0, 5);
        Check.days(z, 29);
        at(z, "the ice is shut, whatever is behind it", 2, 5, 0, -1, 20);
        z.day();
        at(z, "the ice is open", 3, 5, 0, 40, 20);
    }

    private static void waste() {
        IceTreaty x = Check.land(1);
        x.cell(0, 0, 2, -1, 0);
        x.station(0, 9, 100, 1000);
        x.ship(0, 15, 0);
        x.dark(3, 5);
        x.voyage(0, 0, 0, 15);
        Check.days(x, 10);
        at(x, "waste of rank 3 first", 3, 0, 15, 20, 0);
        Check.due("36 waste of rank 3", x.look(0, 13), 0);
        Check.due("36 waste of rank 0", x.look(0, 10), 5);
        Check.days(x, 10);
        Check.due("61 waste home", x.sum(6), 15);
        at(x, "at home", 0, 0, 0, -1, 0);
        Check.due("36 waste made meanwhile", x.look(0, 10), 25);
        IceTreaty y = Check.land(1);
        y.cell(0, 0, 2, -1, 0);
        y.station(0, 9, 100, 1000);
        y.ship(0, 4, 0);
        y.dark(3, 5);
        y.voyage(0, 0, 0, 0);
        Check.days(y, 10);
        Check.due("36 of rank 3 alone", y.look(0, 13), 2);
        Check.due("36 none of rank 0", y.look(0, 10), 14);
    }

    private static void sledgeRefused() {
        IceTreaty x = Check.land(2);
        x.station(0, 0, 0, 600);
        x.station(0, 5, 0, 600);
        x.station(1, 6, 0, 600);
        x.site(5, false);
        int[][] wrong = {{0, 0, 9}, {0, 2, 9}, {0, 3, 9}, {3, 0, 9}, {0, 4, 9}, {-1, 0, 9}, {0, 1, 0}, {0, 1, -1}, {0, 1, 501},
            {0, 1, 5}, {0, 1, 4}, {2, 1, 9}};
        for (int[] w : wrong) {
            Check.due("30 sledge" + java.util.Arrays.toString(w), x.sledge(w[0], w[1], w[2]), -1);
        }
        Check.due("30 one more than it needs", x.sledge(0, 1, 6), 5);
        Check.due("30 500", x.sledge(0, 1, 500), 5);
        Check.due("30 it has not so many", x.sledge(0, 1, 95), -1);
        x.hide(0, 10);
        Check.due("30 hidden ones are not there", x.sledge(0, 1, 94), -1);
        Check.due("30 all it has", x.sledge(0, 1, 84), 5);
        Check.due("61 burnt when they go", x.sum(1), 15);
        Check.due("30 none left", x.look(0, 7), 0);
        for (int g = 3; g < 40; g++) {
            Check.due("30 sledge", x.sledge(1, 0, 10), 5);
        }
        Check.due("30 40 were there", x.sledge(1, 0, 10), -1);
        Check.due("62 on their way", x.count(9), 40);
        Check.days(x, 5);
        Check.due("62 on their way", x.count(9), 0);
        Check.due("30 40 were there", x.sledge(1, 0, 10), -1);
        Check.due("36 what came", x.look(0, 7), 37 * 5);
    }

    private static void sledge() {
        IceTreaty x = Check.land(1);
        x.station(0, 0, 0, 100);
        x.station(0, 0, 0, 0);
        Check.due("30 in one cell: the next day", x.sledge(0, 1, 1), 1);
        Check.due("30 they are gone", x.look(0, 7), 99);
        Check.due("30 not there yet", x.look(1, 7), 0);
        Check.due("61 nothing is burnt", x.sum(1), 0);
        x.day();
        Check.due("36 there", x.look(1, 7), 1);
        Check.days(x, 3598);
        Check.due("30 behind the last day", x.sledge(0, 1, 9), 3600);
        Check.due("36 no day", x.day(), -1);
        Check.due("62 on their way for ever", x.count(9), 1);
    }

    private static void sledgeWays() {
        IceTreaty x = Check.land(1);
        x.ice(5, 4);
        x.station(0, 0, 0, 900);
        x.station(0, 4, 0, 0);
        Check.due("30 straight", x.sledge(0, 1, 100), 4);
        x.cell(2, 7, 0, -1, 0);
        Check.due("30 around a height", x.sledge(0, 1, 100), 4);
        x.cell(7, 7, 0, -1, 0);
        Check.due("30 around two", x.sledge(0, 1, 100), 4);
        x.cell(12, 7, 0, -1, 0);
        Check.due("30 around three", x.sledge(0, 1, 100), 6);
        x.cell(17, 0, 2, -1, 0);
        Check.due("30 over one: 4 and up and down", x.sledge(0, 1, 100), 18);
        x.cell(2, 0, 3, -1, 0);
        x.cell(7, 0, 2, -1, 0);
        x.cell(12, 1, 1, -1, 0);
        Check.due("30 over rock of height 1", x.sledge(0, 1, 100), 6);
        x.cell(12, 0, 3, -1, 0);
        Check.due("30 no way", x.sledge(0, 1, 100), -1);
        x.cell(12, 0, 0, -1, 0);
        x.cell(4, 0, 2, -1, 0);
        Check.due("30 never onto sea", x.sledge(0, 1, 100), -1);
        x.cell(4, 0, 0, -1, 0);
        x.cell(0, 0, 2, -1, 0);
        Check.due("30 the cell from which they go is not asked", x.sledge(0, 1, 100), 4);
        Check.due("61 burnt", x.sum(1), 4 + 4 + 4 + 6 + 18 + 6 + 4);
    }

    private static void sledgeLost() {
        IceTreaty x = Check.land(1);
        x.cell(27, 0, 0, 2, 10);
        x.cell(35, 0, 0, 4, 10);
        x.cell(43, 0, 2, -1, 0);
        x.station(0, 24, 0, 500);
        x.station(0, 27, 0, 0);
        x.station(0, 35, 0, 0);
        Check.days(x, 7);
        Check.due("30 to 27", x.sledge(0, 1, 50), 10);
        Check.due("30 to 35", x.sledge(0, 2, 60), 10);
        Check.days(x, 3);
        Check.due("36 it is not in that cell then", x.look(1, 7), 0);
        Check.due("36 it is lost then", x.look(2, 5), 1);
        Check.due("61 both are lost", x.sum(2), 47 + 57);
        Check.due("62 on their way", x.count(9), 0);
        Check.due("30 no sledges to a lost one", x.sledge(0, 2, 60), -1);
        Check.due("30 no sledges from a lost one", x.sledge(2, 0, 60), -1);
        IceTreaty y = Check.land(1);
        y.cell(15, 0, 0, 2, 10);
        y.station(0, 13, 0, 500);
        y.station(0, 15, 0, 0);
        Check.days(y, 8);
        Check.due("30 to 15", y.sledge(0, 1, 50), 10);
        Check.days(y, 2);
        Check.due("61 lost in that very cell", y.sum(2), 48);
    }

    /** Against the days found by trying all steps again and again. */
    private static void leastDays() {
        java.util.Random random = new java.util.Random(4);
        for (int run = 0; run < 300; run++) {
            int w = 4 + random.nextInt(9);
            int h = 4 + random.nextInt(9);
            IceTreaty x = Check.land(1);
            x.ice(w, h);
            int from = random.nextInt(w * h);
            int to = random.nextInt(w * h);
            x.station(0, from, 0, 100000);
            x.station(0, to, 0, 0);
            int[] heights = new int[w * h];
            int[] grounds = new int[w * h];
            for (int c = 0; c < w * h; c++) {
                heights[c] = random.nextInt(1 + random.nextInt(41));
                grounds[c] = random.nextInt(3) == 0 ? random.nextInt(4) : 0;
                x.cell(c, heights[c], grounds[c], -1, 0);
            }
            long days = slowDays(w, h, heights, grounds, from, to);
            int due = days < 0 || days >= 500 ? -1 : (int) Math.max(1, days);
            Check.due("30 by trying all, run " + run, x.sledge(0, 1, 500), due);
        }
    }

    private static long slowDays(int w, int h, int[] heights, int[] grounds, int from, int to) {
        long[] days = new long[w * h];
        java.util.Arrays.fill(days, 1000000);
        days[from] = 0;
        for (int round = 0; round < w * h; round++) {
            for (int a = 0; a < w * h; a++) {
                for (int b = 0; b < w * h; b++) {
                    boolean isBeside = a != b && Math.abs(a / w - b / w) <= 1 && Math.abs(a % w - b % w) <= 1;
                    if (isBeside && grounds[b] < 2) {
                        days[b] = Math.min(days[b], days[a] + 1 + Math.abs(heights[a] - heights[b]));
                    }
                }
            }
        }
        return days[to] >= 1000000 ? -1 : days[to];
    }
}
