/** Promises 1 to 4 and 36: a new object, ice, cell, dark, day. */
public final class IceTest {

    public static void main(String[] args) {
        newObject();
        ice();
        leastAndMostCells();
        cell();
        dark();
        day();
        Check.end("IceTest");
    }

    private static void newObject() {
        Check.due("NONE", IceTreaty.NONE, -1);
        IceTreaty x = new IceTreaty();
        int[] counts = {0, 8, 8, 0, 0, 0, 0, 0, 0, 0, 0, 0, 0, 0, 0, 0, 0};
        for (int what = 0; what < counts.length; what++) {
            Check.due("1 count(" + what + ")", x.count(what), counts[what]);
        }
        for (int what = 0; what < 8; what++) {
            Check.due("1 sum(" + what + ")", x.sum(what), 0);
        }
        Check.due("1 look", x.look(0, 0), -1);
        Check.due("1 seas are 10 days from home", seaDays(x), 10);
        IceTreaty y = Check.land(1);
        Check.due("1 the 64th cell is there", y.station(0, 63, 0, 0), 0);
        Check.due("1 the 65th is not", y.station(0, 64, 0, 0), -1);
    }

    private static int seaDays(IceTreaty x) {
        x.party(true);
        x.cell(0, 0, 2, -1, 0);
        x.station(0, 1, 0, 0);
        x.ship(0, 1, 0);
        x.voyage(0, 0, 0, 0);
        return x.at(0, 3);
    }

    private static void ice() {
        int[][] wrong = {{3, 8}, {13, 8}, {8, 3}, {8, 13}, {-1, 8}, {8, -1}, {Integer.MIN_VALUE, Integer.MAX_VALUE}};
        IceTreaty x = Check.land(1);
        for (int[] w : wrong) {
            Check.due("2 ice(" + w[0] + ", " + w[1] + ")", x.ice(w[0], w[1]), false);
        }
        Check.due("2 ice refused", x.count(1), 8);
        Check.due("2 ice", x.ice(12, 4), true);
        Check.due("2 W", x.count(1), 12);
        Check.due("2 H", x.count(2), 4);
        Check.due("2 ice", x.ice(4, 12), true);
        Check.due("2 a row is 4 cells now", x.cell(5, 7, 2, -1, 0), true);
        Check.due("2 ice", x.ice(5, 5), true);
        Check.due("2 cells are as at first", x.station(0, 5, 0, 0), 0);
        Check.due("2 places are there", x.ice(6, 6), false);
        IceTreaty y = Check.land(1);
        y.work(0, 0, 0, 0, 0, 0, 0);
        Check.due("2 works are there", y.ice(6, 6), false);
        IceTreaty z = Check.land(1);
        z.cell(9, 0, 0, 2, 10);
        z.cell(8, 5, 0, -1, 0);
        z.ice(8, 8);
        z.station(0, 9, 0, 0);
        z.station(0, 8, 0, 100);
        Check.days(z, 12);
        Check.due("2 nothing flows any more", z.look(0, 2), 9);
        Check.due("2 heights are 0 again", z.sledge(1, 0, 50), 13);
    }

    private static void leastAndMostCells() {
        IceTreaty x = Check.land(1);
        x.ice(4, 4);
        Check.due("2 the last cell of 4 by 4", x.station(0, 15, 0, 0), 0);
        Check.due("2 behind the last cell of 4 by 4", x.station(0, 16, 0, 0), -1);
        IceTreaty y = Check.land(1);
        y.ice(12, 12);
        Check.due("2 the last cell of 12 by 12", y.station(0, 143, 0, 0), 0);
        Check.due("2 behind the last cell of 12 by 12", y.station(0, 144, 0, 0), -1);
        Check.due("2 the last cell's height", y.cell(143, 40, 0, -1, 0), true);
        Check.due("2 no height behind it", y.cell(144, 40, 0, -1, 0), false);
        IceTreaty z = new IceTreaty();
        z.party(true);
        z.ship(0, 1, 0);
        Check.text(z, "z");
        Check.due("2 parties, ships and texts may be there", z.ice(6, 6), true);
    }

    private static void cell() {
        IceTreaty x = Check.land(1);
        int[][] wrong = {{-1, 0, 0, -1, 0}, {64, 0, 0, -1, 0}, {0, -1, 0, -1, 0}, {0, 41, 0, -1, 0}, {0, 0, -1, -1, 0},
            {0, 0, 4, -1, 0}, {0, 0, 0, -2, 0}, {0, 0, 0, 8, 10}, {0, 0, 0, 0, 9}, {0, 0, 0, 0, 3601}, {0, 0, 0, -1, 10},
            {0, 0, 0, -1, -1}, {0, 0, 0, 0, 0}};
        for (int[] w : wrong) {
            Check.due("3 cell" + java.util.Arrays.toString(w), x.cell(w[0], w[1], w[2], w[3], w[4]), false);
        }
        int[][] right = {{0, 0, 0, -1, 0}, {63, 40, 1, -1, 0}, {1, 0, 2, -1, 0}, {2, 0, 3, -1, 0}, {3, 0, 0, 0, 10}, {4, 0, 0, 7, 3600}};
        for (int[] r : right) {
            Check.due("3 cell" + java.util.Arrays.toString(r), x.cell(r[0], r[1], r[2], r[3], r[4]), true);
        }
        Check.due("3 rock bears a station", x.station(0, 63, 0, 0), 0);
        Check.due("3 sea does not", x.station(0, 1, 0, 0), -1);
        Check.due("3 crevasses do not", x.station(0, 2, 0, 0), -1);
        allWays();
        onlyIceFlows();
    }

    private static void allWays() {
        int[] next = {19, 20, 28, 36, 35, 34, 26, 18};
        for (int way = 0; way < 8; way++) {
            IceTreaty x = Check.land(1);
            x.cell(27, 0, 0, way, 10);
            x.station(0, 27, 0, 0);
            Check.days(x, 9);
            Check.due("3 not yet, way " + way, x.look(0, 2), 27);
            x.day();
            Check.due("3 way " + way, x.look(0, 2), next[way]);
        }
    }

    private static void onlyIceFlows() {
        IceTreaty x = Check.land(1);
        x.station(0, 27, 0, 0);
        Check.due("3 a way may be told for rock", x.cell(27, 0, 1, 2, 10), true);
        Check.days(x, 12);
        Check.due("3 rock does not flow", x.look(0, 2), 27);
        x.cell(27, 0, 0, 2, 10);
        x.day();
        Check.due("3 days since it was told have gone by", x.look(0, 2), 28);
    }

    private static void dark() {
        IceTreaty x = Check.land(1);
        int[][] wrong = {{-1, 5}, {5, 4}, {0, 360}, {360, 360}, {Integer.MIN_VALUE, 3}};
        for (int[] w : wrong) {
            Check.due("4 dark(" + w[0] + ", " + w[1] + ")", x.dark(w[0], w[1]), false);
        }
        Check.due("4 dark", x.dark(359, 359), true);
        Check.due("4 dark", x.dark(2, 3), true);
        x.station(0, 0, 10, 100);
        int[] drums = {99, 97, 95, 94};
        for (int n : drums) {
            x.day();
            Check.due("4 drums on day " + x.count(0), x.look(0, 7), n);
        }
        Check.due("4 waste of rank 3", x.look(0, 13), 2);
        Check.due("4 waste of rank 0", x.look(0, 10), 2);
        darkAtFirst();
        IceTreaty y = Check.land(1);
        y.dark(3, 3);
        y.station(0, 0, 1, 10);
        Check.days(y, 363);
        Check.due("4 dark again in the second year", y.look(0, 13), 1);
    }

    private static void darkAtFirst() {
        IceTreaty x = Check.land(1);
        x.station(0, 0, 1, 100000);
        int[][] drumsByDay = {{119, 119}, {120, 121}, {239, 359}, {240, 360}};
        for (int[] d : drumsByDay) {
            while (x.count(0) < d[0]) {
                x.day();
            }
            Check.due("4 burnt by day " + d[0], x.sum(1), d[1]);
        }
    }

    private static void day() {
        IceTreaty x = new IceTreaty();
        for (int d = 1; d < 3600; d++) {
            Check.due("36 day", x.day(), d);
        }
        Check.due("36 no day above 3599", x.day(), -1);
        Check.due("36 DAY", x.count(0), 3599);
        Check.due("36 no day above 3599, asked again", x.day(), -1);
        order();
        worksAheadOfStations();
        shipsByNumbers();
    }

    /** On the day on which the ice takes the station along, the works still see it where it was. */
    private static void worksAheadOfStations() {
        IceTreaty x = Check.land(2);
        Check.text(x, "f(o=1)");
        x.cell(27, 0, 0, 2, 10);
        x.station(0, 27, 0, 0);
        x.work(1, 1, 24, 10, 11, 0, 0);
        x.work(1, 1, 31, 10, 11, 0, 0);
        Check.days(x, 10);
        Check.due("36 works ahead of stations: it was 3 far", x.about(0, 6), 1);
        Check.due("36 works ahead of stations: it was 4 far", x.about(1, 5), 1);
        x.day();
        Check.due("36 it is 4 far", x.about(0, 5), 1);
        Check.due("36 it is 3 far", x.about(1, 6), 1);
    }

    private static void shipsByNumbers() {
        IceTreaty x = Check.land(1);
        x.cell(0, 0, 2, -1, 0);
        x.station(0, 1, 50, 1000);
        x.ship(0, 3, 0);
        x.ship(0, 100, 0);
        x.voyage(1, 0, 0, 0);
        x.voyage(0, 0, 0, 0);
        Check.days(x, 10);
        Check.due("36 the lower number takes its waste first", x.at(0, 2), 3);
        Check.due("36 the higher one what is left", x.at(1, 2), 7);
    }

    /** Works, then stations, then ships, then sledges. */
    private static void order() {
        IceTreaty x = Check.land(1);
        x.cell(0, 0, 2, -1, 0);
        x.station(0, 1, 10, 0);
        x.station(0, 20, 0, 100);
        x.ship(0, 50, 0);
        x.sea(0, 1);
        x.voyage(0, 0, 0, 5);
        Check.due("36 sledge", x.sledge(1, 0, 4), 3);
        x.day();
        Check.due("36 the ship comes behind the burning", x.look(0, 7), 5);
        Check.due("36 so it was cold", x.look(0, 9), 1);
        Check.days(x, 2);
        Check.due("36 sledges come behind it, too", x.look(0, 7), 4);
    }
}
