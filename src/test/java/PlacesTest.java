/** Promises 5 to 11, 25 and 58: parties, places, whose, look. */
public final class PlacesTest {

    public static void main(String[] args) {
        party();
        claim();
        title();
        asleepForOne();
        station();
        field();
        reserve();
        site();
        sixty();
        whose();
        whoseFirst();
        look();
        Check.end("PlacesTest");
    }

    private static void party() {
        IceTreaty x = new IceTreaty();
        Check.days(x, 4);
        for (int p = 0; p < 9; p++) {
            Check.due("5 party", x.party(p % 2 == 0), p);
        }
        Check.due("5 a tenth party", x.party(true), -1);
        Check.due("5 parties", x.count(3), 9);
        Check.due("5 decides from today", x.count(20), 4);
        Check.due("5 listens", x.count(21), -1);
    }

    private static void claim() {
        IceTreaty x = Check.land(2);
        int[][] wrong = {{2, 0, 9, 1}, {-1, 0, 9, 1}, {0, -1, 9, 1}, {0, 0, 64, 1}, {0, 9, 0, 1}, {0, 1, 8, 1}, {0, 8, 1, 1},
            {0, 0, 9, -1}, {0, 0, 9, 1000}};
        for (int[] w : wrong) {
            Check.due("6 claim" + java.util.Arrays.toString(w), x.claim(w[0], w[1], w[2], w[3]), -1);
        }
        Check.due("6 claim", x.claim(0, 0, 63, 0), 0);
        Check.due("6 claim of a cell", x.claim(1, 9, 9, 999), 1);
        Check.text(x, "z");
        Check.due("6 asleep", x.claim(0, 0, 9, 1), -1);
        Check.due("6 places", x.count(4), 2);
    }

    private static void title() {
        IceTreaty x = Check.land(1);
        x.claim(0, 0, 9, 10);
        x.site(0, false);
        Check.due("7 title", x.title(0, 999), true);
        Check.due("7 title", x.title(0, 0), true);
        Check.due("7 title", x.title(0, 10), true);
        Check.due("7 above 999", x.title(0, 1000), false);
        Check.due("7 below 0", x.title(0, -1), false);
        Check.due("7 no claim", x.title(1, 5), false);
        Check.due("7 no place", x.title(2, 5), false);
        Check.text(x, 1, 3599, "z");
        Check.due("7 not asleep yet", x.title(0, 11), true);
        x.day();
        Check.due("7 more while asleep", x.title(0, 12), false);
        Check.due("7 as much while asleep", x.title(0, 11), true);
        Check.due("7 less while asleep", x.title(0, 4), true);
        Check.due("7 it is told", x.look(0, 4), 4);
    }

    private static void asleepForOne() {
        IceTreaty x = Check.land(2);
        x.claim(0, 0, 9, 10);
        x.claim(1, 0, 9, 10);
        Check.text(x, "a0");
        Check.text(x, "z");
        x.yes(1, 1);
        Check.due("7 not asleep for its party", x.title(0, 11), true);
        Check.due("7 asleep for its party", x.title(1, 11), false);
        Check.due("6 not asleep for its party", x.claim(0, 0, 0, 1), 2);
        Check.due("6 asleep for its party", x.claim(1, 0, 0, 1), -1);
        Check.due("6 asleep for its party, a title of 0, too", x.claim(1, 0, 0, 0), -1);
    }

    private static void station() {
        IceTreaty x = Check.land(1);
        x.cell(5, 0, 2, -1, 0);
        x.cell(6, 0, 3, -1, 0);
        x.cell(7, 0, 1, -1, 0);
        int[][] wrong = {{1, 0, 0, 0}, {-1, 0, 0, 0}, {0, -1, 0, 0}, {0, 64, 0, 0}, {0, 5, 0, 0}, {0, 6, 0, 0}, {0, 0, -1, 0},
            {0, 0, 501, 0}, {0, 0, 0, -1}, {0, 0, 0, 100001}};
        for (int[] w : wrong) {
            Check.due("8 station" + java.util.Arrays.toString(w), x.station(w[0], w[1], w[2], w[3]), -1);
        }
        Check.due("8 nothing was brought", x.sum(0), 0);
        Check.due("8 station", x.station(0, 7, 500, 100000), 0);
        Check.due("8 two in a cell", x.station(0, 7, 0, 0), 1);
        Check.due("8 brought", x.sum(0), 100000);
    }

    private static void field() {
        IceTreaty x = Check.land(2);
        x.cell(5, 0, 2, -1, 0);
        x.cell(6, 0, 3, -1, 0);
        x.site(0, false);
        x.station(1, 9, 0, 0);
        Check.due("9 field", x.field(1, 63), 2);
        Check.due("9 no station", x.field(0, 1), -1);
        Check.due("9 a field has no fields", x.field(2, 1), -1);
        Check.due("9 no place", x.field(3, 1), -1);
        Check.due("9 sea", x.field(1, 5), -1);
        Check.due("9 crevasses", x.field(1, 6), -1);
        Check.due("9 no cell", x.field(1, 64), -1);
        Check.due("9 its party", x.look(2, 1), 1);
        Check.due("9 its station", x.look(2, 4), 1);
        x.cell(9, 0, 0, 0, 10);
        x.cell(1, 0, 2, -1, 0);
        Check.days(x, 10);
        Check.due("9 the station is lost", x.look(1, 5), 1);
        Check.due("9 no field of a lost one", x.field(1, 3), -1);
    }

    private static void reserve() {
        IceTreaty x = new IceTreaty();
        Check.due("10 reserve", x.reserve(0, 0, 1), 0);
        Check.due("10 reserve", x.reserve(0, 63, 9), 1);
        int[][] wrong = {{0, 0, 0}, {0, 0, 10}, {-1, 0, 1}, {0, 64, 1}, {8, 0, 1}, {1, 0, 1}, {1, 8, 1}};
        for (int[] w : wrong) {
            Check.due("10 reserve" + java.util.Arrays.toString(w), x.reserve(w[0], w[1], w[2]), -1);
        }
    }

    private static void site() {
        IceTreaty x = new IceTreaty();
        x.cell(3, 0, 2, -1, 0);
        Check.due("11 site", x.site(0, false), 0);
        Check.due("11 nest", x.site(63, true), 1);
        Check.due("11 sites may be anywhere", x.site(3, true), 2);
        Check.due("11 no cell", x.site(-1, false), -1);
        Check.due("11 no cell", x.site(64, true), -1);
        Check.due("11 kind of a site", x.look(0, 0), 4);
        Check.due("11 kind of a nest", x.look(1, 0), 5);
    }

    private static void sixty() {
        IceTreaty x = Check.land(1);
        x.station(0, 0, 0, 1);
        for (int k = 1; k < 60; k++) {
            Check.due("11 site", x.site(k, false), k);
        }
        Check.due("6 60 are there", x.claim(0, 0, 0, 0), -1);
        Check.due("8 60 are there", x.station(0, 0, 0, 7), -1);
        Check.due("8 nothing was brought", x.sum(0), 1);
        Check.due("9 60 are there", x.field(0, 0), -1);
        Check.due("10 60 are there", x.reserve(0, 0, 1), -1);
        Check.due("11 60 are there", x.site(0, true), -1);
        Check.due("11 places", x.count(4), 60);
    }

    private static void whose() {
        IceTreaty x = Check.land(2);
        x.party(false);
        x.site(0, false);
        x.claim(0, 9, 27, 5);
        x.claim(1, 18, 36, 5);
        x.claim(1, 27, 27, 6);
        Check.due("25 in one", x.whose(1, 9), 1);
        Check.due("25 of like ones the lowest", x.whose(1, 18), 1);
        Check.due("25 the greatest title", x.whose(0, 27), 3);
        Check.due("25 in the other", x.whose(0, 36), 2);
        Check.due("25 its other corners", x.whose(0, 34), 2);
        Check.due("25 its other corners", x.whose(0, 20), 2);
        Check.due("25 left of it", x.whose(0, 33), -1);
        Check.due("25 below it", x.whose(0, 44), -1);
        Check.due("25 nobody's", x.whose(0, 0), -1);
        Check.due("25 a claim of title 0 is one", x.title(1, 0) ? x.whose(0, 9) : -9, 1);
        Check.due("25 no party", x.whose(3, 9), -1);
        Check.due("25 no cell", x.whose(0, 64), -1);
        Check.due("25 no cell, by one who listens", x.whose(2, 64), -1);
        Check.due("25 one who listens", x.whose(2, 9), -2);
        Check.due("25 one who listens asks for nobody's", x.whose(2, 0), -2);
        Check.text(x, "a2");
        Check.due("25 not for so many days yet", x.whose(0, 9), -2);
        x.day();
        Check.due("25 one day more", x.whose(0, 9), -2);
        x.day();
        Check.due("25 for so many days", x.whose(0, 9), 1);
        x.party(true);
        Check.due("25 by its own days", x.whose(3, 9), -2);
    }

    private static void whoseFirst() {
        IceTreaty x = Check.land(1);
        x.claim(0, 0, 0, 0);
        Check.due("25 place 0", x.whose(0, 0), 0);
        x.claim(0, 0, 0, 0);
        Check.due("25 of like ones the lowest place", x.whose(0, 0), 0);
        x.title(1, 1);
        Check.due("25 the greatest title", x.whose(0, 0), 1);
        Check.text(x, "z");
        Check.due("25 asleep: it would be", x.whose(0, 0), 1);
        x.station(0, 9, 0, 0);
        Check.due("25 a station is no claim", x.whose(0, 9), -1);
    }

    private static void look() {
        IceTreaty x = Check.land(2);
        x.claim(1, 9, 27, 5);
        x.station(1, 10, 25, 70);
        x.field(1, 11);
        x.reserve(3, 12, 8);
        x.site(13, false);
        x.site(14, true);
        x.hide(1, 20);
        int[][] due = {{0, 1, 9, 27, 5, 0}, {1, 1, 10, -1, -1, 0}, {2, 1, 11, -1, 1, 0}, {3, -1, 3, 12, 8, 0},
            {4, -1, 13, -1, -1, 0}, {5, -1, 14, -1, -1, 0}};
        for (int k = 0; k < 6; k++) {
            for (int what = 0; what < 6; what++) {
                Check.due("58 look(" + k + ", " + what + ")", x.look(k, what), due[k][what]);
            }
            for (int what = 6; what < 14 && k != 1; what++) {
                Check.due("58 look(" + k + ", " + what + ")", x.look(k, what), -1);
            }
        }
        int[] station = {25, 50, 20, 0, 0, 0, 0, 0};
        for (int what = 6; what < 14; what++) {
            Check.due("58 look(1, " + what + ")", x.look(1, what), station[what - 6]);
        }
        Check.due("58 others", x.look(1, 14), -1);
        Check.due("58 others", x.look(1, -1), -1);
        Check.due("58 no place", x.look(6, 0), -1);
        Check.due("58 no place", x.look(-1, 0), -1);
        Check.due("58 no place", x.look(Integer.MIN_VALUE, 0), -1);
    }
}
