/** Promises 31 to 35, and what goes by on a day at stations: burning, cold, waste, the flow of the ice. */
public final class StationsTest {

    public static void main(String[] args) {
        people();
        hide();
        declare();
        visit();
        burning();
        justEnough();
        cold();
        coldForLonger();
        waste();
        flow();
        lostOutside();
        lostInSea();
        fieldsGo();
        Check.end("StationsTest");
    }

    /** A land of which station 0 is lost by day 10; station 1 stands. */
    private static IceTreaty withLost() {
        IceTreaty x = Check.land(2);
        x.cell(0, 0, 0, 0, 10);
        x.station(0, 0, 10, 30);
        x.station(0, 20, 0, 0);
        Check.days(x, 10);
        return x;
    }

    private static void people() {
        IceTreaty x = Check.land(1);
        x.station(0, 0, 10, 0);
        x.site(0, false);
        Check.due("31 no place", x.people(2, 1), false);
        Check.due("31 no station", x.people(1, 1), false);
        Check.due("31 below 0 then", x.people(0, -11), false);
        Check.due("31 above 500 then", x.people(0, 491), false);
        Check.due("31 as many as there are", x.people(0, -10), true);
        Check.due("31 above 500", x.people(0, 501), false);
        Check.due("31 500", x.people(0, 500), true);
        Check.due("31 below -500", x.people(0, -501), false);
        Check.due("31 none", x.people(0, 0), true);
        Check.due("31 -500", x.people(0, -500), true);
        Check.due("31 huge", x.people(0, Integer.MAX_VALUE), false);
        Check.due("31 huge", x.people(0, Integer.MIN_VALUE), false);
        Check.due("31 not by cold or loss", x.sum(7), 0);
        Check.due("31 people", x.people(0, 3) ? x.look(0, 6) : -9, 3);
        IceTreaty y = withLost();
        Check.due("31 lost", y.people(0, 0), false);
        Check.due("31 another one stands", y.people(1, 1), true);
    }

    private static void hide() {
        IceTreaty x = Check.land(1);
        x.station(0, 0, 0, 10);
        x.site(0, false);
        Check.due("32 it has not so many", x.hide(0, 11), false);
        Check.due("32 hide", x.hide(0, 10), true);
        Check.due("32 it has not so many any more", x.hide(0, 1), false);
        Check.due("32 not so many hidden ones", x.hide(0, -11), false);
        Check.due("32 none", x.hide(0, 0), true);
        Check.due("32 back", x.hide(0, -4), true);
        Check.due("32 drums", x.look(0, 7), 4);
        Check.due("32 hidden ones", x.look(0, 8), 6);
        Check.due("32 huge", x.hide(0, Integer.MIN_VALUE), false);
        Check.due("32 huge", x.hide(0, Integer.MAX_VALUE), false);
        Check.due("32 no station", x.hide(1, 0), false);
        Check.due("32 no place", x.hide(2, 0), false);
        Check.due("32 all are back", x.hide(0, -6) ? x.look(0, 7) : -9, 10);
        Check.due("32 lost", withLost().hide(0, 0), false);
    }

    private static void declare() {
        IceTreaty x = withLost();
        int[][] wrong = {{2, 0, 0}, {-1, 0, 0}, {1, -1, 0}, {1, 501, 0}, {1, 0, -1}, {1, 0, 1000001}};
        for (int[] w : wrong) {
            Check.due("33 declare" + java.util.Arrays.toString(w), x.declare(w[0], w[1], w[2]), false);
        }
        Check.due("33 declare", x.declare(1, 0, 0), true);
        Check.due("33 declare", x.declare(1, 500, 1000000), true);
        Check.due("33 even of a lost one", x.declare(0, 1, 1), true);
        x.visit(1, 1);
        Check.due("33 declare", x.declare(1, 3, 4), true);
        x.visit(1, 1);
        Check.due("35 people", x.seen(0, 3), -500);
        Check.due("35 drums", x.seen(0, 4), -1000000);
        Check.due("35 people by the latest", x.seen(1, 3), -3);
        Check.due("35 drums by the latest", x.seen(1, 4), -4);
        x.site(0, false);
        Check.due("33 no station", x.declare(2, 0, 0), false);
    }

    private static void visit() {
        IceTreaty x = Check.land(2);
        x.party(false);
        x.station(0, 0, 25, 90);
        x.site(0, false);
        x.hide(0, 40);
        Check.due("34 its own", x.visit(0, 0), -1);
        Check.due("34 one who listens", x.visit(2, 0), -1);
        Check.due("34 no party", x.visit(3, 0), -1);
        Check.due("34 no station", x.visit(1, 1), -1);
        Check.due("34 no place", x.visit(1, 2), -1);
        Check.due("34 visit", x.visit(1, 0), 0);
        x.declare(0, 20, 70);
        x.day();
        Check.due("34 visit", x.visit(1, 0), 1);
        x.declare(0, 0, 0);
        int[][] due = {{1, 0, 0, 25, 50}, {1, 0, 1, 5, -23}};
        for (int v = 0; v < 2; v++) {
            for (int what = 0; what < 5; what++) {
                Check.due("35 seen(" + v + ", " + what + ")", x.seen(v, what), due[v][what]);
            }
        }
        Check.due("35 others", x.seen(0, 5), -1000000);
        Check.due("35 others", x.seen(0, -1), -1000000);
        Check.due("35 no visit", x.seen(2, 0), -1000000);
        Check.due("35 no visit", x.seen(-1, 0), -1000000);
        for (int v = 2; v < 60; v++) {
            Check.due("34 visit", x.visit(1, 0), v);
        }
        Check.due("34 60 were", x.visit(1, 0), -1);
        Check.due("62 visits", x.count(10), 60);
        Check.due("34 lost", withLost().visit(1, 0), -1);
    }

    private static void burning() {
        int[][] needs = {{0, 0}, {1, 1}, {10, 1}, {11, 2}, {20, 2}, {21, 3}, {500, 50}};
        for (int[] n : needs) {
            IceTreaty x = Check.land(1);
            x.station(0, 0, n[0], 1000);
            x.day();
            Check.due("36 burnt by " + n[0], x.sum(1), n[1]);
            Check.due("36 left by " + n[0], x.look(0, 7), 1000 - n[1]);
            x.dark(2, 2);
            x.day();
            Check.due("36 burnt by " + n[0] + ", dark", x.sum(1), 3 * n[1]);
        }
        IceTreaty x = Check.land(1);
        x.station(0, 0, 25, 10);
        x.hide(0, 6);
        Check.days(x, 2);
        Check.due("36 as many as it has", x.sum(1), 4);
        Check.due("36 hidden ones are not burnt", x.look(0, 8), 6);
        Check.due("36 cold", x.look(0, 9), 1);
    }

    private static void justEnough() {
        IceTreaty x = Check.land(1);
        x.station(0, 0, 21, 3);
        x.day();
        Check.due("36 as many as it needs: not cold", x.look(0, 9), 0);
        Check.due("36 none left", x.look(0, 7), 0);
        x.day();
        Check.due("36 cold", x.look(0, 9), 1);
        IceTreaty y = Check.land(1);
        y.dark(1, 1);
        y.station(0, 0, 21, 5);
        y.day();
        Check.due("36 dark: one less than it needs", y.look(0, 9), 1);
        Check.due("36 they are burnt all the same", y.sum(1), 5);
    }

    /** It is the tenth day alone on which all go home: who comes while it stays cold is there on the eleventh. */
    private static void coldForLonger() {
        IceTreaty x = Check.land(1);
        x.station(0, 0, 10, 0);
        Check.days(x, 10);
        Check.due("36 the tenth day", x.look(0, 6), 0);
        x.people(0, 5);
        x.day();
        Check.due("36 cold for 11 days", x.look(0, 9), 11);
        Check.due("36 nobody goes home on the eleventh", x.look(0, 6), 5);
        Check.due("61 who went home", x.sum(7), 10);
        Check.days(x, 10);
        Check.due("36 nor on the twenty-first", x.look(0, 6), 5);
        x.people(0, -5);
        x.day();
        x.people(0, 7);
        Check.days(x, 10);
        Check.due("36 but on a tenth one anew", x.look(0, 6), 0);
        Check.due("61 who went home", x.sum(7), 17);
    }

    private static void cold() {
        IceTreaty x = Check.land(1);
        x.station(0, 0, 10, 0);
        Check.days(x, 9);
        Check.due("36 cold for 9 days", x.look(0, 9), 9);
        x.people(0, -10);
        x.day();
        Check.due("36 nobody needs a drum", x.look(0, 9), 0);
        x.people(0, 60);
        Check.days(x, 9);
        Check.due("36 nobody goes home on the ninth day", x.look(0, 6), 60);
        x.people(0, 40);
        x.day();
        Check.due("36 all go home on the tenth", x.look(0, 6), 0);
        Check.due("61 who went home", x.sum(7), 100);
        Check.due("36 it was cold", x.look(0, 9), 10);
        Check.due("36 no waste on that day", x.look(0, 10), 9 + 18);
        x.day();
        Check.due("36 it is not any more", x.look(0, 9), 0);
    }

    private static void waste() {
        int[][] wastes = {{0, 0}, {1, 1}, {50, 1}, {51, 2}, {100, 2}, {500, 10}};
        for (int[] w : wastes) {
            IceTreaty x = Check.land(1);
            x.station(0, 0, w[0], 1000);
            x.dark(2, 2);
            x.day();
            Check.due("36 waste of " + w[0], x.look(0, 10), w[1]);
            Check.due("36 of rank 3", x.look(0, 13), 0);
            x.day();
            Check.due("36 waste of " + w[0] + " in the dark", x.look(0, 13), w[1]);
            Check.due("36 of rank 0", x.look(0, 10), w[1]);
            Check.due("36 of other ranks", x.look(0, 11) + x.look(0, 12), 0);
            Check.due("61 waste made", x.sum(4), 2 * w[1]);
        }
    }

    private static void flow() {
        IceTreaty x = Check.land(1);
        x.cell(27, 0, 0, 2, 10);
        x.cell(28, 0, 0, 4, 12);
        x.day();
        x.station(0, 27, 0, 0);
        x.station(0, 28, 0, 0);
        Check.days(x, 9);
        x.station(0, 27, 0, 0);
        x.day();
        Check.due("36 ten days gone by", x.look(0, 2), 28);
        Check.due("36 another one waits", x.look(1, 2), 28);
        Check.due("36 a later one waits", x.look(2, 2), 27);
        Check.days(x, 2);
        Check.due("36 twelve days gone by", x.look(1, 2), 36);
        Check.days(x, 7);
        Check.due("36 the later one", x.look(2, 2), 28);
        Check.days(x, 2);
        Check.due("36 since it came there", x.look(0, 2), 28);
        x.day();
        Check.due("36 twelve days since it came there", x.look(0, 2), 36);
        x.cell(36, 0, 1, -1, 0);
        Check.days(x, 20);
        Check.due("36 rock stands", x.look(0, 2), 36);
        IceTreaty y = Check.land(1);
        y.cell(27, 0, 0, 2, 10);
        y.cell(28, 0, 1, -1, 0);
        y.station(0, 27, 0, 0);
        Check.days(y, 10);
        Check.due("36 onto rock", y.look(0, 2), 28);
        Check.due("36 it is not lost there", y.look(0, 5), 0);
    }

    private static void lostOutside() {
        IceTreaty x = Check.land(1);
        x.cell(15, 0, 0, 2, 10);
        x.station(0, 15, 60, 200);
        x.field(0, 3);
        x.field(0, 20);
        x.hide(0, 7);
        Check.days(x, 9);
        Check.due("36 there yet", x.look(0, 5), 0);
        x.day();
        Check.due("36 lost", x.look(0, 5), 1);
        Check.due("36 told where it was", x.look(0, 2), 15);
        Check.due("36 its field is lost", x.look(1, 5), 1);
        Check.due("36 its field is told where it was", x.look(1, 2), 3);
        Check.due("36 its field is lost", x.look(2, 5), 1);
        Check.due("36 its field is told where it was", x.look(2, 2), 20);
        Check.due("61 drums and hidden ones lost", x.sum(2), 140);
        Check.due("61 waste lost", x.sum(5), 20);
        Check.due("61 people home", x.sum(7), 60);
        for (int what = 6; what < 14; what++) {
            Check.due("58 of a lost one, " + what, x.look(0, what), 0);
        }
        Check.days(x, 3);
        Check.due("36 nothing goes by at a lost one", x.sum(1) + 1000 * x.sum(4), 60 + 20000);
        edges();
    }

    private static void edges() {
        int[] cells = {3, 7, 15, 63, 60, 56, 8, 0};
        for (int way = 0; way < 8; way++) {
            IceTreaty x = Check.land(1);
            x.cell(cells[way], 0, 0, way, 10);
            x.station(0, cells[way], 0, 0);
            Check.days(x, 10);
            Check.due("36 outside by way " + way, x.look(0, 5), 1);
            Check.due("36 told where it was, way " + way, x.look(0, 2), cells[way]);
        }
    }

    private static void lostInSea() {
        for (int ground = 2; ground < 4; ground++) {
            IceTreaty x = Check.land(1);
            x.cell(15, 0, 0, 4, 10);
            x.cell(23, 0, ground, -1, 0);
            x.station(0, 15, 1, 5);
            x.field(0, 3);
            x.field(0, 60);
            Check.days(x, 10);
            Check.due("36 lost", x.look(0, 5), 1);
            Check.due("36 lost there", x.look(0, 2), 23);
            Check.due("36 its field goes, too", x.look(1, 2), 11);
            Check.due("36 and is lost", x.look(1, 5), 1);
            Check.due("36 but not outside", x.look(2, 2), 60);
            Check.due("36 and is lost", x.look(2, 5), 1);
            Check.due("36 it was cold", x.look(0, 9), 5);
        }
    }

    private static void fieldsGo() {
        IceTreaty x = Check.land(2);
        x.cell(27, 0, 0, 3, 10);
        x.cell(36, 0, 0, 7, 10);
        x.cell(45, 0, 1, -1, 0);
        x.station(0, 27, 0, 0);
        x.station(0, 0, 0, 0);
        x.field(0, 7);
        x.field(0, 57);
        x.field(0, 36);
        x.field(0, 1);
        x.field(0, 2);
        x.field(1, 3);
        x.cell(10, 0, 2, -1, 0);
        x.cell(11, 0, 3, -1, 0);
        x.cell(2, 0, 3, -1, 0);
        Check.days(x, 10);
        int[][] due = {{0, 36, 0}, {1, 0, 0}, {2, 7, 1}, {3, 57, 1}, {4, 45, 0}, {5, 10, 1}, {6, 11, 1}, {7, 3, 0}};
        for (int[] d : due) {
            Check.due("36 cell of " + d[0], x.look(d[0], 2), d[1]);
            Check.due("36 lost " + d[0], x.look(d[0], 5), d[2]);
        }
        Check.days(x, 10);
        Check.due("36 back", x.look(0, 2), 27);
        Check.due("36 its field, too", x.look(4, 2), 36);
        Check.due("36 what is lost stays", x.look(2, 2), 7);
        Check.due("36 what is lost stays", x.look(5, 2), 10);
    }
}
