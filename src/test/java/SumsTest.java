/** Promises 61 and 62: sums and counts, and that drums and waste are told in all. */
public final class SumsTest {

    public static void main(String[] args) {
        sum();
        count();
        balance();
        Check.end("SumsTest");
    }

    private static void sum() {
        IceTreaty x = Check.land(3);
        x.work(0, 1, 0, 1, 2, 0, 0);
        x.work(2, 2, 0, 1, 2, 0, 0);
        x.site(0, false);
        x.drill(0, 1);
        x.sound(0, 900, 0);
        Check.days(x, 2);
        int[][] due = {{10, 0}, {11, 2}, {12, 0}, {13, -1}, {18, -1}, {19, -1}, {20, 100}, {21, -1}, {29, -1}, {30, -1}, {8, -1},
            {9, -1}, {-1, -1}, {Integer.MIN_VALUE, -1}, {Integer.MAX_VALUE, -1}};
        for (int[] d : due) {
            Check.due("61 sum(" + d[0] + ")", x.sum(d[0]), d[1]);
        }
        IceTreaty y = Check.land(1);
        for (int k = 0; k < 60; k++) {
            y.station(0, 0, 0, 100000);
        }
        Check.due("61 brought", y.sum(0), 6000000);
    }

    private static void count() {
        IceTreaty x = new IceTreaty();
        for (int p = 0; p < 9; p++) {
            x.party(p == 8);
        }
        Check.due("62 listens", x.count(20), -1);
        Check.due("62 decides", x.count(28), 0);
        int[] others = {29, 19, 17, 18, -1, Integer.MIN_VALUE, Integer.MAX_VALUE};
        for (int what : others) {
            Check.due("62 others", x.count(what), -1);
        }
        IceTreaty y = Check.land(1);
        Check.due("62 no party", y.count(21), -1);
        y.ice(11, 4);
        y.station(0, 0, 0, 9);
        y.station(0, 0, 0, 9);
        y.cell(1, 0, 2, -1, 0);
        y.day();
        Check.text(y, "l(a=1)");
        Check.reading(y, 0, 0, 0, "(a=2)");
        y.work(2, 0, 0, 2, 2, 0, 0);
        y.ship(0, 9, 9);
        y.sledge(0, 1, 3);
        y.party(true);
        y.visit(1, 0);
        y.site(0, false);
        y.drill(2, 0);
        y.caught(0, 0, 0, 1, 1);
        y.word(3);
        y.stop(0, 0);
        y.report(0, 0, 0, false);
        y.feed(0, 0, 0, 0, 0);
        int[] due = {1, 11, 4, 2, 3, 1, 1, 1, 1, 1, 1, 1, 1, 1, 1, 1, 20};
        for (int what = 0; what < due.length; what++) {
            Check.due("62 count(" + what + ")", y.count(what), due[what]);
        }
    }

    /** Whatever goes by, all drums brought are burnt, lost, home, or somewhere on the ice; so is all waste. */
    private static void balance() {
        java.util.Random random = new java.util.Random(3);
        for (int run = 0; run < 60; run++) {
            IceTreaty x = Check.land(1);
            for (int c = 0; c < 64; c++) {
                x.cell(c, random.nextInt(3), random.nextInt(9) == 0 ? 2 : 0, random.nextInt(8), 10 + random.nextInt(20));
            }
            for (int k = 0; k < 8; k++) {
                x.station(0, random.nextInt(64), random.nextInt(300), random.nextInt(500));
            }
            for (int s = 0; s < 4; s++) {
                x.ship(0, 1 + random.nextInt(100), random.nextInt(100));
                x.cover(s, random.nextInt(4), random.nextInt(101));
                x.sea(s, 1 + random.nextInt(20));
            }
            for (int i = 0; i < 100; i++) {
                x.voyage(random.nextInt(4), random.nextInt(4), random.nextInt(8), random.nextInt(100));
                x.hide(random.nextInt(8), random.nextInt(30) - 15);
                if (i < 80) {
                    int from = random.nextInt(8);
                    int to = random.nextInt(8);
                    x.sledge(from, to, 1 + random.nextInt(100));
                }
                x.day();
            }
            Check.days(x, 60);
            Check.due("62 no sledges are on their way", x.count(9), 0);
            long drums = x.sum(1) + x.sum(2) + x.sum(3);
            long waste = x.sum(5) + x.sum(6);
            for (int k = 0; k < x.count(4); k++) {
                drums += x.look(k, 7) + x.look(k, 8);
                waste += x.look(k, 10) + x.look(k, 11) + x.look(k, 12) + x.look(k, 13);
            }
            for (int s = 0; s < 4; s++) {
                drums += x.at(s, 1);
                waste += x.at(s, 2);
            }
            Check.due("61 drums are told in all", drums, x.sum(0));
            Check.due("61 waste is told in all", waste, x.sum(4));
        }
    }
}
