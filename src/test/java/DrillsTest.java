/** Promises 37 to 43: soundings, drills, nests, their losses and their noise. */
public final class DrillsTest {

    public static void main(String[] args) {
        sound();
        sure();
        drill();
        speed();
        goesDown();
        begunParts();
        stays();
        birds();
        loss();
        noise();
        noiseByYears();
        Check.end("DrillsTest");
    }

    private static void sound() {
        IceTreaty x = Check.land(1);
        x.site(0, false);
        x.site(0, true);
        int[][] wrong = {{1, 1, 0}, {2, 1, 0}, {-1, 1, 0}, {0, 0, 0}, {0, 5001, 0}, {0, 1, -1}, {0, 1, 1001}};
        for (int[] w : wrong) {
            Check.due("37 sound" + java.util.Arrays.toString(w), x.sound(w[0], w[1], w[2]), false);
        }
        Check.due("38 without soundings", x.sure(0), 0);
        Check.due("37 sound", x.sound(0, 1, 0), true);
        Check.due("37 sound", x.sound(0, 5000, 1000), true);
        for (int i = 2; i < 8; i++) {
            Check.due("37 sound", x.sound(0, 70, 3), true);
        }
        Check.due("37 8 are there", x.sound(0, 70, 3), false);
        Check.due("38 a nest is no site", x.sure(1), -1);
        Check.due("38 no place", x.sure(2), -1);
        Check.due("38 no place", x.sure(-1), -1);
    }

    private static void sure() {
        sure(90, 100, 10);
        sure(0, 100, 100);
        sure(0, 100, 101);
        sure(120, 100, 20, 130, 10);
        sure(80, 100, 20, 131, 10);
        sure(80, 131, 10, 100, 20);
        sure(120, 130, 10, 100, 25);
        sure(120, 130, 10, 100, 20);
        sure(79, 130, 10, 99, 20);
        sure(0, 50, 60, 700, 10);
        sure(5000, 5000, 0);
        sure(150, 100, 50, 200, 50, 150, 0);
        sure(50, 100, 50, 201, 50, 150, 0);
        sure(0, 5, 10, 6, 20);
        sure(2, 5, 10, 6, 4);
    }

    private static void sure(int want, int... soundings) {
        IceTreaty x = Check.land(1);
        x.site(0, false);
        for (int i = 0; i < soundings.length; i += 2) {
            x.sound(0, soundings[i], soundings[i + 1]);
        }
        Check.due("38 sure of " + java.util.Arrays.toString(soundings), x.sure(0), want);
    }

    private static void drill() {
        IceTreaty x = Check.land(1);
        x.site(5, false);
        x.site(5, true);
        x.work(2, 0, 5, 0, 9, 0, 0);
        x.work(1, 0, 5, 0, 9, 0, 0);
        x.work(2, 0, 6, 0, 9, 0, 0);
        int[][] wrong = {{1, 0}, {2, 0}, {-1, 0}, {0, 1}, {0, 2}, {0, 3}, {0, -1}};
        for (int[] w : wrong) {
            Check.due("39 drill" + java.util.Arrays.toString(w), x.drill(w[0], w[1]), -1);
        }
        for (int d = 0; d < 10; d++) {
            Check.due("39 drill", x.drill(0, 0), d);
            Check.due("61 depth at first", x.sum(20 + d), 0);
        }
        Check.due("39 10 are there", x.drill(0, 0), -1);
        Check.due("62 drills", x.count(11), 10);
        Check.due("61 no drill", x.sum(30), -1);
    }

    private static void speed() {
        IceTreaty x = new IceTreaty();
        int[][] wrong = {{-2, 50}, {10, 50}, {0, 0}, {9, 201}, {-1, -1}, {-1, 1001}, {0, -5}, {Integer.MIN_VALUE, 50}};
        for (int[] w : wrong) {
            Check.due("40 speed" + java.util.Arrays.toString(w), x.speed(w[0], w[1]), false);
        }
        int[][] right = {{0, 1}, {9, 200}, {-1, 0}, {-1, 1000}};
        for (int[] r : right) {
            Check.due("40 speed" + java.util.Arrays.toString(r), x.speed(r[0], r[1]), true);
        }
    }

    private static IceTreaty drilling(int depth, int wrong) {
        IceTreaty x = Check.land(1);
        x.site(5, false);
        x.work(2, 0, 5, 0, 3599, 0, 0);
        x.drill(0, 0);
        x.sound(0, depth, wrong);
        return x;
    }

    private static void goesDown() {
        IceTreaty x = drilling(5000, 0);
        x.speed(-1, 0);
        for (int part = 0; part < 10; part++) {
            x.speed(part, 200 - part);
        }
        int depth = 0;
        for (int d = 0; d < 40; d++) {
            x.day();
            depth = Math.min(5000, depth + 200 - Math.min(9, depth / 500));
            Check.due("36 depth", x.sum(20), depth);
        }
        Check.due("36 not below what is sure", x.sum(20), 5000);
        IceTreaty y = drilling(5000, 0);
        Check.days(y, 3);
        Check.due("36 50 metres at first", y.sum(20), 150);
        y.speed(0, 100);
        Check.days(y, 3);
        y.speed(0, 49);
        y.day();
        Check.due("36 499 metres are of part 0", y.sum(20), 499);
        y.day();
        y.speed(1, 7);
        y.day();
        Check.due("36 of part 1", y.sum(20), 555);
        margin();
        held();
    }

    /** At 500 metres the second 500 are begun. */
    private static void begunParts() {
        for (int part = 1; part < 10; part++) {
            IceTreaty x = drilling(5000, 0);
            x.speed(-1, 0);
            for (int p = 0; p < 10; p++) {
                x.speed(p, 100);
            }
            Check.days(x, 5 * part - 1);
            x.speed(part - 1, 99);
            x.speed(part, 7);
            x.day();
            Check.due("36 of part " + (part - 1), x.sum(20), 500 * part - 1);
            x.speed(part - 1, 1);
            x.day();
            Check.due("36 of part " + (part - 1) + " yet", x.sum(20), 500 * part);
            x.day();
            Check.due("36 of part " + part, x.sum(20), 500 * part + 7);
        }
    }

    private static void margin() {
        IceTreaty x = drilling(500, 30);
        Check.days(x, 7);
        Check.due("36 350", x.sum(20), 350);
        x.day();
        Check.due("36 a margin of 100 at first", x.sum(20), 370);
        x.speed(-1, 20);
        Check.days(x, 3);
        Check.due("36 a margin of 20", x.sum(20), 450);
        x.sound(0, 460, 0);
        x.sound(0, 100, 0);
        x.day();
        Check.due("36 what it is already stays", x.sum(20), 450);
    }

    private static void held() {
        IceTreaty x = Check.land(1);
        Check.text(x, "f(d=2)");
        x.site(5, false);
        x.site(5, false);
        x.work(2, 0, 5, 1, 3, 0, 0);
        x.drill(0, 0);
        x.drill(1, 0);
        x.sound(0, 5000, 0);
        x.sound(1, 170, 0);
        Check.days(x, 2);
        Check.due("36 not while its work is held", x.sum(20), 50);
        Check.days(x, 5);
        Check.due("36 on days of its work alone", x.sum(20), 100);
        Check.due("36 each by its own site", x.sum(21), 70);
    }

    private static void stays() {
        IceTreaty x = Check.land(1);
        x.site(5, false);
        x.work(2, 0, 5, 0, 9, 0, 0);
        x.drill(0, 0);
        Check.days(x, 3);
        Check.due("36 without soundings it stays", x.sum(20), 0);
    }

    private static void birds() {
        IceTreaty x = new IceTreaty();
        x.site(0, true);
        x.site(0, false);
        int[][] wrong = {{1, 0, 0}, {2, 0, 0}, {-1, 0, 0}, {0, -1, 0}, {0, 10, 0}, {0, 0, -1}, {0, 0, 100001}};
        for (int[] w : wrong) {
            Check.due("41 birds" + java.util.Arrays.toString(w), x.birds(w[0], w[1], w[2]), false);
        }
        Check.due("41 birds", x.birds(0, 0, 0), true);
        Check.due("41 birds", x.birds(0, 9, 100000), true);
        Check.due("42 loss", x.loss(0, 0, 9, 0, 0), -100000);
        Check.due("41 anew", x.birds(0, 9, 7), true);
        Check.due("42 loss", x.loss(0, 0, 9, 0, 0), -7);
    }

    private static void loss() {
        IceTreaty x = new IceTreaty();
        x.site(0, true);
        x.site(0, false);
        x.birds(0, 2, 101);
        x.birds(0, 5, 33);
        x.birds(0, 6, 100000);
        int[][] due = {{2, 5, 0, 0, 68}, {2, 5, 0, 1, 68}, {2, 5, 1, 0, 65}, {2, 5, 1, 1, 71}, {2, 5, 50, 0, 0}, {2, 5, 50, 1, 136},
            {5, 6, 99, 0, -99967 - 99033}, {5, 6, 99, 1, -99967 + 99033}, {2, 5, 99, 0, 68 - 100 - 33}};
        for (int[] d : due) {
            Check.due("42 loss" + java.util.Arrays.toString(d), x.loss(0, d[0], d[1], d[2], d[3]), d[4]);
        }
        roundedUp();
        int[][] wrong = {{0, 2, 3, 0, 0}, {0, 3, 5, 0, 0}, {0, 2, 2, 0, 0}, {0, 5, 2, 0, 0}, {0, -1, 2, 0, 0}, {0, 2, 10, 0, 0},
            {0, 2, 5, -1, 0}, {0, 2, 5, 100, 0}, {0, 2, 5, 0, 2}, {0, 2, 5, 0, -1}, {1, 2, 5, 0, 0}, {2, 2, 5, 0, 0}, {-1, 2, 5, 0, 0}};
        for (int[] w : wrong) {
            Check.due("42 loss" + java.util.Arrays.toString(w), x.loss(w[0], w[1], w[2], w[3], w[4]), -1000000);
        }
    }

    private static void roundedUp() {
        int[][] due = {{1, 0, 1, 0, 2}, {0, 1, 1, -2, 0}, {100, 0, 1, 99, 101}, {101, 0, 1, 99, 103}, {0, 100, 1, -101, -99},
            {0, 101, 1, -103, -99}, {199, 199, 1, -4, 4}, {200, 200, 1, -4, 4}, {201, 201, 1, -6, 6}, {3, 7, 99, -14, 6}};
        for (int[] d : due) {
            IceTreaty x = new IceTreaty();
            x.site(0, true);
            x.birds(0, 0, d[0]);
            x.birds(0, 1, d[1]);
            Check.due("42 the least of " + java.util.Arrays.toString(d), x.loss(0, 0, 1, d[2], 0), d[3]);
            Check.due("42 the greatest of " + java.util.Arrays.toString(d), x.loss(0, 0, 1, d[2], 1), d[4]);
        }
    }

    private static void noise() {
        IceTreaty x = Check.land(1);
        Check.text(x, "f(a=9&d=2)");
        x.site(27, true);
        int[] cells = {27, 28, 45, 30, 31, 59};
        for (int c : cells) {
            x.work(1, 0, c, 1, 1, 0, 99);
        }
        x.work(9, 0, 27, 2, 2, 0, 99);
        x.work(9, 0, 27, 3, 3, 0, 7);
        Check.due("43 none yet", x.noise(0, 0), 0);
        x.day();
        Check.due("43 through far and 1, rounded down", x.noise(0, 0), 99 + 49 + 33 + 24);
        x.day();
        Check.due("43 none of what is held", x.noise(0, 0), 205);
        x.site(27, true);
        x.day();
        Check.due("43 noise", x.noise(0, 0), 212);
        Check.due("43 behind its being told", x.noise(1, 0), 7);
        Check.due("43 another year", x.noise(0, 1), 0);
        Check.due("43 the last year", x.noise(0, 9), 0);
        x.site(27, false);
        int[][] wrong = {{2, 0}, {3, 0}, {-1, 0}, {0, -1}, {0, 10}};
        for (int[] w : wrong) {
            Check.due("43 noise" + java.util.Arrays.toString(w), x.noise(w[0], w[1]), -1);
        }
    }

    private static void noiseByYears() {
        IceTreaty x = Check.land(1);
        x.site(27, true);
        x.work(1, 0, 27, 350, 730, 0, 1);
        Check.days(x, 740);
        Check.due("43 of the first year", x.noise(0, 0), 10);
        Check.due("43 of the second", x.noise(0, 1), 360);
        Check.due("43 of the third", x.noise(0, 2), 11);
    }
}
