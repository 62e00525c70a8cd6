/** What the tests share: calls held against what is due, and bytes for the tape. */
final class Check {

    private static int asked = 0;
    private static int wrong = 0;

    private Check() {
    }

    static void due(String call, long got, long want) {
        asked++;
        if (got != want) {
            wrong++;
            if (wrong <= 50) {
                System.out.println(call + " answered " + got + ", due is " + want);
            }
        }
    }

    static void due(String call, boolean got, boolean want) {
        due(call, got ? 1 : 0, want ? 1 : 0);
    }

    /** Ends the test: with exit code 1 if an answer was wrong, or none was asked for. */
    static void end(String test) {
        System.out.println(test + ": " + asked + " answers, " + wrong + " wrong");
        if (wrong > 0 || asked == 0) {
            System.exit(1);
        }
    }

    /** Puts signs on the tape, with zeros behind them up to the next twenty bytes. */
    static void feed(IceTreaty x, String signs) {
        for (int i = 0; i < signs.length(); i += 20) {
            x.feed(word(signs, i), word(signs, i + 4), word(signs, i + 8), word(signs, i + 12), word(signs, i + 16));
        }
    }

    private static int word(String signs, int from) {
        int n = 0;
        for (int i = from; i < from + 4; i++) {
            n = n << 8 | (i < signs.length() ? signs.charAt(i) & 255 : 0);
        }
        return n;
    }

    /** A text on an empty tape. */
    static int text(IceTreaty x, int from, int to, String signs) {
        feed(x, signs);
        return x.text(from, to, signs.length());
    }

    static int text(IceTreaty x, String signs) {
        return text(x, 0, 3599, signs);
    }

    static int reading(IceTreaty x, int p, int i, int j, String signs) {
        feed(x, signs);
        return x.reading(p, i, j, signs.length());
    }

    static void days(IceTreaty x, int n) {
        for (int i = 0; i < n; i++) {
            x.day();
        }
    }

    /** Puts numbers on an empty tape and has them checked; zeros fill up what the tape takes. */
    static int check(IceTreaty x, int... numbers) {
        int[] five = new int[5];
        for (int i = 0; i < numbers.length; i += 5) {
            for (int j = 0; j < 5; j++) {
                five[j] = i + j < numbers.length ? numbers[i + j] : 0;
            }
            x.feed(five[0], five[1], five[2], five[3], five[4]);
        }
        return x.check(numbers.length / 2);
    }

    /** A new land with parties that decide. */
    static IceTreaty land(int parties) {
        IceTreaty x = new IceTreaty();
        for (int p = 0; p < parties; p++) {
            x.party(true);
        }
        return x;
    }
}
