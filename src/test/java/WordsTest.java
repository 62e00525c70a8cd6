import java.util.Random;

/** Promises 47 to 50: words, who asks what of them, who blocks, the best. */
public final class WordsTest {

    public static void main(String[] args) {
        word();
        asks();
        blocks();
        best();
        byTryingAll();
        Check.end("WordsTest");
    }

    private static void word() {
        IceTreaty x = new IceTreaty();
        Check.due("47 worth", x.word(-1), -1);
        Check.due("47 worth", x.word(1001), -1);
        for (int w = 0; w < 7; w++) {
            Check.due("47 word", x.word(w == 0 ? 0 : 1000), w);
        }
        Check.due("47 7 are there", x.word(1), -1);
        Check.due("62 words", x.count(13), 7);
    }

    private static void asks() {
        IceTreaty x = Check.land(2);
        x.word(1);
        x.word(1);
        int[][] wrong = {{2, 0, -1}, {-1, 0, -1}, {0, 2, -1}, {0, -1, 0}, {0, 0, 2}, {0, 0, -2}, {0, 0, 0}, {0, -1, -1}};
        for (int[] w : wrong) {
            Check.due("48 asks" + java.util.Arrays.toString(w), x.asks(w[0], w[1], w[2]), false);
        }
        Check.due("48 bars", x.asks(0, 0, -1), true);
        Check.due("48 it is so", x.asks(0, 0, -1), false);
        Check.due("48 another word", x.asks(0, 1, -1), true);
        Check.due("48 another party", x.asks(1, 0, -1), true);
        Check.due("48 wants", x.asks(0, 0, 1), true);
        Check.due("48 it is so", x.asks(0, 0, 1), false);
        Check.due("48 the other way", x.asks(0, 1, 0), true);
        Check.due("48 another party wants", x.asks(1, 0, 1), true);
    }

    private static void blocks() {
        IceTreaty x = Check.land(2);
        x.party(false);
        Check.due("49 no words: nothing", x.blocks(0), 0);
        Check.due("49 no such words", x.blocks(1), -1);
        for (int w = 0; w < 7; w++) {
            x.word(w);
        }
        x.asks(0, 0, -1);
        x.asks(1, 3, 2);
        x.asks(1, 4, 2);
        x.asks(2, 6, -1);
        int[][] due = {{0, 0}, {1, 1}, {2, 0}, {4, 2}, {12, 2}, {20, 2}, {28, 0}, {24, 0}, {5, 3}, {29, 1}, {64, 4}, {127, 5},
            {128, -1}, {-1, -1}, {Integer.MIN_VALUE, -1}};
        for (int[] d : due) {
            Check.due("49 blocks(" + d[0] + ")", x.blocks(d[0]), d[1]);
        }
    }

    private static void best() {
        IceTreaty x = Check.land(1);
        x.party(false);
        Check.due("50 no words", x.best(), 0);
        x.word(0);
        Check.due("50 a word of no worth", x.best(), 0);
        x.word(5);
        x.word(3);
        x.word(2);
        Check.due("50 all that have worth", x.best(), 14);
        x.asks(0, 1, -1);
        Check.due("50 less what is barred", x.best(), 12);
        x.asks(1, 2, -1);
        Check.due("50 one who listens does not matter", x.best(), 12);
        x.asks(0, 0, 3);
        Check.due("50 with what is wanted", x.best(), 13);
        x.asks(0, 0, -1);
        Check.due("50 one that can't be had then", x.best(), 4);
        IceTreaty y = Check.land(1);
        y.word(2);
        y.word(2);
        y.word(4);
        y.asks(0, 6, 0);
        y.word(0);
        y.word(0);
        y.asks(0, 3, 0);
        y.asks(0, 3, 1);
        y.asks(0, 3, 2);
        y.asks(0, 4, 3);
        Check.due("50 most worth", y.best(), 31);
        y.word(1000);
        y.asks(0, 3, -1);
        Check.due("50 one of most worth", y.best(), 32);
        fewest();
        becomes();
    }

    /** Words of no worth come in only if others want them. */
    private static void fewest() {
        IceTreaty x = Check.land(1);
        x.word(0);
        x.word(2);
        x.word(0);
        x.asks(0, 2, 1);
        Check.due("50 of like ones with fewest", x.best(), 6);
    }

    private static void becomes() {
        IceTreaty x = new IceTreaty();
        x.party(false);
        Check.text(x, "q0");
        x.word(1);
        x.asks(0, 0, -1);
        Check.due("50 it listens", x.best(), 1);
        x.day();
        Check.due("50 it decides today", x.best(), 0);
    }

    private static void byTryingAll() {
        Random random = new Random(2);
        for (int run = 0; run < 300; run++) {
            int parties = 1 + random.nextInt(4);
            int words = 1 + random.nextInt(7);
            IceTreaty x = new IceTreaty();
            boolean[] decides = new boolean[parties];
            for (int p = 0; p < parties; p++) {
                decides[p] = random.nextInt(3) > 0;
                x.party(decides[p]);
            }
            int[] worths = new int[words];
            for (int w = 0; w < words; w++) {
                worths[w] = random.nextInt(4);
                x.word(worths[w]);
            }
            int[][] asked = new int[random.nextInt(14)][];
            for (int i = 0; i < asked.length; i++) {
                asked[i] = new int[] {random.nextInt(parties), random.nextInt(words), random.nextInt(words + 1) - 1};
                x.asks(asked[i][0], asked[i][1], asked[i][2]);
            }
            int best = 0;
            for (int set = 0; set < 1 << words; set++) {
                int blocks = slowBlocks(set, asked);
                Check.due("49 by trying all, run " + run, x.blocks(set), blocks);
                boolean isBlocked = false;
                for (int p = 0; p < parties; p++) {
                    isBlocked |= decides[p] && (blocks >> p & 1) != 0;
                }
                if (!isBlocked && isBetter(set, best, worths)) {
                    best = set;
                }
            }
            Check.due("50 by trying all, run " + run, x.best(), best);
        }
    }

    private static boolean isBetter(int set, int best, int[] worths) {
        int more = 0;
        for (int w = 0; w < worths.length; w++) {
            more += worths[w] * ((set >> w & 1) - (best >> w & 1));
        }
        return more > 0 || more == 0 && Integer.bitCount(set) < Integer.bitCount(best);
    }

    private static int slowBlocks(int set, int[][] asked) {
        int bits = 0;
        for (int[] a : asked) {
            boolean has = (set >> a[1] & 1) != 0;
            boolean blocks = a[2] == -1 ? has : a[1] != a[2] && (set >> a[2] & 1) != 0 && !has;
            bits |= blocks ? 1 << a[0] : 0;
        }
        return bits;
    }
}
