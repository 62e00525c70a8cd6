import java.util.Random;

/** Promises 13, 16, 17 and 23 against a second reader of texts that works on the signs themselves. */
public final class OraclesTest {

    public static void main(String[] args) {
        randomConditions();
        spoiledTexts();
        randomTreaties();
        Check.end("OraclesTest");
    }

    // ---- conditions are reckoned as they stand ----

    private static void randomConditions() {
        Random random = new Random(1);
        for (int run = 0; run < 3000; run++) {
            String condition = RandomTexts.condition(random, 3);
            if (condition.length() > 190 || depth(condition) > 7) {
                continue;
            }
            IceTreaty x = Check.land(1);
            x.work(random.nextInt(10), 0, 27, 0, 9, random.nextInt(5), random.nextInt(3));
            Check.due("13 text of " + condition, Check.text(x, "f(" + condition + ")"), 0);
            int[] letters = {x.about(0, 0), 0, 1, 0, 0, 0, 0, 0, 0, -1, -1, 3, 1, 0};
            Reader reader = new Reader(condition, letters, x);
            Check.due("23 may by " + condition, x.may(0, 363, false), reader.answer());
        }
    }

    private static int depth(String condition) {
        int depth = 0;
        int most = 0;
        for (int i = 0; i < condition.length(); i++) {
            char c = condition.charAt(i);
            depth += c == '(' || c == '[' ? 1 : c == ')' || c == ']' ? -1 : 0;
            most = Math.max(most, depth);
        }
        for (int i = 0; i < condition.length(); i++) {
            most += condition.charAt(i) == '!' ? 1 : 0;
        }
        return most;
    }

    /** Splits a condition at its weakest sign outside of brackets, from the right. */
    private static final class Reader {
        private static final class Refused extends RuntimeException {
            private static final long serialVersionUID = 1;
        }

        private final String condition;
        private final int[] letters;

        Reader(String condition, int[] letters, IceTreaty x) {
            this.condition = condition;
            this.letters = letters.clone();
            // Its people and noise are told by how it bars; readings ask for each.
            for (int n = 0; n < 5; n++) {
                this.letters[9] = asks(x, "t=" + n) ? n : this.letters[9];
                this.letters[10] = asks(x, "e=" + n) ? n : this.letters[10];
            }
        }

        private static boolean asks(IceTreaty x, String condition) {
            return Check.reading(x, 0, 0, 0, "(" + condition + ")") == 0 && x.may(0, 0, true) == 1;
        }

        int answer() {
            try {
                return holds(condition) ? 1 : 0;
            } catch (Refused refused) {
                return 6;
            }
        }

        private static int last(String s, String signs) {
            int depth = 0;
            for (int i = s.length() - 1; i >= 0; i--) {
                char c = s.charAt(i);
                depth += c == ')' || c == ']' ? 1 : c == '(' || c == '[' ? -1 : 0;
                if (depth == 0 && signs.indexOf(c) >= 0) {
                    return i;
                }
            }
            return -1;
        }

        private boolean holds(String s) {
            int at = last(s, "|");
            if (at >= 0) {
                return holds(s.substring(0, at)) || holds(s.substring(at + 1));
            }
            at = last(s, "&");
            if (at >= 0) {
                return holds(s.substring(0, at)) && holds(s.substring(at + 1));
            }
            if (s.charAt(0) == '!') {
                return !holds(s.substring(1));
            }
            at = last(s, "<>=");
            if (at < 0) {
                return holds(s.substring(1, s.length() - 1));
            }
            int left = value(s.substring(0, at));
            int right = value(s.substring(at + 1));
            return s.charAt(at) == '<' ? left < right : s.charAt(at) == '>' ? left > right : left == right;
        }

        private int value(String s) {
            int at = last(s, "+-");
            if (at < 0) {
                at = last(s, "*/%");
            }
            if (at >= 0) {
                int left = value(s.substring(0, at));
                int right = value(s.substring(at + 1));
                char sign = s.charAt(at);
                if (right == 0 && (sign == '/' || sign == '%')) {
                    throw new Refused();
                }
                return sign == '+' ? left + right : sign == '-' ? left - right : sign == '*' ? left * right
                        : sign == '/' ? left / right : left % right;
            }
            if (s.charAt(0) == '[') {
                return value(s.substring(1, s.length() - 1));
            }
            int letter = "apbhirsnotedym".indexOf(s.charAt(0));
            return letter >= 0 ? letters[letter] : Integer.parseInt(s);
        }
    }

    // ---- the first fault is where no text goes on ----

    /**
     * A sign can stand at a place if some text goes on from there. So a text that is right is cut and spoiled, and
     * the fault may not come ahead of the spoiled place, and a text that is cut ends with fault 1 at its end.
     */
    private static void spoiledTexts() {
        Random random = new Random(5);
        for (int run = 0; run < 3000; run++) {
            String text = RandomTexts.text(random, 12, 20);
            if (text.length() > 200) {
                continue;
            }
            IceTreaty x = Check.land(1);
            int answer = Check.text(x, text);
            Check.due("13 text of " + text, answer, 0);
            int cut = random.nextInt(text.length() + 1);
            String start = text.substring(0, cut);
            if (cut == 0) {
                continue;
            }
            answer = Check.text(Check.land(1), start);
            if (answer < 0) {
                Check.due("13 text of " + start, answer, -1000 - cut);
            }
            String bad = start + "_" + text.substring(cut);
            if (bad.length() <= 200) {
                Check.due("13 text of " + bad, Check.text(Check.land(1), bad), -1000 - cut);
            }
        }
    }

    // ---- what counts ----

    private static void randomTreaties() {
        Random random = new Random(9);
        for (int run = 0; run < 300; run++) {
            IceTreaty x = Check.land(2);
            int n = 1 + random.nextInt(6);
            String[][] texts = new String[n][];
            int[][] days = new int[n][];
            int[] yes = new int[n];
            for (int i = 0; i < n; i++) {
                texts[i] = new String[1 + random.nextInt(6)];
                for (int j = 0; j < texts[i].length; j++) {
                    texts[i][j] = small(random, n);
                }
                int from = random.nextInt(3) == 0 ? random.nextInt(12) : 0;
                days[i] = new int[] {from, from + random.nextInt(20)};
                Check.text(x, days[i][0], days[i][1], String.join(";", texts[i]));
                yes[i] = -1;
            }
            for (int day = 0; day < 12; day++) {
                int i = random.nextInt(n);
                if (x.yes(0, i)) {
                    yes[i] = day;
                }
                x.day();
            }
            for (int day = 0; day < 25; day++) {
                Treaty treaty = new Treaty(texts, days, yes, day);
                for (int i = 0; i < n; i++) {
                    Check.due("16 run " + run + " counts(" + i + ", 0, " + day + ")", x.counts(i, 0, day), treaty.count(i));
                }
                Check.due("17 run " + run + " a on " + day, x.number(0, 0, day), Math.max(0, treaty.number("a", n)));
                Check.due("17 run " + run + " q on " + day, x.number(1, 0, day), treaty.number("q", n));
                Check.due("17 run " + run + " g on " + day, x.number(2, 0, day), Math.max(0, treaty.number("g", n)));
                Check.due("17 run " + run + " k on " + day, x.number(16, 0, day), treaty.number("k1.2=", n));
            }
        }
    }

    private static String small(Random random, int n) {
        String[] all = {"a" + random.nextInt(9), "q" + random.nextInt(9), "g" + random.nextInt(9), "g" + random.nextInt(4),
            "k1.2=" + random.nextInt(9), "x" + random.nextInt(n) + "." + random.nextInt(6),
            "x" + random.nextInt(n) + "." + random.nextInt(6), "z"};
        return all[random.nextInt(all.length)];
    }

    /** What counts on a day, by asking anew for each clause. */
    private static final class Treaty {
        private final String[][] texts;
        private final int[][] days;
        private final int[] yes;
        private final int day;

        Treaty(String[][] texts, int[][] days, int[] yes, int day) {
            this.texts = texts;
            this.days = days;
            this.yes = yes;
            this.day = day;
        }

        private boolean binds(int i) {
            if (day < days[i][0] || day > days[i][1]) {
                return false;
            }
            return i == 0 || yes[i] >= 0 && day - yes[i] >= Math.max(0, number("g", i));
        }

        /** Whether a clause counts if only texts below one are there. */
        private boolean doesCount(int i, int j, int below) {
            if (!binds(i)) {
                return false;
            }
            for (int other = i + 1; other < below; other++) {
                for (int k = 0; k < texts[other].length; k++) {
                    if (texts[other][k].equals("x" + i + "." + j) && doesCount(other, k, below)) {
                        return false;
                    }
                }
            }
            return true;
        }

        int number(String start, int below) {
            for (int i = below - 1; i >= 0; i--) {
                for (int j = texts[i].length - 1; j >= 0; j--) {
                    if (texts[i][j].startsWith(start) && doesCount(i, j, below)) {
                        return Integer.parseInt(texts[i][j].substring(start.length()));
                    }
                }
            }
            return -1;
        }

        int count(int i) {
            int count = 0;
            for (int j = 0; j < texts[i].length; j++) {
                count += doesCount(i, j, texts.length) ? 1 : 0;
            }
            return count;
        }
    }
}
