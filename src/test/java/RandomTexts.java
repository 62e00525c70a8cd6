import java.util.Random;

/** Texts and conditions that keep to the grammar, by chance. */
final class RandomTexts {

    private RandomTexts() {
    }

    /** So many clauses at most; what they strike is of so many texts. */
    static String text(Random random, int most, int texts) {
        StringBuilder s = new StringBuilder(clause(random, texts));
        for (int j = random.nextInt(most); j > 0; j--) {
            s.append(';').append(clause(random, texts));
        }
        return s.toString();
    }

    private static String clause(Random random, int texts) {
        char letter = "flnsczaqkgx".charAt(random.nextInt(11));
        String condition = "(" + condition(random, 1) + ")";
        int n = random.nextInt(random.nextInt(4) == 0 ? 1000 : 8);
        switch (letter) {
            case 'f':
            case 'l':
            case 'c':
                return letter + condition;
            case 'n':
            case 's':
                return letter + condition + n;
            case 'z':
                return "z";
            case 'k':
                return "k" + random.nextInt(4) + "." + random.nextInt(4) + "=" + n;
            case 'x':
                return "x" + random.nextInt(texts) + "." + random.nextInt(12);
            default:
                return "" + letter + n;
        }
    }

    static String condition(Random random, int depth) {
        StringBuilder s = new StringBuilder(part(random, depth));
        while (random.nextInt(3) == 0) {
            s.append('|').append(part(random, depth));
        }
        return s.toString();
    }

    private static String part(Random random, int depth) {
        StringBuilder s = new StringBuilder(piece(random, depth));
        while (random.nextInt(3) == 0) {
            s.append('&').append(piece(random, depth));
        }
        return s.toString();
    }

    private static String piece(Random random, int depth) {
        int kind = random.nextInt(depth > 0 ? 6 : 4);
        if (kind == 5) {
            return "(" + condition(random, depth - 1) + ")";
        }
        if (kind == 4) {
            return "!" + piece(random, depth - 1);
        }
        return sum(random, depth) + "<>=".charAt(random.nextInt(3)) + sum(random, depth);
    }

    private static String sum(Random random, int depth) {
        StringBuilder s = new StringBuilder(product(random, depth));
        while (random.nextInt(3) == 0) {
            s.append("+-".charAt(random.nextInt(2))).append(product(random, depth));
        }
        return s.toString();
    }

    private static String product(Random random, int depth) {
        StringBuilder s = new StringBuilder(factor(random, depth));
        while (random.nextInt(3) == 0) {
            s.append("*/%".charAt(random.nextInt(3))).append(factor(random, depth));
        }
        return s.toString();
    }

    private static String factor(Random random, int depth) {
        int kind = random.nextInt(depth > 0 ? 5 : 4);
        if (kind == 4) {
            return "[" + sum(random, depth - 1) + "]";
        }
        return kind < 2 ? "" + "apbhirsnotedym".charAt(random.nextInt(14)) : "" + random.nextInt(random.nextInt(9) == 0 ? 1000000 : 4);
    }
}
