import java.util.ArrayList;
import java.util.List;

/** Texts read a second time, straight by the document's grammar: a condition becomes a function of the letters. */
final class SecondTexts {

    private static final String LETTERS = "apbhirsnotedym";
    private static final String CLAUSES = "flnsczaqkgx";
    private static final String CONDITIONS = "flnsc";
    private static final String NUMBERS = "nsaqkg";

    interface Condition {
        boolean holds(int[] letters);
    }

    interface Reckoning {
        int of(int[] letters);
    }

    static final class Refused extends RuntimeException {
        private static final long serialVersionUID = 1;
    }

    /** Carries what text() and reading() answer. */
    static final class Fault extends RuntimeException {
        private static final long serialVersionUID = 1;
        final int answer;

        Fault(int kind, int place) {
            answer = -1000 * kind - place;
        }
    }

    static final class Clause {
        final char letter;
        Condition condition;
        int n;
        int first;
        int second;

        Clause(char letter) {
            this.letter = letter;
        }

        boolean hasCondition() {
            return condition != null;
        }
    }

    private final List<Integer> signs;
    private int place = 0;
    private int open = 0;

    private SecondTexts(List<Integer> signs) {
        this.signs = signs;
    }

    static List<Clause> clausesOf(List<Integer> signs) {
        SecondTexts reader = new SecondTexts(signs);
        List<Clause> clauses = new ArrayList<>();
        clauses.add(reader.clause(0));
        while (reader.place < signs.size()) {
            reader.take(';');
            clauses.add(reader.clause(clauses.size()));
        }
        return clauses;
    }

    static Condition readingOf(List<Integer> signs) {
        SecondTexts reader = new SecondTexts(signs);
        Condition condition = reader.inBrackets();
        if (reader.place < signs.size()) {
            throw new Fault(1, reader.place);
        }
        return condition;
    }

    private Clause clause(int before) {
        if (!isNext(CLAUSES)) {
            throw new Fault(1, place);
        }
        if (before == 12) {
            throw new Fault(4, place);
        }
        Clause clause = new Clause(take());
        if (CONDITIONS.indexOf(clause.letter) >= 0) {
            clause.condition = inBrackets();
        }
        if (clause.letter == 'k') {
            clause.first = number(3);
            take('.');
            clause.second = number(3);
            take('=');
        }
        if (clause.letter == 'x') {
            clause.first = number(19);
            take('.');
            clause.second = number(11);
        }
        if (NUMBERS.indexOf(clause.letter) >= 0) {
            clause.n = number(999999);
        }
        return clause;
    }

    private Condition inBrackets() {
        opens('(');
        Condition condition = parts();
        take(')');
        open--;
        return condition;
    }

    private Condition parts() {
        Condition all = part();
        while (isNext("|")) {
            take();
            Condition left = all;
            Condition right = part();
            all = letters -> left.holds(letters) || right.holds(letters);
        }
        return all;
    }

    private Condition part() {
        Condition all = piece();
        while (isNext("&")) {
            take();
            Condition left = all;
            Condition right = piece();
            all = letters -> left.holds(letters) && right.holds(letters);
        }
        return all;
    }

    private Condition piece() {
        if (isNext("!")) {
            opens('!');
            Condition inner = piece();
            open--;
            return letters -> !inner.holds(letters);
        }
        return isNext("(") ? inBrackets() : comparison();
    }

    private Condition comparison() {
        Reckoning left = terms();
        if (!isNext("<>=")) {
            throw new Fault(1, place);
        }
        char sign = take();
        Reckoning right = terms();
        return letters -> {
            int compared = Integer.compare(left.of(letters), right.of(letters));
            return sign == '<' ? compared < 0 : sign == '>' ? compared > 0 : compared == 0;
        };
    }

    private Reckoning terms() {
        Reckoning all = factors();
        while (isNext("+-")) {
            all = joined(all, take(), factors());
        }
        return all;
    }

    private Reckoning factors() {
        Reckoning all = factor();
        while (isNext("*/%")) {
            all = joined(all, take(), factor());
        }
        return all;
    }

    private static Reckoning joined(Reckoning left, char sign, Reckoning right) {
        return letters -> reckon(left.of(letters), sign, right.of(letters));
    }

    /** By 64 bits, of which the machine keeps 32. */
    private static int reckon(long left, char sign, long right) {
        if (right == 0 && (sign == '/' || sign == '%')) {
            throw new Refused();
        }
        switch (sign) {
            case '+':
                return (int) (left + right);
            case '-':
                return (int) (left - right);
            case '*':
                return (int) (left * right);
            case '/':
                return (int) (left / right);
            default:
                return (int) (left % right);
        }
    }

    private Reckoning factor() {
        if (isNext("[")) {
            opens('[');
            Reckoning inner = terms();
            take(']');
            open--;
            return inner;
        }
        if (isNext(LETTERS)) {
            int letter = LETTERS.indexOf(take());
            return letters -> letters[letter];
        }
        int n = number(999999);
        return letters -> n;
    }

    private int number(int most) {
        int start = place;
        int n = 0;
        while (isNext("0123456789")) {
            if (place - start == 6) {
                throw new Fault(2, place);
            }
            n = 10 * n + take() - '0';
        }
        if (place == start) {
            throw new Fault(1, place);
        }
        if (n > most) {
            throw new Fault(3, start);
        }
        return n;
    }

    private boolean isNext(String some) {
        return place < signs.size() && some.indexOf((char) (int) signs.get(place)) >= 0;
    }

    private char take() {
        return (char) (int) signs.get(place++);
    }

    private void take(char sign) {
        if (!isNext(String.valueOf(sign))) {
            throw new Fault(1, place);
        }
        place++;
    }

    private void opens(char sign) {
        if (isNext(String.valueOf(sign)) && open == 8) {
            throw new Fault(5, place);
        }
        take(sign);
        open++;
    }
}
