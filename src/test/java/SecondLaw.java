import java.util.ArrayList;
import java.util.Arrays;
import java.util.HashSet;
import java.util.List;
import java.util.Set;

/** What counts of the texts, asked anew each time, from the highest number down. */
final class SecondLaw {

    static final class Text {
        final int from;
        final int to;
        final List<SecondTexts.Clause> clauses;
        // By parties: the day of its yes, or -1.
        final int[] yes = new int[9];

        Text(int from, int to, List<SecondTexts.Clause> clauses) {
            this.from = from;
            this.to = to;
            this.clauses = clauses;
            Arrays.fill(yes, -1);
        }
    }

    static final class Reading {
        final int party;
        final SecondTexts.Clause clause;
        final SecondTexts.Condition condition;

        Reading(int party, SecondTexts.Clause clause, SecondTexts.Condition condition) {
            this.party = party;
            this.clause = clause;
            this.condition = condition;
        }
    }

    /** A clause that counts, and where it stands. */
    static final class Place {
        final int text;
        final int number;
        final SecondTexts.Clause clause;

        Place(int text, int number, SecondTexts.Clause clause) {
            this.text = text;
            this.number = number;
            this.clause = clause;
        }
    }

    final List<Text> texts = new ArrayList<>();
    final List<Reading> readings = new ArrayList<>();

    /** From the lowest text up. */
    List<Place> counting(int p, int day) {
        boolean[] binding = new boolean[texts.size()];
        for (int i = 0; i < binding.length; i++) {
            binding[i] = binds(p, day, i, binding);
        }
        return countingBelow(texts.size(), binding);
    }

    private boolean binds(int p, int day, int i, boolean[] binding) {
        Text text = texts.get(i);
        if (day < text.from || day > text.to || i > 0 && (text.yes[p] < 0 || text.yes[p] > day)) {
            return false;
        }
        return i == 0 || text.yes[p] + Math.max(0, last(countingBelow(i, binding), 'g', 0, 0)) <= day;
    }

    private List<Place> countingBelow(int below, boolean[] binding) {
        List<Place> counting = new ArrayList<>();
        Set<List<Integer>> struck = new HashSet<>();
        for (int i = below - 1; i >= 0; i--) {
            List<SecondTexts.Clause> clauses = binding[i] ? texts.get(i).clauses : List.of();
            List<Place> own = new ArrayList<>();
            for (int j = 0; j < clauses.size(); j++) {
                if (!struck.contains(List.of(i, j))) {
                    own.add(new Place(i, j, clauses.get(j)));
                }
            }
            for (Place place : own) {
                if (place.clause.letter == 'x' && place.clause.first < i) {
                    struck.add(List.of(place.clause.first, place.clause.second));
                }
            }
            counting.addAll(0, own);
        }
        return counting;
    }

    private static int last(List<Place> counting, char letter, int first, int second) {
        int n = -1;
        for (Place place : counting) {
            SecondTexts.Clause clause = place.clause;
            if (clause.letter == letter && (letter != 'k' || clause.first == first && clause.second == second)) {
                n = clause.n;
            }
        }
        return n;
    }

    int number(int p, int day, char letter) {
        return last(counting(p, day), letter, 0, 0);
    }

    int limit(int p, int day, int kind, int sea) {
        return last(counting(p, day), 'k', kind, sea);
    }

    boolean areAsleep(int p, int day) {
        return number(p, day, 'z') >= 0;
    }

    SecondTexts.Condition asReadBy(int p, SecondTexts.Clause clause) {
        SecondTexts.Condition condition = clause.condition;
        for (Reading reading : readings) {
            if (reading.party == p && reading.clause == clause) {
                condition = reading.condition;
            }
        }
        return condition;
    }
}
