import java.util.ArrayList;
import java.util.Collections;
import java.util.List;

/** What an object must answer to one call after another, by the promises and the Oracle alone. */
final class Model {
    private static final String ILLEGAL_ARGUMENT = Call.thrown(IllegalArgumentException.class);
    private static final String ILLEGAL_STATE = Call.thrown(IllegalStateException.class);
    private static final String OUT_OF_BOUNDS = Call.thrown(IndexOutOfBoundsException.class);

    private int n = 1;
    private int rank = 0;
    private List<Integer> note = new ArrayList<>(Collections.nCopies(20, 0));

    int size() {
        return n;
    }

    int words() {
        return Oracle.WORDS[n];
    }

    Oracle oracle() {
        return Standing.oracle(n);
    }

    Standing standing() {
        return new Standing(n, rank, note);
    }

    String answer(Call call) {
        switch (call.name()) {
            case "size": return size(call.first());
            case "rank": return "" + rank;
            case "unrank": return unrank(call.first());
            case "rows": return rows(call.first(), call.second());
            case "put": return put(call.first(), call.second());
            case "note": return isIn(call.first(), 0, 19) ? "" + note.get(call.first()) : OUT_OF_BOUNDS;
            case "show": return show(call.first());
            case "take": return take(call.first());
            case "mirror": return becomes(oracle().mirror(rank));
            case "turn": return becomes(oracle().turn(rank));
            case "complement": return becomes(oracle().complement(rank));
            case "flip": return flip(call.first());
            case "flips": return flips(call.first());
            default: throw new IllegalArgumentException(call.name());
        }
    }

    private static boolean isIn(int v, int least, int greatest) {
        return least <= v && v <= greatest;
    }

    private String becomes(int word) {
        rank = word;
        return "" + rank;
    }

    private String size(int size) {
        if (!isIn(size, 1, 9)) {
            return ILLEGAL_ARGUMENT;
        }
        n = size;
        rank = 0;
        return "" + words();
    }

    private String unrank(int word) {
        if (!isIn(word, 0, words() - 1)) {
            return ILLEGAL_ARGUMENT;
        }
        rank = word;
        return Call.NOTHING;
    }

    private static String rows(int up, int down) {
        return isIn(up, 0, 15) && isIn(down, 0, 15) ? "" + Oracle.rows(up, down) : ILLEGAL_ARGUMENT;
    }

    private String put(int i, int v) {
        if (!isIn(i, 0, 19)) {
            return OUT_OF_BOUNDS;
        }
        note.set(i, v);
        return Call.NOTHING;
    }

    private String show(int family) {
        if (!isIn(family, 0, 5)) {
            return ILLEGAL_ARGUMENT;
        }
        List<Integer> thing = oracle().thing(family, rank);
        Collections.copy(note, thing);
        return "" + thing.size();
    }

    private String take(int family) {
        if (!isIn(family, 0, 5)) {
            return ILLEGAL_ARGUMENT;
        }
        Integer word = oracle().rankOf(family, note.subList(0, oracle().thing(family, 0).size()));
        return word == null ? ILLEGAL_STATE : becomes(word);
    }

    private String flip(int d) {
        return isIn(d, 0, n - 2) ? becomes(oracle().flip(rank, d)) : OUT_OF_BOUNDS;
    }

    private String flips(int word) {
        return n <= 6 && isIn(word, 0, words() - 1) ? "" + oracle().flips()[rank][word] : ILLEGAL_ARGUMENT;
    }
}
