import java.util.ArrayList;
import java.util.List;
import java.util.TreeSet;

/** A size, a current word and a note: makes objects that stand so, and compares objects with it. */
final class Standing {
    private static final int NUMBERS = 20;
    private static final Oracle[] ORACLES = new Oracle[Oracle.WORDS.length];

    final int n;
    final int rank;
    final List<Integer> note;
    final Oracle oracle;

    Standing(int n, int rank, List<Integer> note) {
        this.n = n;
        this.rank = rank;
        this.note = note;
        this.oracle = oracle(n);
    }

    interface Use {
        void on(CatalanWeb web);
    }

    static Oracle oracle(int n) {
        if (ORACLES[n] == null) {
            ORACLES[n] = new Oracle(n);
        }
        return ORACLES[n];
    }

    /** A word with a note of numbers of which none stands in any counterpart. */
    static Standing on(int n, int rank) {
        List<Integer> numbers = new ArrayList<>();
        for (int i = 0; i < NUMBERS; i++) {
            numbers.add(700 + i);
        }
        return new Standing(n, rank, numbers);
    }

    /** A size with its first, a middle and its last word. */
    static List<Standing> some(int n) {
        List<Standing> some = new ArrayList<>();
        for (int rank : new TreeSet<>(List.of(0, Oracle.WORDS[n] / 2, Oracle.WORDS[n] - 1))) {
            some.add(on(n, rank));
        }
        return some;
    }

    Standing withWord(int size, int otherRank) {
        return new Standing(size, otherRank, note);
    }

    Standing withNote(List<Integer> beginning) {
        List<Integer> numbers = new ArrayList<>(beginning);
        numbers.addAll(note.subList(beginning.size(), NUMBERS));
        return new Standing(n, rank, numbers);
    }

    Standing withNumber(int i, int v) {
        List<Integer> numbers = new ArrayList<>(note);
        numbers.set(i, v);
        return new Standing(n, rank, numbers);
    }

    CatalanWeb web() {
        CatalanWeb web = Checks.web(n, rank);
        Checks.putAll(web, note);
        return web;
    }

    /** Some 150 calls; all families are looked at, because each could be told from other fields. */
    void dueOn(String what, CatalanWeb web) {
        Checks.due(what + ", then the note", Checks.noteOf(web, NUMBERS), note);
        Checks.due(what + ", then rank()", web.rank(), rank);
        Standing shown = this;
        for (int family = 0; family < Oracle.FAMILIES; family++) {
            List<Integer> thing = oracle.thing(family, rank);
            shown = shown.withNote(thing);
            Checks.due(what + ", then show(" + family + ")", web.show(family), thing.size());
            Checks.due(what + ", then the note shown", Checks.noteOf(web, NUMBERS), shown.note);
        }
    }

    void refuses(String call, Class<? extends RuntimeException> want, Use use) {
        CatalanWeb web = web();
        Checks.dueThrow(this + call, want, () -> use.on(web));
        dueOn(this + call, web);
    }

    /** The word whose counterpart stands on the note is due; if there is none, all stays as it was. */
    void takes(int family) {
        String call = "take(" + family + ")";
        Integer want = oracle.rankOf(family, note.subList(0, oracle.thing(family, 0).size()));
        if (want == null) {
            refuses(call, IllegalStateException.class, web -> web.take(family));
        } else {
            CatalanWeb web = web();
            Checks.due(this + call, web.take(family), want);
            withWord(n, want).dueOn(this + call, web);
        }
    }

    @Override
    public String toString() {
        return "size " + n + ", rank " + rank + ", note " + note + ": ";
    }
}
