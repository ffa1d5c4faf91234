import java.util.ArrayList;
import java.util.List;

/**
 * The sentences that refuse a call for its arguments: the last ones allowed and the first ones that
 * are not, on both sides, and the least and the greatest int; a refused call changes nothing.
 */
public final class RefusalsTest {
    public static void main(String[] args) {
        for (int n = 1; n <= 9; n++) {
            for (Standing standing : Standing.some(n)) {
                sizes(standing);
                ranks(standing);
                rows(standing);
                putPlaces(standing);
                notePlaces(standing);
                shownFamilies(standing);
                takenFamilies(standing);
                diagonals(standing);
                flipsRanks(standing);
            }
        }
        flipsSizes();
        Checks.end();
    }

    private static List<Integer> outside(int least, int greatest) {
        return List.of(Integer.MIN_VALUE, least - 2, least - 1, greatest + 1, greatest + 2, Integer.MAX_VALUE);
    }

    /** "The SIZE n is 1 .. 9." Promise 2: "Illegal argument: n is not 1 .. 9." */
    private static void sizes(Standing standing) {
        for (int n : outside(1, 9)) {
            standing.refuses("size(" + n + ")", IllegalArgumentException.class, web -> web.size(n));
        }
        for (int n = 1; n <= 9; n++) {
            CatalanWeb web = standing.web();
            Checks.due(standing + "size(" + n + ")", web.size(n), Oracle.WORDS[n]);
            standing.withWord(n, 0).dueOn(standing + "size(" + n + ")", web);
        }
    }

    /** Promise 4: "Illegal argument: there is none such." */
    private static void ranks(Standing standing) {
        int last = Oracle.WORDS[standing.n] - 1;
        for (int rank : outside(0, last)) {
            standing.refuses("unrank(" + rank + ")", IllegalArgumentException.class, web -> web.unrank(rank));
        }
        for (int rank : new int[] {0, last}) {
            CatalanWeb web = standing.web();
            web.unrank(rank);
            standing.withWord(standing.n, rank).dueOn(standing + "unrank(" + rank + ")", web);
        }
    }

    /** Promise 5: "Illegal argument: up or down is not 0 .. 15." */
    private static void rows(Standing standing) {
        for (int no : outside(0, 15)) {
            for (int other : new int[] {0, 15, no}) {
                noRows(standing, no, other);
                noRows(standing, other, no);
            }
        }
        CatalanWeb web = standing.web();
        Checks.due("rows(0, 0)", web.rows(0, 0), 1);
        Checks.due("rows(15, 0)", web.rows(15, 0), 1);
        Checks.due("rows(0, 15)", web.rows(0, 15), 0);
        Checks.due("rows(15, 15)", web.rows(15, 15), 9694845);
        standing.dueOn(standing + "rows", web);
    }

    private static void noRows(Standing standing, int up, int down) {
        String call = "rows(" + up + ", " + down + ")";
        standing.refuses(call, IllegalArgumentException.class, web -> web.rows(up, down));
    }

    /** Promise 6: "Index out of bounds: i is not 0 .. 19." */
    private static void putPlaces(Standing standing) {
        for (int i : outside(0, 19)) {
            for (int v : new int[] {5, Integer.MIN_VALUE, Integer.MAX_VALUE}) {
                standing.refuses("put(" + i + ", " + v + ")", IndexOutOfBoundsException.class, web -> web.put(i, v));
            }
        }
        for (int i : new int[] {0, 19}) {
            for (int v : new int[] {0, -1, Integer.MIN_VALUE, Integer.MAX_VALUE}) {
                CatalanWeb web = standing.web();
                web.put(i, v);
                standing.withNumber(i, v).dueOn(standing + "put(" + i + ", " + v + ")", web);
            }
        }
    }

    /** Promise 7: "Index out of bounds: i is not 0 .. 19." */
    private static void notePlaces(Standing standing) {
        for (int i : outside(0, 19)) {
            standing.refuses("note(" + i + ")", IndexOutOfBoundsException.class, web -> web.note(i));
        }
        CatalanWeb web = standing.web();
        Checks.due(standing + "note(0)", web.note(0), standing.note.get(0));
        Checks.due(standing + "note(19)", web.note(19), standing.note.get(19));
        standing.dueOn(standing + "note", web);
    }

    /** Promise 8: "Illegal argument: family is not 0 .. 5." */
    private static void shownFamilies(Standing standing) {
        for (int family : outside(0, 5)) {
            standing.refuses("show(" + family + ")", IllegalArgumentException.class, web -> web.show(family));
        }
        for (int family : new int[] {0, 5}) {
            CatalanWeb web = standing.web();
            List<Integer> thing = standing.oracle.thing(family, standing.rank);
            Checks.due(standing + "show(" + family + ")", web.show(family), thing.size());
            standing.withNote(thing).dueOn(standing + "show(" + family + ")", web);
        }
    }

    /** Promise 9: "Illegal argument: family is not 0 .. 5", whether or not a counterpart stands there. */
    private static void takenFamilies(Standing standing) {
        List<Standing> notes = new ArrayList<>(List.of(standing));
        for (int family = 0; family < Oracle.FAMILIES; family++) {
            notes.add(standing.withNote(standing.oracle.thing(family, Oracle.WORDS[standing.n] - 1 - standing.rank)));
        }
        for (Standing written : notes) {
            for (int family : outside(0, 5)) {
                written.refuses("take(" + family + ")", IllegalArgumentException.class, web -> web.take(family));
            }
            written.takes(0);
            written.takes(5);
        }
    }

    /** Promise 13: "Index out of bounds: there is no such diagonal." There are n - 1, for size 1 none. */
    private static void diagonals(Standing standing) {
        for (int d : outside(0, standing.n - 2)) {
            standing.refuses("flip(" + d + ")", IndexOutOfBoundsException.class, web -> web.flip(d));
        }
        for (int d = 0; d < standing.n - 1; d++) {
            CatalanWeb web = standing.web();
            int want = standing.oracle.flip(standing.rank, d);
            Checks.due(standing + "flip(" + d + ")", web.flip(d), want);
            standing.withWord(standing.n, want).dueOn(standing + "flip(" + d + ")", web);
        }
    }

    /** Promise 14: "Illegal argument: there is no such rank, or the size is above 6." */
    private static void flipsRanks(Standing standing) {
        int last = Oracle.WORDS[standing.n] - 1;
        for (int rank : outside(0, last)) {
            standing.refuses("flips(" + rank + ")", IllegalArgumentException.class, web -> web.flips(rank));
        }
        for (int rank : new int[] {0, standing.rank, last}) {
            if (standing.n > 6) {
                standing.refuses("flips(" + rank + ")", IllegalArgumentException.class, web -> web.flips(rank));
            } else {
                CatalanWeb web = standing.web();
                int want = standing.oracle.flips()[standing.rank][rank];
                Checks.due(standing + "flips(" + rank + ")", web.flips(rank), want);
                standing.dueOn(standing + "flips(" + rank + ")", web);
            }
        }
    }

    /** Promise 14: the size counts as it is at the call, whatever sizes the object has had before. */
    private static void flipsSizes() {
        Standing six = Standing.on(6, 131);
        CatalanWeb web = six.web();
        Checks.due("size 6: flips(131)", web.flips(131), 0);
        Checks.illegalArgument("size 6: flips(132)", () -> web.flips(132));
        web.size(7);
        web.unrank(428);
        Checks.illegalArgument("size 7: flips(0)", () -> web.flips(0));
        Checks.illegalArgument("size 7: flips(428)", () -> web.flips(428));
        Standing.on(7, 428).dueOn("size 7 after size 6", web);
        CatalanWeb again = six.web();
        again.size(7);
        Checks.illegalArgument("size 7: flips(131)", () -> again.flips(131));
        again.size(6);
        Checks.due("size 6 after size 7: flips(0)", again.flips(0), 0);
    }
}
