import java.util.ArrayList;
import java.util.Collections;
import java.util.List;
import java.util.Random;

/** Promises 8 and 9: show, take. */
public final class FamiliesTest {
    private static final int[] NO_FAMILIES = {-1, 6, Integer.MIN_VALUE, Integer.MAX_VALUE};
    private static final int FILL = 77;

    public static void main(String[] args) {
        for (int n = 1; n <= 9; n++) {
            Oracle oracle = Standing.oracle(n);
            for (int rank = 0; rank < oracle.words.size(); rank++) {
                showAndTakeBack(oracle, rank);
            }
            spoilt(oracle, new Random(n));
            reordered(oracle);
            otherSizes(oracle);
            noFamilies(n);
        }
        for (int n = 1; n <= 3; n++) {
            allNotes(Standing.oracle(n));
        }
        written();
        Checks.end();
    }

    private static void showAndTakeBack(Oracle oracle, int rank) {
        int n = oracle.n;
        CatalanWeb web = Checks.web(n, rank);
        for (int family = 0; family < Oracle.FAMILIES; family++) {
            String what = "size " + n + ", rank " + rank + ", family " + family + ": ";
            putFill(web);
            List<Integer> want = filled(oracle.thing(family, rank));
            Checks.due(what + "show", web.show(family), oracle.thing(family, rank).size());
            Checks.due(what + "note", Checks.noteOf(web, 20), want);
            Checks.due(what + "rank()", web.rank(), rank);
            web.unrank(Oracle.WORDS[n] - 1 - rank);
            Checks.due(what + "take", web.take(family), rank);
            Checks.due(what + "rank() after take", web.rank(), rank);
        }
        Checks.due("size " + n + ": note after take", Checks.noteOf(web, 20), filled(oracle.thing(5, rank)));
    }

    private static void putFill(CatalanWeb web) {
        for (int i = 0; i < 20; i++) {
            web.put(i, FILL);
        }
    }

    private static List<Integer> filled(List<Integer> thing) {
        List<Integer> all = new ArrayList<>(thing);
        all.addAll(Collections.nCopies(20 - thing.size(), FILL));
        return all;
    }

    private static void takeAnything(Oracle oracle, int family, List<Integer> numbers) {
        Standing.on(oracle.n, Oracle.WORDS[oracle.n] / 3).withNote(numbers).takes(family);
    }

    private static void spoilt(Oracle oracle, Random random) {
        int[] odd = {-1, -2, 0, 10, 11, 12, 20, Integer.MIN_VALUE, Integer.MAX_VALUE};
        for (int family = 0; family < Oracle.FAMILIES; family++) {
            for (int round = 0; round < 2000; round++) {
                List<Integer> numbers = new ArrayList<>(oracle.thing(family, random.nextInt(oracle.words.size())));
                int changes = 1 + random.nextInt(3);
                for (int change = 0; change < changes && !numbers.isEmpty(); change++) {
                    int v = random.nextInt(4) == 0 ? odd[random.nextInt(odd.length)] : random.nextInt(oracle.n + 3) - 1;
                    numbers.set(random.nextInt(numbers.size()), v);
                }
                takeAnything(oracle, family, numbers);
            }
        }
    }

    /** Diagonals in another order, or with the greater corner in front, are not the counterpart. */
    private static void reordered(Oracle oracle) {
        for (int rank = 0; rank < oracle.words.size(); rank += 1 + oracle.words.size() / 100) {
            List<Integer> diagonals = oracle.thing(Oracle.TRIANGULATION, rank);
            for (int d = 0; d < oracle.n - 1; d++) {
                List<Integer> numbers = new ArrayList<>(diagonals);
                Collections.swap(numbers, 2 * d, 2 * d + 1);
                takeAnything(oracle, Oracle.TRIANGULATION, numbers);
                numbers = new ArrayList<>(diagonals);
                Collections.swap(numbers, 0, 2 * d);
                Collections.swap(numbers, 1, 2 * d + 1);
                takeAnything(oracle, Oracle.TRIANGULATION, numbers);
            }
        }
    }

    /** A thing of another size is taken only if its beginning is one of the present size. */
    private static void otherSizes(Oracle oracle) {
        for (int other = 1; other <= 6; other++) {
            Oracle others = Standing.oracle(other);
            for (int family = 0; family < Oracle.FAMILIES; family++) {
                for (int rank = 0; rank < others.words.size(); rank++) {
                    List<Integer> all = new ArrayList<>(others.thing(family, rank));
                    all.addAll(Collections.nCopies(20 - all.size(), 0));
                    takeAnything(oracle, family, all.subList(0, oracle.thing(family, 0).size()));
                }
            }
        }
    }

    private static void noFamilies(int n) {
        CatalanWeb web = Checks.web(n, 0);
        for (int family : NO_FAMILIES) {
            Checks.illegalArgument("show(" + family + ")", () -> web.show(family));
            Checks.illegalArgument("take(" + family + ")", () -> web.take(family));
        }
        Checks.due("note after wrong families", Checks.noteOf(web, 20), Collections.nCopies(20, 0));
        Checks.due("rank() after wrong families", web.rank(), 0);
    }

    /** Every row of numbers from -1 to n + 1 that can stand there. */
    private static void allNotes(Oracle oracle) {
        for (int family = 0; family < Oracle.FAMILIES; family++) {
            int length = oracle.thing(family, 0).size();
            int values = length == 6 && family == 1 ? oracle.n + 2 : length == 6 ? 3 : oracle.n + 3;
            for (int code = 0; code < Math.pow(values, length); code++) {
                List<Integer> numbers = new ArrayList<>();
                for (int i = 0, left = code; i < length; i++, left /= values) {
                    numbers.add(left % values - 1);
                }
                takeAnything(oracle, family, numbers);
            }
        }
    }

    /** Worked by hand from the document: the word 1 1 0 1 0 0 1 0. */
    private static void written() {
        CatalanWeb web = new CatalanWeb();
        web.size(4);
        Checks.putAll(web, List.of(1, 1, 0, 1, 0, 0, 1, 0));
        Checks.due("take(0)", web.take(0), 6);
        String[] want = {
            "[1, 1, 0, 1, 0, 0, 1, 0]", "[1, 3, -1, 2, -1, -1, -1, -1]", "[-1, 0, 1, 1, 0]",
            "[0, 3, 1, 3, 3, 5]", "[1, 2, 1, 4]", "[3, 1, 2, 4]",
        };
        for (int family = 0; family < Oracle.FAMILIES; family++) {
            int length = web.show(family);
            Checks.due("show(" + family + ")", Checks.noteOf(web, length).toString(), want[family]);
        }
    }
}
