import java.util.ArrayList;
import java.util.Collections;
import java.util.List;

/**
 * Promise 9: "illegal state, changing nothing: no such counterpart stands there." What is just a
 * counterpart and what is just none, family by family; a refused call changes nothing.
 */
public final class TakeEdgesTest {
    public static void main(String[] args) {
        for (int n = 1; n <= 9; n++) {
            oneNumberOff(n);
            twoNumbersChanged(n);
            onlyItsOwnNumbersCount(n);
            presentSize(n);
            brackets(n);
            planeTreeParents(n);
        }
        binaryTrees();
        planeTrees();
        triangulations();
        noDiagonals();
        partitions();
        permutations();
        refusedAgain();
        Checks.end();
    }

    private static void accepts(int n, int family, int rank, List<Integer> numbers) {
        Checks.due("size " + n + ", the rank of " + numbers, Standing.oracle(n).rankOf(family, numbers), rank);
        Standing.on(n, Oracle.WORDS[n] / 2).withNote(numbers).takes(family);
    }

    private static void refuses(int n, int family, List<Integer> numbers) {
        Standing.on(n, Oracle.WORDS[n] / 2).withNote(numbers)
            .refuses("take(" + family + ")", IllegalStateException.class, web -> web.take(family));
    }

    private static List<Integer> changed(List<Integer> numbers, int i, int v) {
        List<Integer> others = new ArrayList<>(numbers);
        others.set(i, v);
        return others;
    }

    /** Each number of a counterpart made each other one that could be near, and the farthest ones. */
    private static void oneNumberOff(int n) {
        for (Standing standing : Standing.some(n)) {
            for (int family = 0; family < Oracle.FAMILIES; family++) {
                List<Integer> thing = standing.oracle.thing(family, standing.rank);
                for (int i = 0; i < thing.size(); i++) {
                    for (int v = -3; v <= n + 3; v++) {
                        standing.withNote(changed(thing, i, v)).takes(family);
                    }
                    refuses(n, family, changed(thing, i, Integer.MIN_VALUE));
                    refuses(n, family, changed(thing, i, Integer.MAX_VALUE));
                    refuses(n, family, changed(thing, i, thing.get(i) + 256));
                    refuses(n, family, changed(thing, i, thing.get(i) + 65536));
                }
            }
        }
    }

    private static void twoNumbersChanged(int n) {
        for (Standing standing : Standing.some(n)) {
            for (int family = 0; family < Oracle.FAMILIES; family++) {
                List<Integer> thing = standing.oracle.thing(family, standing.rank);
                for (int i = 0; i < thing.size(); i++) {
                    for (int j = i + 1; j < thing.size(); j++) {
                        List<Integer> swapped = new ArrayList<>(thing);
                        Collections.swap(swapped, i, j);
                        standing.withNote(swapped).takes(family);
                    }
                }
            }
        }
    }

    /** "from the first number on": what stands behind a thing, or a thing that begins later, is nothing. */
    private static void onlyItsOwnNumbersCount(int n) {
        for (Standing standing : Standing.some(n)) {
            for (int family = 0; family < Oracle.FAMILIES; family++) {
                List<Integer> thing = standing.oracle.thing(family, standing.rank);
                Standing written = Standing.on(n, 0).withNote(thing);
                for (int v : new int[] {-1, 0, 1, n, Integer.MIN_VALUE, Integer.MAX_VALUE}) {
                    written.withNumber(thing.size(), v).takes(family);
                    written.withNumber(19, v).takes(family);
                }
                List<Integer> later = new ArrayList<>(List.of(-5));
                later.addAll(thing);
                Standing.on(n, 0).withNote(later).takes(family);
            }
        }
    }

    /** "if it is one of the present size": what is one of the size below or above is none here. */
    private static void presentSize(int n) {
        for (int other : new int[] {n - 1, n + 1}) {
            if (other < 1 || other > 9) {
                continue;
            }
            for (Standing standing : Standing.some(other)) {
                for (int family = 0; family < Oracle.FAMILIES; family++) {
                    List<Integer> thing = standing.oracle.thing(family, standing.rank);
                    Standing.on(n, Oracle.WORDS[n] / 2).withNote(thing).takes(family);
                }
            }
        }
    }

    /** "n times 1 and n times 0 in which no beginning has more 0 than 1". */
    private static void brackets(int n) {
        List<Integer> turns = new ArrayList<>();
        for (int i = 0; i < n; i++) {
            turns.addAll(List.of(1, 0));
        }
        accepts(n, Oracle.BRACKETS, Oracle.WORDS[n] - 1, turns);
        for (int i = 0; i < n; i++) {
            refuses(n, Oracle.BRACKETS, changed(changed(turns, 2 * i, 0), 2 * i + 1, 1));
        }
        List<Integer> onesFirst = new ArrayList<>(Collections.nCopies(n, 1));
        onesFirst.addAll(Collections.nCopies(n, 0));
        accepts(n, Oracle.BRACKETS, 0, onesFirst);
        refuses(n, Oracle.BRACKETS, changed(onesFirst, 2 * n - 1, 1));
        refuses(n, Oracle.BRACKETS, changed(onesFirst, n, 1));
        refuses(n, Oracle.BRACKETS, changed(onesFirst, n - 1, 0));
        refuses(n, Oracle.BRACKETS, Collections.nCopies(2 * n, 1));
        refuses(n, Oracle.BRACKETS, Collections.nCopies(2 * n, 0));
        for (int v : new int[] {-1, 2, Integer.MIN_VALUE, Integer.MAX_VALUE}) {
            refuses(n, Oracle.BRACKETS, changed(turns, 0, v));
            refuses(n, Oracle.BRACKETS, changed(turns, 2 * n - 1, v));
        }
    }

    /** "-1 for none", and a node's number is one more than the last one in front of it. */
    private static void binaryTrees() {
        accepts(1, Oracle.BINARY_TREE, 0, List.of(-1, -1));
        refuses(1, Oracle.BINARY_TREE, List.of(0, -1));
        refuses(1, Oracle.BINARY_TREE, List.of(-1, 0));
        refuses(1, Oracle.BINARY_TREE, List.of(1, -1));
        refuses(1, Oracle.BINARY_TREE, List.of(-1, 1));
        refuses(1, Oracle.BINARY_TREE, List.of(-2, -1));
        accepts(3, Oracle.BINARY_TREE, 1, List.of(1, -1, -1, 2, -1, -1));
        accepts(3, Oracle.BINARY_TREE, 2, List.of(1, 2, -1, -1, -1, -1));
        refuses(3, Oracle.BINARY_TREE, List.of(2, 1, -1, -1, -1, -1));
        refuses(3, Oracle.BINARY_TREE, List.of(1, 1, -1, -1, -1, -1));
        refuses(3, Oracle.BINARY_TREE, List.of(1, 2, -1, 2, -1, -1));
        refuses(3, Oracle.BINARY_TREE, List.of(1, 2, 2, -1, -1, -1));
        refuses(3, Oracle.BINARY_TREE, List.of(1, -1, -1, -1, -1, -1));
        refuses(3, Oracle.BINARY_TREE, List.of(1, -1, 0, 2, -1, -1));
        refuses(3, Oracle.BINARY_TREE, List.of(1, -1, -1, 2, 3, -1));
        refuses(3, Oracle.BINARY_TREE, List.of(2, -1, -1, -1, 1, -1));
        refuses(3, Oracle.BINARY_TREE, List.of(-1, -1, -1, -1, -1, -1));
    }

    /** "-1 for node 0"; the node in front is the last one that can be a parent, node 0 the first. */
    private static void planeTreeParents(int n) {
        for (int rank : new int[] {0, Oracle.WORDS[n] - 1}) {
            List<Integer> parents = Standing.oracle(n).thing(Oracle.PLANE_TREE, rank);
            refuses(n, Oracle.PLANE_TREE, changed(parents, 0, 0));
            refuses(n, Oracle.PLANE_TREE, changed(parents, 0, -2));
            refuses(n, Oracle.PLANE_TREE, changed(parents, 0, n));
            for (int node = 1; node <= n; node++) {
                refuses(n, Oracle.PLANE_TREE, changed(parents, node, -1));
                refuses(n, Oracle.PLANE_TREE, changed(parents, node, node));
                refuses(n, Oracle.PLANE_TREE, changed(parents, node, n + 1));
                Standing.on(n, rank).withNote(changed(parents, node, 0)).takes(Oracle.PLANE_TREE);
                Standing.on(n, rank).withNote(changed(parents, node, node - 1)).takes(Oracle.PLANE_TREE);
            }
        }
    }

    /** A child of a node that has been left behind has a number that it could not have. */
    private static void planeTrees() {
        accepts(3, Oracle.PLANE_TREE, 3, List.of(-1, 0, 0, 2));
        refuses(3, Oracle.PLANE_TREE, List.of(-1, 0, 0, 1));
        refuses(4, Oracle.PLANE_TREE, List.of(-1, 0, 1, 0, 1));
        refuses(4, Oracle.PLANE_TREE, List.of(-1, 0, 1, 0, 2));
        accepts(4, Oracle.PLANE_TREE, 7, List.of(-1, 0, 1, 0, 3));
    }

    /** "i less than j, ordered by i, then by j"; "corners are no neighbours (0 and n + 1 .., too)". */
    private static void triangulations() {
        accepts(2, Oracle.TRIANGULATION, 0, List.of(0, 2));
        accepts(2, Oracle.TRIANGULATION, 1, List.of(1, 3));
        refuses(2, Oracle.TRIANGULATION, List.of(2, 0));
        refuses(2, Oracle.TRIANGULATION, List.of(0, 3));
        refuses(2, Oracle.TRIANGULATION, List.of(0, 1));
        refuses(2, Oracle.TRIANGULATION, List.of(2, 3));
        refuses(2, Oracle.TRIANGULATION, List.of(2, 4));
        refuses(2, Oracle.TRIANGULATION, List.of(-1, 1));
        refuses(2, Oracle.TRIANGULATION, List.of(1, 1));
        accepts(4, Oracle.TRIANGULATION, 0, List.of(0, 2, 0, 3, 0, 4));
        refuses(4, Oracle.TRIANGULATION, List.of(0, 3, 0, 2, 0, 4));
        refuses(4, Oracle.TRIANGULATION, List.of(0, 2, 0, 3, 0, 3));
        refuses(4, Oracle.TRIANGULATION, List.of(0, 2, 0, 3, 0, 5));
        refuses(4, Oracle.TRIANGULATION, List.of(0, 2, 0, 3, 2, 4));
        accepts(4, Oracle.TRIANGULATION, 2, List.of(0, 2, 0, 4, 2, 4));
        refuses(4, Oracle.TRIANGULATION, List.of(2, 4, 0, 2, 0, 4));
        refuses(4, Oracle.TRIANGULATION, List.of(0, 2, 0, 4, 4, 2));
        refuses(4, Oracle.TRIANGULATION, List.of(0, 2, 0, 4, 1, 3));
        accepts(4, Oracle.TRIANGULATION, 13, List.of(1, 5, 2, 5, 3, 5));
        refuses(4, Oracle.TRIANGULATION, List.of(1, 5, 3, 5, 2, 5));
        refuses(4, Oracle.TRIANGULATION, List.of(1, 5, 2, 5, 4, 5));
        refuses(4, Oracle.TRIANGULATION, List.of(0, 5, 2, 5, 3, 5));
        refuses(4, Oracle.TRIANGULATION, List.of(1, 6, 2, 6, 3, 6));
    }

    /** "the n - 1 sides of triangles": at size 1 there are none, so that every note tells the only word. */
    private static void noDiagonals() {
        for (int v : new int[] {Integer.MIN_VALUE, -1, 0, 1, Integer.MAX_VALUE}) {
            accepts(1, Oracle.TRIANGULATION, 0, List.of());
            Standing.on(1, 0).withNote(Collections.nCopies(20, v)).takes(Oracle.TRIANGULATION);
        }
    }

    /** "for each of 1 .. n the least number of its block"; blocks that cross come from no pile. */
    private static void partitions() {
        accepts(1, Oracle.PARTITION, 0, List.of(1));
        refuses(1, Oracle.PARTITION, List.of(0));
        refuses(1, Oracle.PARTITION, List.of(2));
        accepts(4, Oracle.PARTITION, 0, List.of(1, 1, 1, 1));
        accepts(4, Oracle.PARTITION, 13, List.of(1, 2, 3, 4));
        accepts(4, Oracle.PARTITION, 1, List.of(1, 1, 3, 1));
        accepts(4, Oracle.PARTITION, 7, List.of(1, 1, 3, 3));
        accepts(4, Oracle.PARTITION, 2, List.of(1, 2, 2, 1));
        refuses(4, Oracle.PARTITION, List.of(1, 2, 1, 2));
        refuses(4, Oracle.PARTITION, List.of(2, 2, 2, 2));
        refuses(4, Oracle.PARTITION, List.of(4, 4, 4, 4));
        refuses(4, Oracle.PARTITION, List.of(0, 0, 0, 0));
        refuses(4, Oracle.PARTITION, List.of(1, 1, 1, 0));
        refuses(4, Oracle.PARTITION, List.of(1, 1, 1, 5));
        refuses(4, Oracle.PARTITION, List.of(1, 3, 3, 1));
        refuses(4, Oracle.PARTITION, List.of(1, 1, 2, 2));
        refuses(4, Oracle.PARTITION, List.of(1, 2, 3, 5));
        refuses(4, Oracle.PARTITION, List.of(0, 1, 2, 3));
    }

    /** 1 .. n once each; a later 1 inside a pair is closed before it, one behind it after it. */
    private static void permutations() {
        accepts(1, Oracle.PERMUTATION, 0, List.of(1));
        refuses(1, Oracle.PERMUTATION, List.of(0));
        refuses(1, Oracle.PERMUTATION, List.of(2));
        accepts(3, Oracle.PERMUTATION, 0, List.of(3, 2, 1));
        accepts(3, Oracle.PERMUTATION, 1, List.of(3, 1, 2));
        accepts(3, Oracle.PERMUTATION, 2, List.of(2, 1, 3));
        accepts(3, Oracle.PERMUTATION, 3, List.of(1, 3, 2));
        accepts(3, Oracle.PERMUTATION, 4, List.of(1, 2, 3));
        refuses(3, Oracle.PERMUTATION, List.of(2, 3, 1));
        refuses(3, Oracle.PERMUTATION, List.of(1, 2, 2));
        refuses(3, Oracle.PERMUTATION, List.of(3, 3, 3));
        refuses(3, Oracle.PERMUTATION, List.of(0, 1, 2));
        refuses(3, Oracle.PERMUTATION, List.of(2, 3, 4));
        refuses(3, Oracle.PERMUTATION, List.of(1, 2, 4));
    }

    /** Refused calls one behind another leave no trace, and the call that is right then is taken. */
    private static void refusedAgain() {
        for (int n = 2; n <= 9; n++) {
            for (Standing standing : Standing.some(n)) {
                CatalanWeb web = standing.web();
                for (int family = 0; family < Oracle.FAMILIES; family++) {
                    int refused = family;
                    Checks.illegalState(standing + "take(" + family + ")", () -> web.take(refused));
                }
                Checks.illegalArgument(standing + "take(6)", () -> web.take(6));
                Checks.illegalArgument(standing + "size(0)", () -> web.size(0));
                standing.dueOn(standing + "refused calls", web);
                int last = Oracle.WORDS[n] - 1;
                Checks.putAll(web, standing.oracle.thing(Oracle.PLANE_TREE, last));
                Checks.due(standing + "take(2) after refused calls", web.take(Oracle.PLANE_TREE), last);
            }
        }
    }
}
