import java.util.ArrayList;
import java.util.Collections;
import java.util.List;

/**
 * The sentences that name a least, greatest, empty or full case, or one at which something wraps
 * around: each has a method here, with what is due worked out by hand.
 */
public final class EdgesTest {
    private static final int[][] LENGTHS = {
        {2, 4, 6, 8, 10, 12, 14, 16, 18}, {2, 4, 6, 8, 10, 12, 14, 16, 18}, {2, 3, 4, 5, 6, 7, 8, 9, 10},
        {0, 2, 4, 6, 8, 10, 12, 14, 16}, {1, 2, 3, 4, 5, 6, 7, 8, 9}, {1, 2, 3, 4, 5, 6, 7, 8, 9},
    };

    public static void main(String[] args) {
        newNote();
        newWord();
        newRefuses();
        for (int n = 1; n <= 9; n++) {
            lengths(n);
            otherNumbersStay(n);
            firstWord(n);
            lastWord(n);
            noMoreZeroThanOne(n);
            mirrorEnds(n);
            turnWraps(n);
            complementWraps(n);
        }
        neighbours();
        complementGaps();
        farthestPairs();
        emptyRows();
        smallestFlips();
        lastCall();
        Checks.end();
    }

    private static List<Integer> shown(CatalanWeb web, int family) {
        return Checks.noteOf(web, web.show(family));
    }

    private static void dueThing(String what, CatalanWeb web, int family, List<Integer> want) {
        Checks.due(what + ", family " + family, shown(web, family), want);
    }

    /** "THE NOTE has 20 numbers, at first 0." */
    private static void newNote() {
        Checks.due("the new note", Checks.noteOf(new CatalanWeb(), 20), Collections.nCopies(20, 0));
        Checks.outOfBounds("the new note's number 20", () -> new CatalanWeb().note(20));
        CatalanWeb web = new CatalanWeb();
        web.put(19, 3);
        web.put(0, 4);
        Checks.due("the note of the next object", Checks.noteOf(new CatalanWeb(), 20), Collections.nCopies(20, 0));
    }

    /** Promise 1: "Size 1, its only word." */
    private static void newWord() {
        CatalanWeb web = new CatalanWeb();
        Checks.due("new: rank()", web.rank(), 0);
        dueThing("new", web, Oracle.BRACKETS, List.of(1, 0));
        dueThing("new", web, Oracle.BINARY_TREE, List.of(-1, -1));
        dueThing("new", web, Oracle.PLANE_TREE, List.of(-1, 0));
        dueThing("new", web, Oracle.TRIANGULATION, List.of());
        dueThing("new", web, Oracle.PARTITION, List.of(1));
        dueThing("new", web, Oracle.PERMUTATION, List.of(1));
        Checks.due("new: mirror()", web.mirror(), 0);
        Checks.due("new: turn()", web.turn(), 0);
        Checks.due("new: complement()", web.complement(), 0);
        Checks.due("new: flips(0)", web.flips(0), 0);
        web.unrank(0);
        Checks.due("new: rank() after unrank(0)", web.rank(), 0);
        Checks.due("new: take(3) of the empty note", new CatalanWeb().take(3), 0);
        Checks.due("new: size(1)", new CatalanWeb().size(1), 1);
    }

    /** Promise 1: what there is none of at size 1, on an object on which no size has been set. */
    private static void newRefuses() {
        CatalanWeb web = new CatalanWeb();
        Checks.illegalArgument("new: unrank(1)", () -> web.unrank(1));
        Checks.illegalArgument("new: unrank(-1)", () -> web.unrank(-1));
        Checks.illegalArgument("new: flips(1)", () -> web.flips(1));
        Checks.illegalArgument("new: flips(-1)", () -> web.flips(-1));
        Checks.outOfBounds("new: flip(0)", () -> web.flip(0));
        Checks.outOfBounds("new: flip(-1)", () -> web.flip(-1));
        for (int family : new int[] {0, 1, 2, 4, 5}) {
            Checks.illegalState("new: take(" + family + ") of the empty note", () -> web.take(family));
        }
        new Standing(1, 0, Collections.nCopies(20, 0)).dueOn("new: refused calls", web);
    }

    /** "(2n numbers)", "(n + 1)", "(2n - 2)", "(n)": show answers how many. */
    private static void lengths(int n) {
        for (Standing standing : Standing.some(n)) {
            for (int family = 0; family < Oracle.FAMILIES; family++) {
                Checks.due(standing + "show(" + family + ")", standing.web().show(family), LENGTHS[family][n - 1]);
            }
        }
    }

    /** Promise 8: "(the other numbers stay)", and the first number is the thing's first. */
    private static void otherNumbersStay(int n) {
        for (Standing standing : Standing.some(n)) {
            for (int family = 0; family < Oracle.FAMILIES; family++) {
                CatalanWeb web = standing.web();
                int length = web.show(family);
                List<Integer> note = Checks.noteOf(web, 20);
                String what = standing + "show(" + family + ")";
                Checks.due(what + ", behind it", note.subList(length, 20), standing.note.subList(length, 20));
                for (int i = 0; i < length; i++) {
                    Checks.due(what + " wrote number " + i, note.get(i) < 700, true);
                }
            }
        }
    }

    /** Rank 0 has all its 1 in front: all parts are left ones, or "-1 for none". */
    private static void firstWord(int n) {
        CatalanWeb web = Checks.web(n, 0);
        List<Integer> word = new ArrayList<>(Collections.nCopies(n, 1));
        word.addAll(Collections.nCopies(n, 0));
        List<Integer> tree = new ArrayList<>();
        List<Integer> parents = new ArrayList<>();
        List<Integer> diagonals = new ArrayList<>();
        List<Integer> permutation = new ArrayList<>();
        for (int i = 0; i < n; i++) {
            tree.addAll(List.of(i == n - 1 ? -1 : i + 1, -1));
            parents.add(i - 1);
            permutation.add(n - i);
        }
        parents.add(n - 1);
        for (int corner = 2; corner <= n; corner++) {
            diagonals.addAll(List.of(0, corner));
        }
        String what = "size " + n + ", rank 0";
        dueThing(what, web, Oracle.BRACKETS, word);
        dueThing(what, web, Oracle.BINARY_TREE, tree);
        dueThing(what, web, Oracle.PLANE_TREE, parents);
        dueThing(what, web, Oracle.TRIANGULATION, diagonals);
        dueThing(what, web, Oracle.PARTITION, Collections.nCopies(n, 1));
        dueThing(what, web, Oracle.PERMUTATION, permutation);
    }

    /** The last rank has 1 and 0 by turns: all parts are right ones, or "-1 for none". */
    private static void lastWord(int n) {
        CatalanWeb web = Checks.web(n, Oracle.WORDS[n] - 1);
        List<Integer> word = new ArrayList<>();
        List<Integer> tree = new ArrayList<>();
        List<Integer> parents = new ArrayList<>(List.of(-1));
        List<Integer> diagonals = new ArrayList<>();
        List<Integer> numbers = new ArrayList<>();
        for (int i = 1; i <= n; i++) {
            word.addAll(List.of(1, 0));
            tree.addAll(List.of(-1, i == n ? -1 : i));
            parents.add(0);
            numbers.add(i);
        }
        for (int corner = 1; corner <= n - 1; corner++) {
            diagonals.addAll(List.of(corner, n + 1));
        }
        String what = "size " + n + ", last rank";
        dueThing(what, web, Oracle.BRACKETS, word);
        dueThing(what, web, Oracle.BINARY_TREE, tree);
        dueThing(what, web, Oracle.PLANE_TREE, parents);
        dueThing(what, web, Oracle.TRIANGULATION, diagonals);
        dueThing(what, web, Oracle.PARTITION, numbers);
        dueThing(what, web, Oracle.PERMUTATION, numbers);
    }

    /** "no beginning has more 0 than 1": as many is the last case allowed. */
    private static void noMoreZeroThanOne(int n) {
        CatalanWeb web = new CatalanWeb();
        Checks.due("size(" + n + ")", web.size(n), web.rows(n, n));
        Checks.due("rows(" + n + ", " + (n - 1) + ")", web.rows(n, n - 1), Oracle.WORDS[n]);
        Checks.due("rows(" + (n - 1) + ", " + n + ")", web.rows(n - 1, n), 0);
    }

    /** "(0 and n + 1 are neighbours, too)": with 0 the greatest corner is n, with n + 1 the least is 1. */
    private static void neighbours() {
        CatalanWeb web = Checks.web(2, 0);
        dueThing("size 2, rank 0", web, Oracle.TRIANGULATION, List.of(0, 2));
        web.unrank(1);
        dueThing("size 2, rank 1", web, Oracle.TRIANGULATION, List.of(1, 3));
        for (int n = 2; n <= 9; n++) {
            for (int rank = 0; rank < Oracle.WORDS[n]; rank++) {
                List<Integer> diagonals = shown(Checks.web(n, rank), Oracle.TRIANGULATION);
                for (int d = 0; d < n - 1; d++) {
                    int i = diagonals.get(2 * d);
                    int j = diagonals.get(2 * d + 1);
                    boolean fits = i >= 0 && j <= n + 1 && i + 1 < j && !(i == 0 && j == n + 1);
                    Checks.due("size " + n + ", rank " + rank + ": (" + i + ", " + j + ") is no side", fits, true);
                }
            }
        }
    }

    /** "up to which as many 0 as 1 stand from it on": the next place, and the last one of the word. */
    private static void farthestPairs() {
        CatalanWeb web = new CatalanWeb();
        web.size(9);
        Checks.putAll(web, List.of(1, 1, 0, 1, 0, 1, 0, 1, 0, 1, 0, 1, 0, 1, 0, 1, 0, 0));
        web.take(Oracle.BRACKETS);
        dueThing("1 (10 8 times) 0", web, Oracle.PERMUTATION, List.of(9, 1, 2, 3, 4, 5, 6, 7, 8));
        dueThing("1 (10 8 times) 0", web, Oracle.PARTITION, List.of(1, 2, 3, 4, 5, 6, 7, 8, 1));
        dueThing("1 (10 8 times) 0", web, Oracle.PLANE_TREE, List.of(-1, 0, 1, 1, 1, 1, 1, 1, 1, 1));
    }

    /** Promise 5: a row of nothing is one row; 0 alone is none, 1 alone is one. */
    private static void emptyRows() {
        CatalanWeb web = new CatalanWeb();
        Checks.due("rows(0, 0)", web.rows(0, 0), 1);
        for (int k = 1; k <= 15; k++) {
            Checks.due("rows(" + k + ", 0)", web.rows(k, 0), 1);
            Checks.due("rows(0, " + k + ")", web.rows(0, k), 0);
            Checks.due("rows(" + (k - 1) + ", " + k + ")", web.rows(k - 1, k), 0);
            Checks.due("rows(" + k + ", " + k + ")", web.rows(k, k), web.rows(k, k - 1));
            Checks.due("rows(" + k + ", 1)", web.rows(k, 1), k);
        }
        Checks.due("rows(15, 15)", web.rows(15, 15), 9694845);
    }

    /** Promise 10: the first word and the last one are their own mirrors. */
    private static void mirrorEnds(int n) {
        for (int rank : new int[] {0, Oracle.WORDS[n] - 1}) {
            Standing standing = Standing.on(n, rank);
            CatalanWeb web = standing.web();
            Checks.due(standing + "mirror()", web.mirror(), rank);
            standing.dueOn(standing + "mirror()", web);
        }
    }

    /** Promise 11: "n + 1 becoming 0": what all meets in n + 1 meets in 0 then, and in 1 next. */
    private static void turnWraps(int n) {
        Standing standing = Standing.on(n, Oracle.WORDS[n] - 1);
        CatalanWeb web = standing.web();
        Checks.due(standing + "turn()", web.turn(), 0);
        standing.withWord(n, 0).dueOn(standing + "turn()", web);
        List<Integer> meetInOne = new ArrayList<>();
        for (int corner = 3; corner <= n + 1; corner++) {
            meetInOne.addAll(List.of(1, corner));
        }
        web.turn();
        dueThing(standing + "turn() twice", web, Oracle.TRIANGULATION, meetInOne);
    }

    /** Promise 12: "(1 for z = n)", "or its least one when x is the greatest": one block, n blocks. */
    private static void complementWraps(int n) {
        int last = Oracle.WORDS[n] - 1;
        Standing standing = Standing.on(n, 0);
        CatalanWeb web = standing.web();
        Checks.due(standing + "complement()", web.complement(), last);
        standing.withWord(n, last).dueOn(standing + "complement()", web);
        Standing blocks = Standing.on(n, last);
        web = blocks.web();
        Checks.due(blocks + "complement()", web.complement(), 0);
        blocks.withWord(n, 0).dueOn(blocks + "complement()", web);
    }

    /** Promise 12 where blocks have a gap, end before n, or go round by n. */
    private static void complementGaps() {
        dueComplement(List.of(1, 2, 1), List.of(1, 1, 3));
        dueComplement(List.of(1, 1, 3), List.of(1, 2, 2));
        dueComplement(List.of(1, 2, 2), List.of(1, 2, 1));
        dueComplement(List.of(1, 2, 3, 4, 5, 6, 7, 8, 1), List.of(1, 1, 1, 1, 1, 1, 1, 1, 9));
        dueComplement(List.of(1, 1, 1, 1, 1, 1, 1, 1, 9), List.of(1, 2, 3, 4, 5, 6, 7, 8, 8));
    }

    private static void dueComplement(List<Integer> blocks, List<Integer> want) {
        CatalanWeb web = new CatalanWeb();
        web.size(blocks.size());
        Checks.putAll(web, blocks);
        web.take(Oracle.PARTITION);
        web.complement();
        dueThing("complement of " + blocks, web, Oracle.PARTITION, want);
    }

    /** Promise 13 at size 2, the least one with a diagonal, to and fro; promise 14 there. */
    private static void smallestFlips() {
        CatalanWeb web = new CatalanWeb();
        web.size(2);
        Checks.due("size 2, rank 0: flips(1)", web.flips(1), 1);
        Checks.due("size 2, rank 0: flip(0)", web.flip(0), 1);
        Checks.due("size 2, rank 1: flips(1)", web.flips(1), 0);
        Checks.due("size 2, rank 1: flip(0)", web.flip(0), 0);
        Checks.outOfBounds("size 2: flip(1)", () -> web.flip(1));
        Checks.outOfBounds("size 2: flip(-1)", () -> web.flip(-1));
        Checks.due("size 2: rank()", web.rank(), 0);
    }

    /** "at most 512 calls": the 512th one still answers. */
    private static void lastCall() {
        CatalanWeb web = new CatalanWeb();
        web.size(6);
        web.flips(131);
        for (int call = 3; call <= 511; call++) {
            web.turn();
        }
        Checks.due("the 512th call", web.turn(), turned(6, 0, 510));
    }

    private static int turned(int n, int rank, int times) {
        int at = rank;
        for (int i = 0; i < times; i++) {
            at = Standing.oracle(n).turn(at);
        }
        return at;
    }
}
