import java.util.Collections;
import java.util.List;

/** Promises 10 to 13: mirror, turn, complement, flip. */
public final class OperationsTest {
    public static void main(String[] args) {
        for (int n = 1; n <= 9; n++) {
            Oracle oracle = Standing.oracle(n);
            for (int rank = 0; rank < oracle.words.size(); rank++) {
                operations(oracle, rank);
                flips(oracle, rank);
            }
            noDiagonals(n);
            rounds(n);
        }
        written();
        Checks.end();
    }

    private static void operations(Oracle oracle, int rank) {
        String what = "size " + oracle.n + ", rank " + rank + ": ";
        CatalanWeb web = Checks.web(oracle.n, rank);
        Checks.due(what + "mirror()", web.mirror(), oracle.mirror(rank));
        dueNow(what + "mirror()", web, oracle, oracle.mirror(rank));
        web = Checks.web(oracle.n, rank);
        Checks.due(what + "turn()", web.turn(), oracle.turn(rank));
        dueNow(what + "turn()", web, oracle, oracle.turn(rank));
        web = Checks.web(oracle.n, rank);
        Checks.due(what + "complement()", web.complement(), oracle.complement(rank));
        dueNow(what + "complement()", web, oracle, oracle.complement(rank));
    }

    private static void flips(Oracle oracle, int rank) {
        for (int d = 0; d < oracle.n - 1; d++) {
            String what = "size " + oracle.n + ", rank " + rank + ": flip(" + d + ")";
            CatalanWeb web = Checks.web(oracle.n, rank);
            Checks.due(what, web.flip(d), oracle.flip(rank, d));
            dueNow(what, web, oracle, oracle.flip(rank, d));
        }
    }

    /** The operation changed the word to the one due, and left the note alone. */
    private static void dueNow(String what, CatalanWeb web, Oracle oracle, int rank) {
        Checks.due(what + ", then rank()", web.rank(), rank);
        Checks.due(what + ", then the note", Checks.noteOf(web, 20), Collections.nCopies(20, 0));
        int length = web.show(0);
        Checks.due(what + ", then the word", Checks.noteOf(web, length), oracle.thing(0, rank));
    }

    private static void noDiagonals(int n) {
        CatalanWeb web = Checks.web(n, Oracle.WORDS[n] - 1);
        for (int d : new int[] {-1, n - 1, n, 9, Integer.MIN_VALUE, Integer.MAX_VALUE}) {
            Checks.outOfBounds("size " + n + ": flip(" + d + ")", () -> web.flip(d));
            Checks.due("rank() after flip(" + d + ")", web.rank(), Oracle.WORDS[n] - 1);
        }
    }

    /** Calls one behind another on one object: each comes back to the first word after its round. */
    private static void rounds(int n) {
        int rank = 2 * Oracle.WORDS[n] / 3;
        CatalanWeb web = Checks.web(n, rank);
        web.mirror();
        Checks.due("size " + n + ": mirror twice", web.mirror(), rank);
        for (int i = 0; i < n + 1; i++) {
            web.turn();
        }
        Checks.due("size " + n + ": turn n + 2 times", web.turn(), rank);
        for (int i = 0; i < 2 * n - 1; i++) {
            web.complement();
        }
        Checks.due("size " + n + ": complement 2n times", web.complement(), rank);
    }

    /** Worked by hand from the document: the word 1 1 0 1 0 0 1 0, with the diagonals 03 13 35. */
    private static void written() {
        Checks.due("mirror()", Checks.web(4, 6).mirror(), 10);
        CatalanWeb web = Checks.web(4, 6);
        web.turn();
        web.show(3);
        Checks.due("turned", Checks.noteOf(web, 6), List.of(0, 4, 1, 4, 2, 4));
        web = Checks.web(4, 6);
        web.flip(1);
        web.show(3);
        Checks.due("flipped 1", Checks.noteOf(web, 6), List.of(0, 2, 0, 3, 3, 5));
        web = Checks.web(4, 6);
        web.complement();
        web.show(4);
        Checks.due("complement of 13/2/4", Checks.noteOf(web, 4), List.of(1, 1, 3, 3));
    }
}
