import java.util.Collections;

/** Promise 14: flips. */
public final class FlipsTest {
    private static final int CALLS = 400;

    public static void main(String[] args) {
        for (int n = 1; n <= 6; n++) {
            distances(Standing.oracle(n));
            noRanks(n);
        }
        for (int n = 7; n <= 9; n++) {
            tooLarge(n);
        }
        amongOtherCalls();
        Checks.end();
    }

    private static void distances(Oracle oracle) {
        int[][] ways = oracle.flips();
        CatalanWeb web = new CatalanWeb();
        int calls = CALLS;
        for (int from = 0; from < ways.length; from++) {
            for (int to = 0; to < ways.length; to++, calls++) {
                if (calls >= CALLS || to == 0) {
                    web = calls >= CALLS ? Checks.web(oracle.n, from) : web;
                    web.unrank(from);
                    calls = calls >= CALLS ? 0 : calls + 1;
                }
                Checks.due("size " + oracle.n + ", rank " + from + ": flips(" + to + ")", web.flips(to), ways[from][to]);
            }
            Checks.due("rank() after flips", web.rank(), from);
            calls++;
        }
    }

    private static void noRanks(int n) {
        CatalanWeb web = Checks.web(n, Oracle.WORDS[n] - 1);
        for (int rank : new int[] {-1, Oracle.WORDS[n], Integer.MIN_VALUE, Integer.MAX_VALUE}) {
            Checks.illegalArgument("size " + n + ": flips(" + rank + ")", () -> web.flips(rank));
        }
        Checks.due("size " + n + ": flips to itself", web.flips(Oracle.WORDS[n] - 1), 0);
        Checks.due("rank()", web.rank(), Oracle.WORDS[n] - 1);
    }

    private static void tooLarge(int n) {
        CatalanWeb web = Checks.web(n, 3);
        for (int rank : new int[] {0, 3, Oracle.WORDS[n] - 1, Oracle.WORDS[n], -1}) {
            Checks.illegalArgument("size " + n + ": flips(" + rank + ")", () -> web.flips(rank));
        }
        Checks.due("size " + n + ": rank()", web.rank(), 3);
    }

    /** Going to and fro among sizes and operations on one object changes no answer of flips. */
    private static void amongOtherCalls() {
        CatalanWeb web = new CatalanWeb();
        for (int round = 0; round < 3; round++) {
            for (int n = 2; n <= 6; n++) {
                web.size(n);
                int first = web.rank();
                int second = web.flip(n - 2);
                Checks.due("flips after one flip", web.flips(first), 1);
                Checks.due("rank() after flips", web.rank(), second);
                web.turn();
                Checks.due("flips to itself", web.flips(web.rank()), 0);
            }
            web.size(8);
            Checks.illegalArgument("size 8: flips(0)", () -> web.flips(0));
        }
        Checks.due("the note after flips", Checks.noteOf(web, 20), Collections.nCopies(20, 0));
    }
}
